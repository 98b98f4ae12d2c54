/-! the reference: power -/
theorem power_72 {y n k i v w : Nat} {R : Nat → Int} {T : Nat → Nat} {t s x5 : Int32} {m : Int32} {k55 : Int32 → Int32 → hp_H → Option (Int32 × hp_H)} (hi8 : i < 8) (hv : nL v ≤ 340) (hw : nL w ≤ 340) : ∀ (e j f : Nat) (h : hp_H), nL v - j = e → j ≤ nL v → e < f → m3 h y R T n t (some v) (some w) (some v) none (some w) (some v) → pc h (y + 5 + 0) j v →
    ∃ h', bX6_power_72 k55 y (nI k) (nI i) m s x5 f (nI j) h = (if v * w < LIM then k55 (s * cmpZ (R i) 0) (x5 + 1) h' else some (-1, h')) ∧ m3 h' y R T n t none (some w) (some (v * w)) none (some w) (some (v * w))
  | 0, j, f + 1, h, he, hi, hf, S, P => by
    have hb := P.1
    rw [bX6_power_72]
    rw [show j = nL v by omega] at P
    have SX := m3_wX S fr.rf (pc_mv P)
    obtain ⟨h5, p1, S5⟩ := multiply_eq SX hv hw
    rw [m3_i10 S, Option.bind_some, if_pos ((nI_leI (by omega) (by omega)).mpr (by omega)), p1, Option.bind_some, m3_r2 S5, Option.bind_some, (m3_reg S5 hi8).2.1, Option.bind_some, Option.bind_some, m3_r7 S5, Option.bind_some, m3_i10 S5, Option.bind_some, within_eq S5 (m3_vZ S5), Option.bind_some]
    refine ⟨h5, ?_, m3_nA S5⟩
    by_cases hl : v * w < LIM
    · rw [if_pos hl, if_pos hl, if_neg (by decide), Option.bind_some]
    · rw [if_neg hl, if_neg hl, if_pos rfl]
  | e + 1, j, f + 1, h, he, hi, hf, S, P => by
    have hb := P.1
    rw [bX6_power_72]
    obtain ⟨h27, p1, P27, F27, G27⟩ := pc_wr P (by omega)
    have S27 := m3_uX S F27 G27
    rw [m3_i10 S, Option.bind_some, if_neg (fun q => by have := (nI_leI (by omega) (by omega)).mp q; omega), m3_r5 S, Option.bind_some, m3_r7 S, Option.bind_some, mv_rd (m3_vZ S) (by omega), Option.bind_some, p1, Option.bind_some, Option.bind_some, ni1, nI_add]
    exact power_72 hi8 hv hw e (j + 1) f h27 (by omega) (by omega) (by omega) S27 P27
theorem power_55 {y n k i m : Nat} {R : Nat → Int} {T : Nat → Nat} {t : Int32} (hk : k < 8) (hi8 : i < 8) (hm : m ≤ 4096) : ∀ (e j f : Nat) (h : hp_H), m - j = e → j ≤ m → e < f → bl ((R i).natAbs ^ j) ≤ 4096 → m3 h y R T n t none (some (R i).natAbs) (some ((R i).natAbs ^ j)) none (some (R i).natAbs) (some ((R i).natAbs ^ j)) →
    ∃ h', bX6_power_55 y (nI k) (nI i) (nI m) f (cmpZ ((R i) ^ j) 0) (nI j) h = some ((sKeep R k ((R i) ^ m)).1, h') ∧ ms h' y (sKeep R k ((R i) ^ m)).2 T n t
  | 0, j, f + 1, h, he, hi, hf, hb, S => by
    rw [bX6_power_55]
    rw [show j = m by omega] at S ⊢
    obtain ⟨h7, p1, S7⟩ := put_eq (z := (R i) ^ m) (s := cmpZ ((R i) ^ m) 0) S hk (j := 2) (by decide) (m3_vZ S) (Int.natAbs_pow _ _) (fun _ => rfl)
    rw [if_pos ((nI_leI (by omega) (by omega)).mpr (Nat.le_refl _)), m3_r7 S, Option.bind_some, m3_i10 S, Option.bind_some, p1, Option.bind_some]
    exact ⟨h7, rfl, m3_any S7⟩
  | e + 1, j, f + 1, h, he, hi, hf, hb, S => by
    rw [bX6_power_55]
    have ri := m3_reg S hi8
    have hz : nL ((R i).natAbs ^ j) ≤ 320 := nL_le (by omega)
    obtain ⟨h12, p1, S12, -⟩ := m3_pA S ((R i).natAbs ^ j)
    rw [if_neg (fun q => by have := (nI_leI (by omega) (by omega)).mp q; omega), m3_i10 S, Option.bind_some, p1, Option.bind_some]
    obtain ⟨h', q1, q2⟩ := power_72 (k := k) (i := i) (m := nI m) (s := cmpZ ((R i) ^ j) 0) (x5 := nI j) (k55 := bX6_power_55 y (nI k) (nI i) (nI m) f) hi8 (by omega) (by omega) (nL ((R i).natAbs ^ j)) 0 hp_n h12 (by omega) (by omega) (show nL ((R i).natAbs ^ j) < 1000000 by omega) S12 (pc_0 (by omega) (m3_gX S12))
    have q1' : bX6_power_72 (bX6_power_55 y (nI k) (nI i) (nI m) f) y (nI k) (nI i) (nI m) (cmpZ ((R i) ^ j) 0) (nI j) hp_n (0 : Int32) h12 = _ := q1
    rw [q1', cmp_mul, ← Int.pow_succ, ← Nat.pow_succ, ni1, nI_add]
    rw [← Nat.pow_succ] at q2
    by_cases hl : (R i).natAbs ^ (j + 1) < LIM
    · rw [if_pos hl]
      exact power_55 hk hi8 hm e (j + 1) f h' (by omega) (by omega) (by omega) (LIM_bl.mpr hl) q2
    · rw [if_neg hl]
      have hbig : ¬ bl ((R i) ^ m).natAbs ≤ 4096 := by
        rw [Int.natAbs_pow]
        exact bl_pow_mono (show 1 ≤ j + 1 by omega) (by omega) (fun q => hl (LIM_bl.mp q))
      unfold sKeep
      rw [if_neg hbig]
      exact ⟨h', rfl, m3_any q2⟩
theorem mpower_eq {h : hp_H} {y n : Nat} {R : Nat → Int} {T : Nat → Nat} {t : Int32} (S : ms h y R T n t) (a b m : Int32) : ∃ h', fX6_power y a b m h = some ((sPower R a b m).1, h') ∧ ms h' y (sPower R a b m).2 T n 0 := by
  unfold fX6_power sPower
  obtain ⟨h1, p0, S1⟩ := ms_0 S
  rw [if_pos (m3_o S), p0, Option.bind_some]
  rcases rg6 a with ⟨e1, f1⟩ | ⟨k, hk, rfl, e1, f1⟩
  · rw [f1, Option.bind_some, if_pos rfl, e1]; exact ⟨h1, rfl, S1⟩
  rcases rg6 b with ⟨e2, f2⟩ | ⟨i, hi, rfl, e2, f2⟩
  · rw [f1, Option.bind_some, if_neg (by decide), f2, Option.bind_some, if_pos rfl, e1, e2]; exact ⟨h1, rfl, S1⟩
  rw [f1, Option.bind_some, if_neg (by decide), f2, Option.bind_some, if_neg (by decide), e1, e2]
  simp only []
  by_cases g1 : m < 0
  · rw [if_pos g1, if_pos (Or.inl g1)]; exact ⟨h1, rfl, S1⟩
  rw [if_neg g1]
  obtain ⟨j, hj, rfl⟩ := nI_of g1
  by_cases g2 : j ≤ 4096
  · have g3 : ¬ (4096 : Int32) < nI j := fun q => by
      have := (nI_ltI (a := 4096) (b := j) (by omega) (by omega)).mp q; omega
    have g4 : nI j ≤ (4096 : Int32) := (nI_leI (a := j) (b := 4096) (by omega) (by omega)).mpr g2
    obtain ⟨h12, p1, S12⟩ := toY_eq S1 hi
    obtain ⟨g, A⟩ := m3_gZ S12
    obtain ⟨h15, p2, A15, F15⟩ := ar_wr A (i := 0) (by omega) (by omega) 1
    have V15 : mv h15 (y + 5 + 2) 700 1 := ⟨by rw [nL_1]; omega, by omega, _, A15, fun j hj => by
      rw [nL_1] at hj
      rw [show j = 0 by omega, va_up_self]; rfl⟩
    have S15 := m3_wZ S12 F15 V15
    obtain ⟨h17, p3, S17, -⟩ := m3_pC S15 1
    rw [nL_1] at p3
    have p2' : hp_si h12 0 (y + 5 + 2) (0 : Int32) (1 : Int32) = some h15 := p2
    have p3' : hp_pv h15 y 6 10 (.int (1 : Int32)) = some h17 := p3
    rw [if_pos g4, if_neg (fun q => q.elim g1 g3), p1, Option.bind_some, m3_r7 S12, Option.bind_some, p2', Option.bind_some, p3', Option.bind_some, nI_cl hj]
    have e0 : (R i).natAbs ^ 0 = 1 := Nat.pow_zero _
    rw [← e0] at S17
    have L := power_55 hk hi g2 j 0 hp_n h17 (by omega) (by omega) (show j < 1000000 by omega) (by rw [e0]; decide) S17
    have c1 : cmpZ ((R i) ^ 0) 0 = 1 := by rw [Int.pow_zero]; decide
    rw [c1] at L
    exact L
  · have g3 : (4096 : Int32) < nI j := (nI_ltI (a := 4096) (b := j) (by omega) (by omega)).mpr (by omega)
    have g4 : ¬ nI j ≤ (4096 : Int32) := fun q => g2 ((nI_leI (a := j) (b := 4096) (by omega) (by omega)).mp q)
    rw [if_neg g4, if_pos (Or.inr g3)]; exact ⟨h1, rfl, S1⟩
