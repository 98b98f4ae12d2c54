/-! the reference: root -/
theorem nL_1 : nL 1 = 1 := rfl
theorem one_eq {h : hp_H} {y n v : Nat} {R : Nat → Int} {T : Nat → Nat} {t : Int32} {A C X Z : Option Nat} (S : m3 h y R T n t A (some v) C X (some v) Z) : fX6_isOne y h = some (if 1 < v then 1 else 0) := by
  have h7 := (m3_vY S).1
  unfold fX6_isOne
  rw [if_pos (m3_o S), m3_i9 S, Option.bind_some]
  by_cases h1 : 1 < nL v
  · have := (nL_lt v 1).mp h1
    rw [Nat.pow_one] at this
    rw [if_pos (show (1 : Int32) < nI (nL v) from (nI_ltI (a := 1) (by omega) (by omega)).mpr h1), if_pos (by omega)]
  · rw [if_neg (show ¬ (1 : Int32) < nI (nL v) from fun q => h1 ((nI_ltI (a := 1) (by omega) (by omega)).mp q)), Option.bind_some]
    by_cases h2 : nL v = 1
    · have hv : v < 10000 := by have := nL_top v (k := 1) (by omega); rw [Nat.pow_one] at this; exact this
      have hd : di v 0 = v := by unfold di; rw [Nat.pow_zero, Nat.div_one, Nat.mod_eq_of_lt hv]
      rw [if_pos (by rw [h2]; rfl), m3_r6 S, Option.bind_some, ni0, mv_rd (m3_vY S) (by omega), Option.bind_some, hd]
      by_cases h3 : 1 < v
      · rw [if_neg (show ¬ nI v ≤ (1 : Int32) from fun q => by have := (nI_leI (b := 1) (by omega) (by omega)).mp q; omega), if_pos h3]
      · rw [if_pos (show nI v ≤ (1 : Int32) from (nI_leI (b := 1) (by omega) (by omega)).mpr (by omega)), if_neg h3]
    · have : v = 0 := nL_z.mp (by omega)
      rw [if_neg (show ¬ nI (nL v) = (1 : Int32) from fun q => h2 ((nI_ij (b := 1) (by omega) (by omega)).mp q)), if_neg (by omega)]
theorem p4 (e : Nat) : 4 ^ (e + 1) / 2 / 2 = 4 ^ e := by
  rw [Nat.pow_succ]; omega
theorem bl_4 {e : Nat} : bl (4 ^ e) ≤ 2 * e + 1 := by
  rw [bl_le, show (4 : Nat) = 2 ^ 2 from rfl, ← Nat.pow_mul]
  exact Nat.pow_lt_pow_right (by decide) (by omega)
theorem sq_le {r N : Nat} (h : r * r ≤ N) : r ≤ N := by
  rcases Nat.eq_zero_or_pos r with e | e
  · omega
  · exact Nat.le_trans (Nat.le_mul_of_pos_right r e) h
theorem rt1 {r e : Nat} : (r + 2 ^ e) * (r + 2 ^ e) = r * r + (r * 2 ^ (e + 1) + 4 ^ e) := by
  have : 4 ^ e = 2 ^ e * 2 ^ e := by rw [← Nat.mul_pow]
  rw [this, Nat.pow_succ]; grind
theorem rt2 {r e : Nat} : (r * 2 ^ (e + 1) + 4 ^ e - 4 ^ e) / 2 = r * 2 ^ e := by
  rw [Nat.add_sub_cancel, Nat.pow_succ, ← Nat.mul_assoc, Nat.mul_div_cancel _ (by decide)]
theorem rt3 {r e : Nat} : r * 2 ^ e + 4 ^ e = (r + 2 ^ e) * 2 ^ e := by
  have : 4 ^ e = 2 ^ e * 2 ^ e := by rw [← Nat.mul_pow]
  rw [this, Nat.add_mul]
theorem root_101 {y n k N : Nat} {R : Nat → Int} {T : Nat → Nat} {t : Int32} (hk : k < 8) (hN : bl N ≤ 4096) : ∀ (e f r : Nat) (h : hp_H), e ≤ 2060 → e < f → r * r ≤ N → N < (r + 2 ^ e) * (r + 2 ^ e) → m3 h y R T n t (some (N - r * r)) (some (4 ^ e)) (some (r * 2 ^ e)) (some (N - r * r)) (some (4 ^ e)) (some (r * 2 ^ e)) →
    ∃ h', bX6_root_101 y (nI k) f h = some ((sKeep R k ((sq N : Nat) : Int)).1, h') ∧ ms h' y (sKeep R k ((sq N : Nat) : Int)).2 T n t
  | 0, f + 1, r, h, he, hf, h1, h2, S => by
    rw [bX6_root_101]
    rw [Nat.pow_zero] at h2
    simp only [Nat.pow_zero, Nat.mul_one] at S
    have es : sq N = r := sq_uniq h1 h2
    rw [one_eq S, Option.bind_some, if_neg (show ¬ 1 < 1 by omega), if_pos (show (0 : Int32) = 0 from rfl), m3_r7 S, Option.bind_some, m3_i10 S, Option.bind_some]
    obtain ⟨h9, p1, S9⟩ := put_eq (z := ((r : Nat) : Int)) (s := 1) S hk (j := 2) (by decide) (m3_vZ S) (Int.natAbs_natCast _) (cmp_nat r)
    rw [p1, Option.bind_some, es]
    exact ⟨h9, rfl, m3_any S9⟩
  | e + 1, f + 1, r, h, he, hf, h1, h2, S => by
    rw [bX6_root_101]
    have hY : 1 < 4 ^ (e + 1) := by
      rw [Nat.pow_succ]
      have := Nat.pow_pos (n := e) (show 0 < 4 by decide)
      omega
    have hrb : bl r ≤ 4096 := Nat.le_trans (bl_mono (sq_le h1)) hN
    have hzb : bl (r * 2 ^ (e + 1)) ≤ 6200 := by
      rcases Nat.eq_zero_or_pos r with q | q
      · rw [q, Nat.zero_mul, bl_0]; omega
      · rw [bl_mulp (by omega)]; omega
    have h4b := bl_4 (e := e)
    have hsb : bl (r * 2 ^ (e + 1) + 4 ^ e) ≤ 6300 := by
      rw [bl_le] at hzb h4b ⊢
      have a1 : 2 ^ 6200 ≤ 2 ^ 6299 := Nat.pow_le_pow_right (by decide) (by decide)
      have a2 : 2 ^ (2 * e + 1) ≤ 2 ^ 6299 := Nat.pow_le_pow_right (by decide) (by omega)
      have a3 : 2 ^ 6300 = 2 ^ 6299 + 2 ^ 6299 := by rw [Nat.pow_succ 2 6299, Nat.mul_two]
      rw [a3]
      exact Nat.add_lt_add (Nat.lt_of_lt_of_le hzb a1) (Nat.lt_of_lt_of_le h4b a2)
    obtain ⟨h17, p1, V17, F17⟩ := half_eq (m3_vY S)
    have S17 := m3_wY S F17 V17
    obtain ⟨h20, p2, S20, -⟩ := m3_pB S17 (4 ^ (e + 1) / 2)
    obtain ⟨h27, p3, V27, F27⟩ := half_eq (m3_vY S20)
    have S27 := m3_wY S20 F27 V27
    rw [p4] at p3 S27
    obtain ⟨h30, p5, S30, -⟩ := m3_pB S27 (4 ^ e)
    obtain ⟨h41, p6, V41, F41⟩ := added_eq (by omega) (m3_vZ S30) (m3_vY S30) (nL_7 (by omega))
    have S41 := m3_wZ S30 F41 V41
    obtain ⟨h44, p7, S44, -⟩ := m3_pC S41 (r * 2 ^ (e + 1) + 4 ^ e)
    rw [one_eq S, Option.bind_some, if_pos hY, if_neg (by decide), m3_r6 S, Option.bind_some, m3_i9 S, Option.bind_some, p1, Option.bind_some]
    simp only []
    rw [p2, Option.bind_some, m3_r6 S20, Option.bind_some, m3_i9 S20, Option.bind_some, p3, Option.bind_some]
    simp only []
    rw [p5, Option.bind_some, m3_r7 S30, Option.bind_some, m3_i10 S30, Option.bind_some, m3_r6 S30, Option.bind_some, m3_i9 S30, Option.bind_some, p6, Option.bind_some]
    simp only []
    rw [p7, Option.bind_some, m3_r7 S44, Option.bind_some, m3_i10 S44, Option.bind_some, m3_r5 S44, Option.bind_some, m3_i8 S44, Option.bind_some, cmp_eq (m3_vZ S44) (m3_vX S44), Option.bind_some]
    have e1 := rt1 (r := r) (e := e)
    by_cases hc : N - r * r < r * 2 ^ (e + 1) + 4 ^ e
    · have hlt : N < (r + 2 ^ e) * (r + 2 ^ e) := by omega
      obtain ⟨h66, q1, V66, F66⟩ := taken_eq (by omega) (Nat.le_add_left _ _) (m3_vZ S44) (m3_vY S44)
      have S66 := m3_wZ S44 F66 V66
      obtain ⟨h69, q2, S69, -⟩ := m3_pC S66 (r * 2 ^ (e + 1) + 4 ^ e - 4 ^ e)
      obtain ⟨h76, q3, V76, F76⟩ := half_eq (m3_vZ S69)
      have S76 := m3_wZ S69 F76 V76
      rw [rt2] at q3 S76
      obtain ⟨h79, q4, S79, -⟩ := m3_pC S76 (r * 2 ^ e)
      rw [if_pos ((cmpI_pos _ _).mpr hc), Option.bind_some, Option.bind_some, m3_r6 S44, Option.bind_some, m3_i9 S44, Option.bind_some, q1, Option.bind_some]
      simp only []
      rw [q2, Option.bind_some, m3_r7 S69, Option.bind_some, m3_i10 S69, Option.bind_some, q3, Option.bind_some]
      simp only []
      rw [q4, Option.bind_some]
      exact root_101 hk hN e f r h79 (by omega) (by omega) h1 hlt S79
    · have hge : r * 2 ^ (e + 1) + 4 ^ e ≤ N - r * r := by omega
      have h1' : (r + 2 ^ e) * (r + 2 ^ e) ≤ N := by omega
      obtain ⟨h90, q1, V90, F90⟩ := taken_eq (by omega) hge (m3_vX S44) (m3_vZ S44)
      have S90 := m3_wX S44 F90 V90
      have ex : N - r * r - (r * 2 ^ (e + 1) + 4 ^ e) = N - (r + 2 ^ e) * (r + 2 ^ e) := by omega
      rw [ex] at q1 S90
      obtain ⟨h93, q2, S93, -⟩ := m3_pA S90 (N - (r + 2 ^ e) * (r + 2 ^ e))
      obtain ⟨h104, q3, V104, F104⟩ := taken_eq (by omega) (Nat.le_add_left _ _) (m3_vZ S93) (m3_vY S93)
      have S104 := m3_wZ S93 F104 V104
      obtain ⟨h107, q4, S107, -⟩ := m3_pC S104 (r * 2 ^ (e + 1) + 4 ^ e - 4 ^ e)
      obtain ⟨h114, q5, V114, F114⟩ := half_eq (m3_vZ S107)
      have S114 := m3_wZ S107 F114 V114
      rw [rt2] at q5 S114
      obtain ⟨h117, q6, S117, -⟩ := m3_pC S114 (r * 2 ^ e)
      have hle : r * 2 ^ e + 4 ^ e ≤ r * 2 ^ (e + 1) + 4 ^ e := Nat.add_le_add_right (Nat.mul_le_mul_left r (Nat.pow_le_pow_right (by decide) (by omega))) _
      have hbb := bl_mono hle
      obtain ⟨h128, q7, V128, F128⟩ := added_eq (by omega) (m3_vZ S117) (m3_vY S117) (nL_7 (by omega))
      have S128 := m3_wZ S117 F128 V128
      rw [rt3] at q7 S128
      obtain ⟨h131, q8, S131, -⟩ := m3_pC S128 ((r + 2 ^ e) * 2 ^ e)
      rw [if_neg (fun w => hc ((cmpI_pos _ _).mp w)), Option.bind_some, Option.bind_some, Option.bind_some, Option.bind_some, q1, Option.bind_some]
      simp only []
      rw [q2, Option.bind_some, m3_r7 S93, Option.bind_some, m3_i10 S93, Option.bind_some, m3_r6 S93, Option.bind_some, m3_i9 S93, Option.bind_some, q3, Option.bind_some]
      simp only []
      rw [q4, Option.bind_some, m3_r7 S107, Option.bind_some, m3_i10 S107, Option.bind_some, q5, Option.bind_some]
      simp only []
      rw [q6, Option.bind_some, m3_r7 S117, Option.bind_some, m3_i10 S117, Option.bind_some, m3_r6 S117, Option.bind_some, m3_i9 S117, Option.bind_some, q7, Option.bind_some]
      simp only []
      rw [q8, Option.bind_some]
      refine root_101 hk hN e f (r + 2 ^ e) h131 (by omega) (by omega) h1' ?_ S131
      rw [Nat.add_assoc, ← Nat.two_mul, Nat.mul_comm 2, ← Nat.pow_succ]
      exact h2
theorem root_54 {y n k N : Nat} {R : Nat → Int} {T : Nat → Nat} {t : Int32} {C Z : Option Nat} (hk : k < 8) (hN : bl N ≤ 4096) : ∀ (d e f : Nat) (h : hp_H), 2050 - e = d → e ≤ 2050 → d < f → m3 h y R T n t (some N) (some (4 ^ e)) C (some N) (some (4 ^ e)) Z →
    ∃ h', bX6_root_54 y (nI k) f h = some ((sKeep R k ((sq N : Nat) : Int)).1, h') ∧ ms h' y (sKeep R k ((sq N : Nat) : Int)).2 T n t
  | d, e, f + 1, h, hd, he, hf, S => by
    rw [bX6_root_54]
    rw [m3_r6 S, Option.bind_some, m3_i9 S, Option.bind_some, m3_r5 S, Option.bind_some, m3_i8 S, Option.bind_some, cmp_eq (m3_vY S) (m3_vX S), Option.bind_some]
    by_cases hc : N < 4 ^ e
    · have G := m3_gZ S
      have V0 : mv h (y + 5 + 2) 700 0 := ⟨by rw [nL_0]; omega, by omega, G.elim fun g A => ⟨g, A, fun i hi => by rw [nL_0] at hi; omega⟩⟩
      have S0 := m3_wZ S fr.rf V0
      obtain ⟨h12, p1, S12, -⟩ := m3_pC S0 0
      rw [nL_0] at p1
      have p1' : hp_pv h y 6 10 (.int (0 : Int32)) = some h12 := p1
      rw [if_pos ((cmpI_pos _ _).mpr hc), p1', Option.bind_some]
      have e4 : 4 ^ e = 2 ^ e * 2 ^ e := by rw [← Nat.mul_pow]
      refine root_101 hk hN e hp_n 0 h12 (by omega) (show e < 1000000 by omega) (by omega) (by rw [Nat.zero_add, ← e4]; exact hc) ?_
      rw [Nat.zero_mul, Nat.zero_mul, Nat.sub_zero]
      exact S12
    · have hle : 4 ^ e ≤ N := by omega
      have heb : e < 2050 := by
        rcases Nat.lt_or_ge e 2050 with q | q
        · exact q
        · exfalso
          have h1 := bl_le.mp hN
          have e4 : 4 ^ e = 2 ^ (2 * e) := by rw [show (4 : Nat) = 2 ^ 2 from rfl, ← Nat.pow_mul]
          have h2 : 2 ^ 4096 ≤ 2 ^ (2 * e) := Nat.pow_le_pow_right (by decide) (by omega)
          rw [e4] at hle
          exact absurd (Nat.lt_of_lt_of_le h1 (Nat.le_trans h2 hle)) (Nat.lt_irrefl _)
      have b4 := bl_4 (e := e + 1)
      have e5 : 4 ^ e * 4 + 0 = 4 ^ (e + 1) := by rw [Nat.pow_succ, Nat.add_zero]
      obtain ⟨h19, p1, V19, F19⟩ := scaled_eq (m3_vY S) (m := 4) (pl := 0) (by omega) (by omega) (by omega) (by rw [e5]; exact nL_7 (by omega))
      have S19 := m3_wY S F19 V19
      rw [e5] at p1 S19
      obtain ⟨h22, p2, S22, -⟩ := m3_pB S19 (4 ^ (e + 1))
      rw [if_neg (fun w => hc ((cmpI_pos _ _).mp w)), Option.bind_some, Option.bind_some, show (4 : Int32) = nI 4 from rfl, ni0, p1, Option.bind_some]
      simp only []
      rw [p2, Option.bind_some]
      exact root_54 hk hN (d - 1) (e + 1) f h22 (by omega) (by omega) (by omega) S22
theorem mroot_eq {h : hp_H} {y n : Nat} {R : Nat → Int} {T : Nat → Nat} {t : Int32} (S : ms h y R T n t) (a b : Int32) : (∀ o, sRoot R a b = some o → ∃ h', fX6_root y a b h = some (o.1, h') ∧ ms h' y o.2 T n 0) ∧ (sRoot R a b = none → ∃ h', fX6_root y a b h = some (0, h') ∧ ms h' y R T n 1) := by
  unfold fX6_root sRoot
  obtain ⟨h1, p0, S1⟩ := ms_0 S
  rw [if_pos (m3_o S), p0, Option.bind_some]
  rcases rg6 a with ⟨e1, f1⟩ | ⟨k, hk, rfl, e1, f1⟩
  · rw [f1, Option.bind_some, if_pos rfl, e1]
    exact ⟨fun o ho => (by cases ho; exact ⟨h1, rfl, S1⟩), fun ho => (by cases ho)⟩
  rcases rg6 b with ⟨e2, f2⟩ | ⟨i, hi, rfl, e2, f2⟩
  · rw [f1, Option.bind_some, if_neg (by decide), f2, Option.bind_some, if_pos rfl, e1, e2]
    exact ⟨fun o ho => (by cases ho; exact ⟨h1, rfl, S1⟩), fun ho => (by cases ho)⟩
  rw [f1, Option.bind_some, if_neg (by decide), f2, Option.bind_some, if_neg (by decide), e1, e2]
  simp only []
  have ri := m3_reg S1 hi
  rw [m3_r2 S1, Option.bind_some, ri.2.1, Option.bind_some]
  by_cases hz : R i < 0
  · have c : cmpZ (R i) 0 = -1 := if_pos hz
    obtain ⟨h22, p1, S22, -⟩ := m3_thr S1 1
    rw [if_pos hz, c, if_neg (by decide), p1, Option.bind_some]
    exact ⟨fun o ho => (by cases ho), fun _ => ⟨h22, rfl, S22⟩⟩
  · have c : (0 : Int32) ≤ cmpZ (R i) 0 := by
      rcases cmp0 (R i) with ⟨a1, a2⟩ | ⟨a1, a2⟩ | ⟨a1, a2⟩ <;> rw [a2]
      · omega
      · decide
      · decide
    rw [if_neg hz, if_pos c]
    refine ⟨fun o ho => ?_, fun ho => (by cases ho)⟩
    cases ho
    obtain ⟨h15, p1, S15⟩ := toX_eq S1 hi
    obtain ⟨g, A⟩ := m3_gY S15
    obtain ⟨h18, p2, A18, F18⟩ := ar_wr A (i := 0) (by omega) (by omega) 1
    have V18 : mv h18 (y + 5 + 1) 700 1 := ⟨by rw [nL_1]; omega, by omega, _, A18, fun j hj => by
      rw [nL_1] at hj
      rw [show j = 0 by omega, va_up_self]; rfl⟩
    have S18 := m3_wY S15 F18 V18
    obtain ⟨h20, p3, S20, -⟩ := m3_pB S18 1
    rw [nL_1] at p3
    have p2' : hp_si h15 0 (y + 5 + 1) (0 : Int32) (1 : Int32) = some h18 := p2
    have p3' : hp_pv h18 y 6 9 (.int (1 : Int32)) = some h20 := p3
    rw [p1, Option.bind_some, m3_r6 S15, Option.bind_some, p2', Option.bind_some, p3', Option.bind_some]
    exact root_54 hk ri.2.2.1 2050 0 hp_n h20 rfl (by omega) (by decide) S20
