/-! the reference: write, type, clear, character -/
theorem write_168 {y n N : Nat} {R : Nat → Int} {T' W U : Nat → Nat} {t : Int32} {A B C X Y Z : Option Nat} (hN1 : 1 ≤ N) (hN : N ≤ 4097) (hW : ∀ i, i < N → W i < 128) (hU : ∀ i, i < N → W (N - 1 - i) = U i) : ∀ (e k f : Nat) (T : Nat → Nat) (h : hp_H), N / 2 - k = e → k ≤ N / 2 → e < f → m3 h y R T n t A B C X Y Z → tg h y N (rv W N k) →
    ∃ h', bX6_write_168 y (nI N) f (nI k) h = some (nI N, h') ∧ ms h' y R U N t
  | 0, k, f + 1, T, h, he, hk, hf, S, G => by
    rw [bX6_write_168]
    have G' : tg h y N U := tg_congr G (fun i hi => by
      rw [← hU i hi]
      unfold rv
      by_cases q : i < k ∨ N - k ≤ i
      · rw [if_pos q]
      · rw [if_neg q]; congr 1; omega)
    obtain ⟨h2, p1, S2⟩ := m3_len S G' hN (fun i hi => by rw [← hU i hi]; exact hW _ (by omega))
    rw [ni2, pk_div (by omega) (by decide) (by decide), if_pos ((nI_leI (by omega) (by omega)).mpr (by omega)), p1, Option.bind_some]
    exact ⟨h2, rfl, m3_any S2⟩
  | e + 1, k, f + 1, T, h, he, hk, hf, S, G => by
    rw [bX6_write_168]
    have ej : nI N - (1 : Int32) - nI k = nI (N - 1 - k) := by
      rw [nI_iI, nI_iI, show (1 : Int32) = iI 1 from rfl, iI_sub, iI_sub, nI_iI]; congr 1; omega
    have hr : ∀ i, i < N → rv W N k i < 128 := fun i hi => by
      unfold rv
      by_cases q : i < k ∨ N - k ≤ i
      · rw [if_pos q]; exact hW _ (by omega)
      · rw [if_neg q]; exact hW _ hi
    obtain ⟨h14, p1, S14, G14, -, F14⟩ := m3_tx S G (p := k) (c := rv W N k (N - 1 - k)) (by omega) (hr _ (by omega))
    obtain ⟨h18, p2, S18, G18, -, F18⟩ := m3_tx S14 G14 (p := N - 1 - k) (c := rv W N k k) (by omega) (hr _ (by omega))
    rw [ni2, pk_div (by omega) (by decide) (by decide), if_neg (fun q => by have := (nI_leI (by omega) (by omega)).mp q; omega), m3_r12 S, Option.bind_some, tg_rd G (by omega) (by omega), Option.bind_some, Option.bind_some, Option.bind_some, ej, tg_rd G (by omega) (by omega), Option.bind_some, p1, Option.bind_some, m3_r12 S14, Option.bind_some, p2, Option.bind_some, Option.bind_some, ni1, nI_add]
    have G18' : tg h18 y N (rv W N (k + 1)) := tg_congr G18 (fun i hi => by
      by_cases q1 : i = N - 1 - k
      · rw [q1, va_up_self]
        unfold rv
        rw [if_neg (by omega), if_pos (by omega)]
        congr 1; omega
      · rw [va_up_ne _ _ q1]
        by_cases q2 : i = k
        · rw [q2, va_up_self]
          unfold rv
          rw [if_neg (by omega), if_pos (by omega)]
        · rw [va_up_ne _ _ q2]
          unfold rv
          by_cases q3 : i < k ∨ N - k ≤ i
          · rw [if_pos q3, if_pos (by omega)]
          · rw [if_neg q3, if_neg (by omega)])
    exact write_168 (T' := T') hN1 hN hW hU e (k + 1) f _ h18 (by omega) (by omega) (by omega) S18 G18'
theorem write_165 {h : hp_H} {y n N : Nat} {R : Nat → Int} {T W U : Nat → Nat} {t : Int32} {A B C X Y Z : Option Nat} (hN1 : 1 ≤ N) (hN : N ≤ 4097) (hW : ∀ i, i < N → W i < 128) (hU : ∀ i, i < N → W (N - 1 - i) = U i) (S : m3 h y R T n t A B C X Y Z) (G : tg h y N W) : ∃ h', bX6_write_165 y (nI N) h = some (nI N, h') ∧ ms h' y R U N t := by
  unfold bX6_write_165
  exact write_168 (T' := T) hN1 hN hW hU (N / 2) 0 hp_n T h (by omega) (by omega) (show N / 2 < 1000000 by omega) S (tg_congr G (fun i hi => by unfold rv; rw [if_neg (by omega)]))
theorem ct_dc {B X : Nat} : dc B X ≤ ct B X := by
  unfold ct
  by_cases h : X = 0
  · rw [if_pos h, h]; exact Nat.zero_le _
  · rw [if_neg h]; exact Nat.le_refl _
theorem wt_128 {B X i : Nat} (hB2 : 2 ≤ B) (hB : B ≤ 16) : wt B X i < 128 := lt_128 (Nat.lt_of_lt_of_le (Nat.mod_lt _ (by omega)) hB)
theorem write_32 {y n i B : Nat} {R : Nat → Int} {t : Int32} (hi8 : i < 8) (hB2 : 2 ≤ B) (hB : B ≤ 16) : ∀ (e q f : Nat) (T : Nat → Nat) (h : hp_H), ct B (R i).natAbs - q = e → q ≤ ct B (R i).natAbs → e < f → m3 h y R T n t (some ((R i).natAbs / B ^ q)) none none (some ((R i).natAbs / B ^ q)) none none → tg h y q (wt B (R i).natAbs) →
    ∃ h', bX6_write_32 y (nI i) (nI B) f (nI q) h = some (nI (spN B (R i)), h') ∧ ms h' y R (spT B (R i)) (spN B (R i)) t
  | e, q, f + 1, T, h, he, hq, hf, S, G => by
    have ri := m3_reg S hi8
    have c1 := ct_pos (B := B) (X := (R i).natAbs) hB2
    have c2 := ct_le (B := B) (X := (R i).natAbs) hB2 ri.2.2.1
    have c3 := ct_dc (B := B) (X := (R i).natAbs)
    have h7 := (m3_vX S).1
    rw [bX6_write_32]
    rw [m3_i8 S, Option.bind_some]
    have go : q < ct B (R i).natAbs → ∃ h', bX6_write_43 (bX6_write_32 y (nI i) (nI B) f) y (nI i) (nI B) (nI q) h = some (nI (spN B (R i)), h') ∧ ms h' y R (spT B (R i)) (spN B (R i)) t := by
      intro hlt
      obtain ⟨h', T', q1, q2, q3⟩ := write_43 (k32 := bX6_write_32 y (nI i) (nI B) f) (x1 := nI i) hB2 hB (by omega) S G
      rw [q1]
      rw [Nat.div_div_eq_div_mul, ← Nat.pow_succ] at q2
      exact write_32 hi8 hB2 hB (e - 1) (q + 1) f T' h' (by omega) (by omega) (by omega) q2 (tg_congr q3 (fun j hj => by
        by_cases w : j = q
        · rw [w, va_up_self]; rfl
        · rw [va_up_ne _ _ w]))
    by_cases hv : (R i).natAbs / B ^ q = 0
    · rw [if_neg (show ¬ (0 : Int32) < nI (nL ((R i).natAbs / B ^ q)) from fun w => by
        have := (nI_ltI (a := 0) (by omega) (by omega)).mp w
        rw [hv, nL_0] at this; omega)]
      by_cases hq0 : q = 0
      · rw [if_pos (by rw [hq0]; rfl)]
        exact go (by omega)
      · have hdq := (dc_div hB2).mp hv
        have eq : q = ct B (R i).natAbs := by
          unfold ct at hq ⊢
          by_cases hX : (R i).natAbs = 0
          · rw [if_pos hX] at hq ⊢; omega
          · rw [if_neg hX] at hq ⊢; omega
        rw [if_neg (fun w => hq0 ((nI_zero (by omega)).mp w)), m3_r2 S, Option.bind_some, ri.2.1, Option.bind_some]
        rw [eq] at G ⊢
        have spos : ∀ z : Int, ¬ z < 0 → (0 : Int32) ≤ cmpZ z 0 := fun z hz => by
          rcases cmp0 z with ⟨a1, a2⟩ | ⟨a1, a2⟩ | ⟨a1, a2⟩ <;> rw [a2]
          · exact absurd a1 hz
          · decide
          · decide
        by_cases hz : R i < 0
        · have en : spN B (R i) = ct B (R i).natAbs + 1 := by unfold spN; rw [if_pos hz]
          have cm : cmpZ (R i) 0 = -1 := if_pos hz
          obtain ⟨h12, p1, S12, -, G12, -⟩ := m3_tx S G (p := ct B (R i).natAbs) (c := 45) (by omega) (by omega)
          rw [cm, if_neg (by decide), m3_r12 S, Option.bind_some, show (45 : Int32) = nI 45 from rfl, p1, Option.bind_some, Option.bind_some, ni1, nI_add, en]
          exact write_165 (by omega) (by omega) (fun j hj => by
            by_cases w : j = ct B (R i).natAbs
            · rw [w, va_up_self]; omega
            · rw [va_up_ne _ _ w]; exact wt_128 hB2 hB) (fun j hj => by
            unfold spT
            rw [en]
            by_cases w : ct B (R i).natAbs + 1 - 1 - j < ct B (R i).natAbs
            · rw [if_pos w, va_up_ne _ _ (by omega)]
            · rw [if_neg w, show ct B (R i).natAbs + 1 - 1 - j = ct B (R i).natAbs by omega, va_up_self]) S12 (G12 rfl)
        · have en : spN B (R i) = ct B (R i).natAbs := by unfold spN; rw [if_neg hz]; omega
          rw [if_pos (spos _ hz), en]
          exact write_165 c1 (by omega) (fun j hj => wt_128 hB2 hB) (fun j hj => by
            unfold spT
            rw [en, if_pos (by omega)]) S G
    · have hn0 : nL ((R i).natAbs / B ^ q) ≠ 0 := fun w => hv (nL_z.mp w)
      rw [if_pos (show (0 : Int32) < nI (nL ((R i).natAbs / B ^ q)) from (nI_ltI (a := 0) (by omega) (by omega)).mpr (by omega))]
      refine go ?_
      rcases Nat.lt_or_ge q (ct B (R i).natAbs) with w | w
      · exact w
      · exact absurd ((dc_div hB2).mpr (by omega)) hv
theorem mwrite_eq {h : hp_H} {y n : Nat} {R : Nat → Int} {T : Nat → Nat} {t : Int32} (S : ms h y R T n t) (a b : Int32) : ∃ h', fX6_write y a b h = some ((sWrite R T n a b).1, h') ∧ ms h' y R (sWrite R T n a b).2.1 (sWrite R T n a b).2.2 0 := by
  unfold fX6_write sWrite
  obtain ⟨h1, p0, S1⟩ := ms_0 S
  rw [if_pos (m3_o S), p0, Option.bind_some]
  rcases rg6 a with ⟨e1, f1⟩ | ⟨i, hi, rfl, e1, f1⟩
  · rw [f1, Option.bind_some, if_pos rfl, e1]; exact ⟨h1, rfl, S1⟩
  rw [f1, Option.bind_some, if_neg (by decide), e1]
  by_cases g1 : b < 2
  · have e2 : bs b = none := by unfold bs; rw [if_pos (Or.inl g1)]
    rw [if_pos g1, e2]; exact ⟨h1, rfl, S1⟩
  rw [if_neg g1]
  by_cases g2 : b ≤ 16
  · rcases bs_cases b with ⟨e2, f2⟩ | ⟨B, hB2, hB, rfl, e2, f2⟩
    · exfalso
      unfold bs at e2
      by_cases w : b < 2 ∨ (16 : Int32) < b
      · rcases w with w | w
        · exact g1 w
        · rw [Int32.le_iff_toInt_le] at g2
          rw [Int32.lt_iff_toInt_lt] at w
          omega
      · rw [if_neg w] at e2; cases e2
    · rw [if_pos g2, e2]
      simp only []
      have ri := m3_reg S1 hi
      have c2 := ct_le (B := B) (X := (R i).natAbs) hB2 ri.2.2.1
      obtain ⟨h9, p1, S9⟩ := toX_eq S1 hi
      rw [p1, Option.bind_some]
      have e0 : (R i).natAbs / B ^ 0 = (R i).natAbs := by rw [Nat.pow_zero, Nat.div_one]
      rw [← e0] at S9
      exact write_32 hi hB2 hB (ct B (R i).natAbs) 0 hp_n T h9 (by omega) (by omega) (show ct B (R i).natAbs < 1000000 by omega) S9 (tg_0 S9)
  · have e2 : bs b = none := by
      unfold bs
      rw [if_pos (Or.inr (by
        rw [Int32.le_iff_toInt_le] at g2
        rw [Int32.lt_iff_toInt_lt]
        omega))]
    rw [if_neg g2, e2]; exact ⟨h1, rfl, S1⟩
theorem mtype_eq {h : hp_H} {y n : Nat} {R : Nat → Int} {T : Nat → Nat} {t : Int32} (S : ms h y R T n t) (c : Int32) : ∃ h', fX6_type y c h = some ((sType T n c).1, h') ∧ ms h' y R (sType T n c).2.1 (sType T n c).2.2 0 := by
  unfold fX6_type sType
  obtain ⟨h1, p0, S1⟩ := ms_0 S
  obtain ⟨G, hn, hT⟩ := m3_tg S1
  rw [if_pos (m3_o S), p0, Option.bind_some]
  by_cases g1 : c < 0
  · rw [if_pos g1, if_pos (Or.inl g1)]; exact ⟨h1, rfl, S1⟩
  rw [if_neg g1]
  by_cases g2 : 127 < c
  · rw [if_pos g2, if_pos (Or.inr (Or.inl g2))]; exact ⟨h1, rfl, S1⟩
  rw [if_neg g2, m3_i13 S1, Option.bind_some]
  by_cases g3 : n < 1300
  · obtain ⟨j, hj, rfl⟩ := nI_of g1
    have hj2 : j < 128 := by
      rcases Nat.lt_or_ge 127 j with q | q
      · exact absurd ((nI_ltI (a := 127) (by omega) (by omega)).mpr q) g2
      · omega
    obtain ⟨h12, p1, S12, -, G12, -⟩ := m3_tx S1 G (p := n) (by omega) hj2
    obtain ⟨h16, p2, S16⟩ := m3_len S12 (G12 rfl) (by omega) (fun i hi => by
      by_cases w : i = n
      · rw [w, va_up_self]; exact hj2
      · rw [va_up_ne _ _ w]; exact hT i (by omega))
    rw [if_pos (show nI n < (1300 : Int32) from (nI_ltI (b := 1300) (by omega) (by omega)).mpr g3), m3_r12 S1, Option.bind_some, Option.bind_some, p1, Option.bind_some, m3_i13 S12, Option.bind_some, ni1, nI_add, p2, Option.bind_some, m3_i13 S16, Option.bind_some, if_neg (fun q => q.elim g1 (fun q => q.elim g2 (by omega))), nI_cl hj]
    exact ⟨h16, rfl, S16⟩
  · rw [if_neg (show ¬ nI n < (1300 : Int32) from fun q => g3 ((nI_ltI (b := 1300) (by omega) (by omega)).mp q)), if_pos (Or.inr (Or.inr (by omega)))]; exact ⟨h1, rfl, S1⟩
theorem mclear_eq {h : hp_H} {y n : Nat} {R : Nat → Int} {T : Nat → Nat} {t : Int32} (S : ms h y R T n t) : ∃ h', fX6_clear y h = some h' ∧ ms h' y R T 0 0 := by
  unfold fX6_clear
  obtain ⟨h1, p0, S1⟩ := ms_0 S
  obtain ⟨h3, p1, S3⟩ := m3_len (k := 0) (W := T) S1 (tg_0 S1) (by omega) (fun i hi => by omega)
  rw [if_pos (m3_o S), p0, Option.bind_some, ni0, p1, Option.bind_some]
  exact ⟨h3, rfl, S3⟩
theorem mcharacter_eq {h : hp_H} {y n : Nat} {R : Nat → Int} {T : Nat → Nat} {t : Int32} (S : ms h y R T n t) (i : Int32) : ∃ h', fX6_character y i h = some (sChar T n i, h') ∧ ms h' y R T n 0 := by
  unfold fX6_character sChar
  obtain ⟨h1, p0, S1⟩ := ms_0 S
  obtain ⟨G, hn, hT⟩ := m3_tg S1
  rw [if_pos (m3_o S), p0, Option.bind_some]
  by_cases g1 : i < 0
  · rw [if_pos g1, if_pos (Or.inl g1)]; exact ⟨h1, rfl, S1⟩
  obtain ⟨j, hj, rfl⟩ := nI_of g1
  rw [if_neg g1, m3_i13 S1, Option.bind_some, nI_cl hj]
  by_cases g2 : j < n
  · rw [if_pos ((nI_ltI (by omega) (by omega)).mpr g2), m3_r12 S1, Option.bind_some, tg_rd G g2 (by omega), Option.bind_some, if_neg (fun q => q.elim g1 (by omega))]
    exact ⟨h1, rfl, S1⟩
  · rw [if_neg (fun q => g2 ((nI_ltI (by omega) (by omega)).mp q)), if_pos (Or.inr (by omega))]
    exact ⟨h1, rfl, S1⟩
