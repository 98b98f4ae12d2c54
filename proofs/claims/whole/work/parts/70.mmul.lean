/-! the reference: multiply, reckon -/
def pA (X Y i : Nat) : Nat := X % 10000 ^ i * Y
def pU (X Y i : Nat) : Nat := pA X Y i / 10000 ^ i
theorem pA_suc (X Y i : Nat) : pA X Y (i + 1) = pA X Y i + 10000 ^ i * (di X i * Y) := by
  unfold pA di
  rw [Nat.pow_succ, Nat.mod_mul, Nat.add_mul, Nat.mul_assoc]
theorem pW {X Y i : Nat} : pA X Y (i + 1) / 10000 ^ i = pU X Y i * 1 + Y * di X i + 0 := by
  rw [pA_suc, Nat.add_mul_div_left _ _ (Nat.pow_pos (by decide)), Nat.mul_one, Nat.add_zero, Nat.mul_comm Y]
  rfl
theorem di_shift (v i p : Nat) : di v (i + p) = di (v / 10000 ^ i) p := by
  unfold di
  rw [Nat.div_div_eq_div_mul, ← Nat.pow_add]
theorem di_low {v w i p : Nat} (hp : p < i) : di (v + 10000 ^ i * w) p = di v p := by
  unfold di
  obtain ⟨d, rfl⟩ : ∃ d, i = p + 1 + d := ⟨i - p - 1, by omega⟩
  rw [show 10000 ^ (p + 1 + d) * w = 10000 ^ p * (10000 * (10000 ^ d * w)) by rw [Nat.pow_add, Nat.pow_succ]; grind, Nat.add_mul_div_left _ _ (Nat.pow_pos (by decide)), Nat.add_mul_mod_self_left]
theorem pU_lt {X Y i : Nat} : pU X Y i < 10000 ^ nL Y := by
  unfold pU pA
  have hP : 0 < 10000 ^ i := Nat.pow_pos (by decide)
  rw [Nat.div_lt_iff_lt_mul hP]
  have h1 := Nat.mod_lt X hP
  have h2 := nL_top Y (Nat.le_refl _)
  have h3 : X % 10000 ^ i * Y ≤ 10000 ^ i * Y := Nat.mul_le_mul_right Y (Nat.le_of_lt h1)
  have h4 : 10000 ^ i * Y < 10000 ^ i * 10000 ^ nL Y := Nat.mul_lt_mul_of_pos_left h2 hP
  rw [Nat.mul_comm (10000 ^ nL Y)]
  exact Nat.lt_of_le_of_lt h3 h4
theorem pW_lt {X Y i : Nat} : pU X Y i * 1 + Y * di X i + 0 < 10000 ^ (nL Y + 1) := by
  have h1 := pU_lt (X := X) (Y := Y) (i := i)
  have h2 := nL_top Y (Nat.le_refl _)
  have h3 := di_lt X i
  rw [Nat.pow_succ]
  have h4 : Y * di X i ≤ 10000 ^ nL Y * 9999 := Nat.mul_le_mul (Nat.le_of_lt h2) (by omega)
  omega
/-- the inner loop -/
theorem mul_in {y n X Y i : Nat} {R : Nat → Int} {T : Nat → Nat} {t : Int32} {C : Option Nat} {k30 : Int32 → hp_H → Option hp_H} (hX : nL X ≤ 340) (hY : nL Y ≤ 340) (hi : i < nL X) : ∀ (e j f : Nat) (g : Nat → Nat) (h : hp_H), nL Y - j = e → j ≤ nL Y → e < f → m3 h y R T n t (some X) (some Y) C (some X) (some Y) none → ar h (y + 5 + 2) 700 g → (∀ p, p < i → g p = di (pA X Y i) p) → (∀ p, p < j → g (i + p) = di (pU X Y i * 1 + Y * di X i + 0) p) → (∀ p, j ≤ p → i + p < nL X + nL Y → g (i + p) = di (pU X Y i) p) →
    ∃ h' g', bX6_multiply_42 k30 y (nI i) f (nI (lnc 10000 (pU X Y i) 1 Y (di X i) 0 j)) (nI j) h = k30 (nI (i + 1)) h' ∧ m3 h' y R T n t (some X) (some Y) C (some X) (some Y) none ∧ ar h' (y + 5 + 2) 700 g' ∧ ∀ p, p < nL X + nL Y → g' p = di (pA X Y (i + 1)) p
  | 0, j, f + 1, g, h, he, hj, hf, S, A, hg1, hg2, hg3 => by
    have ej : j = nL Y := by omega
    have hU := pU_lt (X := X) (Y := Y) (i := i)
    have hW := pW_lt (X := X) (Y := Y) (i := i)
    have hc : lnc 10000 (pU X Y i) 1 Y (di X i) 0 j = di (pU X Y i * 1 + Y * di X i + 0) (nL Y) := by
      rw [ej, ln_e hU (nL_top Y (Nat.le_refl _))]
      show _ = (pU X Y i * 1 + Y * di X i + 0) / 10000 ^ nL Y % 10000
      exact (Nat.mod_eq_of_lt ((Nat.div_lt_iff_lt_mul (Nat.pow_pos (by decide))).mpr (by rw [Nat.mul_comm 10000, ← Nat.pow_succ]; exact hW))).symm
    have hg0 : g (i + nL Y) = 0 := by
      rw [hg3 _ (by omega) (by omega)]
      unfold di
      rw [Nat.div_eq_of_lt hU, Nat.zero_mod]
    rw [bX6_multiply_42]
    obtain ⟨h10, p1, A10, F10⟩ := ar_wr A (i := i + nL Y) (by omega) (by omega) (di (pU X Y i * 1 + Y * di X i + 0) (nL Y))
    have S10 := m3_uZ S F10 ⟨_, A10⟩
    rw [m3_i9 S, Option.bind_some, if_pos ((nI_leI (by omega) (by omega)).mpr (by omega)), m3_r7 S, Option.bind_some, Option.bind_some, nI_add, ar_rd A (by omega) (by omega), Option.bind_some, hg0, nI_add, Nat.zero_add, hc, p1, Option.bind_some, Option.bind_some, ni1, nI_add]
    refine ⟨h10, _, rfl, S10, A10, fun p hp => ?_⟩
    by_cases q1 : p < i
    · rw [va_up_ne _ _ (by omega), hg1 p q1, pA_suc, di_low q1]
    · obtain ⟨r, rfl⟩ : ∃ r, p = i + r := ⟨p - i, by omega⟩
      rw [di_shift, pW]
      by_cases q2 : r = nL Y
      · rw [q2, va_up_self]
      · rw [va_up_ne _ _ (by omega)]
        by_cases q3 : r < nL Y
        · exact hg2 r (by omega)
        · rw [hg3 r (by omega) hp]
          have z1 : pU X Y i / 10000 ^ r = 0 := Nat.div_eq_of_lt (Nat.lt_of_lt_of_le hU (Nat.pow_le_pow_right (by decide) (by omega)))
          have z2 : (pU X Y i * 1 + Y * di X i + 0) / 10000 ^ r = 0 := Nat.div_eq_of_lt (Nat.lt_of_lt_of_le hW (Nat.pow_le_pow_right (by decide) (by omega)))
          unfold di at z2 ⊢
          rw [z1, z2]
  | e + 1, j, f + 1, g, h, he, hj, hf, S, A, hg1, hg2, hg3 => by
    have d1 := di_lt X i
    have d2 := di_lt Y j
    have d3 := di_lt (pU X Y i) j
    have cb := ln_b (B := 10000) (by decide) (pU X Y i) 1 Y (di X i) 0 j
    have hdig := ln_dig (pU X Y i) 1 Y (di X i) 0 j
    have hcar := ln_car (pU X Y i) 1 Y (di X i) 0 j
    have hmul : di X i * di Y j ≤ 9999 * 9999 := Nat.mul_le_mul (by omega) (by omega)
    rw [bX6_multiply_42]
    rw [Nat.mul_one, Nat.mul_comm (di Y j)] at hdig hcar
    rw [m3_i9 S, Option.bind_some, if_neg (fun q => by have := (nI_leI (by omega) (by omega)).mp q; omega), m3_r7 S, Option.bind_some, nI_add, ar_rd A (by omega) (by omega), Option.bind_some, hg3 j (Nat.le_refl _) (by omega), m3_r5 S, Option.bind_some, mv_rd (m3_vX S) hi, Option.bind_some, m3_r6 S, Option.bind_some, mv_rd (m3_vY S) (by omega), Option.bind_some, Option.bind_some, Option.bind_some, nI_mul, nI_add, nI_add, i4, nI_rem (by omega) (by decide) (by decide), hdig]
    obtain ⟨h30, p1, A30, F30⟩ := ar_wr A (i := i + j) (by omega) (by omega) (di (pU X Y i * 1 + Y * di X i + 0) j)
    have S30 := m3_uZ S F30 ⟨_, A30⟩
    rw [p1, Option.bind_some, Option.bind_some, Option.bind_some, pk_div (by omega) (by decide) (by decide), hcar, ni1, nI_add]
    exact mul_in hX hY hi e (j + 1) f _ h30 (by omega) (by omega) (by omega) S30 A30 (fun p hp => by rw [va_up_ne _ _ (by omega)]; exact hg1 p hp) (fun p hp => by
      by_cases q : p = j
      · rw [q, va_up_self]
      · rw [va_up_ne _ _ (by omega)]; exact hg2 p (by omega)) (fun p hp1 hp2 => by rw [va_up_ne _ _ (by omega)]; exact hg3 p (by omega) hp2)
theorem nL_mul {X Y : Nat} : nL (X * Y) ≤ nL X + nL Y := by
  rcases Nat.lt_or_ge (nL X + nL Y) (nL (X * Y)) with q | q
  · have h1 := (nL_lt _ _).mp q
    have h2 := nL_top X (Nat.le_refl _)
    have h3 := nL_top Y (Nat.le_refl _)
    rw [Nat.pow_add] at h1
    have h4 := Nat.mul_le_mul (Nat.le_of_lt h2) (Nat.le_of_lt h3)
    have h5 : X * Y < 10000 ^ nL X * 10000 ^ nL Y := by
      rcases Nat.eq_zero_or_pos Y with e | e
      · rw [e, Nat.mul_zero]; exact Nat.mul_pos (Nat.pow_pos (by decide)) (Nat.pow_pos (by decide))
      · exact Nat.lt_of_lt_of_le (Nat.mul_lt_mul_of_pos_right h2 e) (Nat.mul_le_mul_left _ (Nat.le_of_lt h3))
    omega
  · exact q
theorem mul_out {y n X Y : Nat} {R : Nat → Int} {T : Nat → Nat} {t : Int32} {C : Option Nat} (hX : nL X ≤ 340) (hY : nL Y ≤ 340) : ∀ (e i f : Nat) (g : Nat → Nat) (h : hp_H), nL X - i = e → i ≤ nL X → e < f → m3 h y R T n t (some X) (some Y) C (some X) (some Y) none → ar h (y + 5 + 2) 700 g → (∀ p, p < nL X + nL Y → g p = di (pA X Y i) p) →
    ∃ h', bX6_multiply_30 y f (nI i) h = some h' ∧ m3 h' y R T n t (some X) (some Y) (some (X * Y)) (some X) (some Y) (some (X * Y))
  | 0, i, f + 1, g, h, he, hi, hf, S, A, hg => by
    have ei : i = nL X := by omega
    have ep : pA X Y i = X * Y := by unfold pA; rw [ei, Nat.mod_eq_of_lt (nL_top X (Nat.le_refl _))]
    rw [ep] at hg
    have hm := nL_mul (X := X) (Y := Y)
    rw [bX6_multiply_30]
    have V : mv h (y + 5 + 2) 700 (X * Y) := ⟨by omega, by omega, g, A, fun p hp => hg p (by omega)⟩
    have S' := m3_wZ S fr.rf V
    obtain ⟨h12, p1, S12, -⟩ := m3_pC S' (X * Y)
    rw [m3_i8 S, Option.bind_some, if_pos ((nI_leI (by omega) (by omega)).mpr (by omega)), m3_r7 S, Option.bind_some, Option.bind_some, m3_i9 S, Option.bind_some, nI_add, short_eq A (by omega) hm (by omega) hg, Option.bind_some, p1, Option.bind_some]
    exact ⟨h12, rfl, S12⟩
  | e + 1, i, f + 1, g, h, he, hi, hf, S, A, hg => by
    rw [bX6_multiply_30]
    rw [m3_i8 S, Option.bind_some, if_neg (fun q => by have := (nI_leI (by omega) (by omega)).mp q; omega)]
    obtain ⟨h', g', q1, q2, q3, q4⟩ := mul_in (k30 := bX6_multiply_30 y f) hX hY (show i < nL X by omega) (nL Y) 0 hp_n g h (by omega) (by omega) (show nL Y < 1000000 by omega) S A (fun p hp => hg p (by omega)) (fun p hp => by omega) (fun p _ hp2 => by rw [hg _ hp2, di_shift]; rfl)
    rw [ln_0] at q1
    have q1' : bX6_multiply_42 (bX6_multiply_30 y f) y (nI i) hp_n (0 : Int32) (0 : Int32) h = bX6_multiply_30 y f (nI (i + 1)) h' := q1
    rw [q1']
    exact mul_out hX hY e (i + 1) f g' h' (by omega) (by omega) (by omega) q2 q3 q4
theorem mul_zero {y n X Y : Nat} {R : Nat → Int} {T : Nat → Nat} {t : Int32} {C : Option Nat} (hX : nL X ≤ 340) (hY : nL Y ≤ 340) : ∀ (e i f : Nat) (g : Nat → Nat) (h : hp_H), nL X + nL Y - i = e → i ≤ nL X + nL Y → e < f → m3 h y R T n t (some X) (some Y) C (some X) (some Y) none → ar h (y + 5 + 2) 700 g → (∀ p, p < i → g p = 0) →
    ∃ h', bX6_multiply_2 y f (nI i) h = some h' ∧ m3 h' y R T n t (some X) (some Y) (some (X * Y)) (some X) (some Y) (some (X * Y))
  | 0, i, f + 1, g, h, he, hi, hf, S, A, hg => by
    rw [bX6_multiply_2]
    rw [m3_i8 S, Option.bind_some, m3_i9 S, Option.bind_some, nI_add, if_pos ((nI_leI (by omega) (by omega)).mpr (by omega))]
    exact mul_out hX hY (nL X) 0 hp_n g h (by omega) (by omega) (show nL X < 1000000 by omega) S A (fun p hp => by
      rw [hg p (by omega)]
      unfold pA di
      rw [Nat.pow_zero, Nat.mod_one, Nat.zero_mul, Nat.zero_div, Nat.zero_mod])
  | e + 1, i, f + 1, g, h, he, hi, hf, S, A, hg => by
    rw [bX6_multiply_2]
    obtain ⟨h8, p1, A8, F8⟩ := ar_wr A (i := i) (by omega) (by omega) 0
    have S8 := m3_uZ S F8 ⟨_, A8⟩
    rw [m3_i8 S, Option.bind_some, m3_i9 S, Option.bind_some, nI_add, if_neg (fun q => by have := (nI_leI (by omega) (by omega)).mp q; omega), m3_r7 S, Option.bind_some, ni0, p1, Option.bind_some, Option.bind_some, ni1, nI_add]
    exact mul_zero hX hY e (i + 1) f _ h8 (by omega) (by omega) (by omega) S8 A8 (fun p hp => by
      by_cases q : p = i
      · rw [q, va_up_self]
      · rw [va_up_ne _ _ q]; exact hg p (by omega))
theorem multiply_eq {h : hp_H} {y n X Y : Nat} {R : Nat → Int} {T : Nat → Nat} {t : Int32} {C Z : Option Nat} (S : m3 h y R T n t (some X) (some Y) C (some X) (some Y) Z) (hX : nL X ≤ 340) (hY : nL Y ≤ 340) : ∃ h', fX6_multiply y h = some h' ∧ m3 h' y R T n t (some X) (some Y) (some (X * Y)) (some X) (some Y) (some (X * Y)) := by
  unfold fX6_multiply
  rw [if_pos (m3_o S)]
  obtain ⟨g, A⟩ := m3_gZ S
  exact mul_zero hX hY (nL X + nL Y) 0 hp_n g h (by omega) (by omega) (show nL X + nL Y < 1000000 by omega) (m3_uZ S fr.rf ⟨g, A⟩) A (fun p hp => by omega)
theorem cmp_mul (a b : Int) : cmpZ a 0 * cmpZ b 0 = cmpZ (a * b) 0 := by
  have neg : ∀ z : Int, z < 0 → cmpZ z 0 = -1 := fun z q => if_pos q
  have pos : ∀ z : Int, 0 < z → cmpZ z 0 = 1 := fun z q => by unfold cmpZ; rw [if_neg (by omega), if_neg (by omega)]
  rcases cmp0 a with ⟨a1, a2⟩ | ⟨a1, a2⟩ | ⟨a1, a2⟩ <;> rcases cmp0 b with ⟨b1, b2⟩ | ⟨b1, b2⟩ | ⟨b1, b2⟩ <;> rw [a2, b2]
  · rw [pos _ (Int.mul_pos_of_neg_of_neg a1 b1)]; decide
  · rw [b1, Int.mul_zero]; decide
  · rw [neg _ (Int.mul_neg_of_neg_of_pos a1 b1)]; decide
  · rw [a1, Int.zero_mul]; decide
  · rw [a1, Int.zero_mul]; decide
  · rw [a1, Int.zero_mul]; decide
  · rw [neg _ (Int.mul_neg_of_pos_of_neg a1 b1)]; decide
  · rw [b1, Int.mul_zero]; decide
  · rw [pos _ (Int.mul_pos a1 b1)]; decide
theorem cmp_neg (a : Int) : -cmpZ a 0 = cmpZ (-a) 0 := by
  have neg : ∀ z : Int, z < 0 → cmpZ z 0 = -1 := fun z q => if_pos q
  have pos : ∀ z : Int, 0 < z → cmpZ z 0 = 1 := fun z q => by unfold cmpZ; rw [if_neg (by omega), if_neg (by omega)]
  rcases cmp0 a with ⟨a1, a2⟩ | ⟨a1, a2⟩ | ⟨a1, a2⟩ <;> rw [a2]
  · rw [pos _ (by omega)]; decide
  · rw [a1]; decide
  · rw [neg _ (by omega)]
theorem reckon_115 {h : hp_H} {y n k : Nat} {R : Nat → Int} {T : Nat → Nat} {t : Int32} {C Z : Option Nat} {a b : Int} (S : m3 h y R T n t (some a.natAbs) (some b.natAbs) C (some a.natAbs) (some b.natAbs) Z) (ha : bl a.natAbs ≤ 4096) (hb : bl b.natAbs ≤ 4096) (hk : k < 8) : ∃ h', bX6_reckon_115 y (nI k) y (cmpZ a 0) (cmpZ b 0) h = some ((sKeep R k (a + b)).1, h') ∧ ms h' y (sKeep R k (a + b)).2 T n t := by
  unfold bX6_reckon_115
  obtain ⟨h2, s, p1, S2, hs⟩ := sum_eq6 S ha hb
  obtain ⟨h10, p2, S10⟩ := put_eq S2 hk (j := 0) (by decide) (m3_vX S2) rfl hs
  rw [p1, Option.bind_some]
  simp only []
  rw [m3_r5 S2, Option.bind_some, m3_i8 S2, Option.bind_some, p2, Option.bind_some]
  exact ⟨h10, rfl, m3_any S10⟩
theorem mreckon_eq {h : hp_H} {y n : Nat} {R : Nat → Int} {T : Nat → Nat} {t : Int32} (S : ms h y R T n t) (op a b c : Int32) : ∃ h', fX6_reckon y op a b c h = some ((sReckon R op a b c).1, h') ∧ ms h' y (sReckon R op a b c).2 T n 0 := by
  unfold fX6_reckon sReckon
  obtain ⟨h1, p0, S1⟩ := ms_0 S
  rw [if_pos (m3_o S), p0, Option.bind_some]
  have bad : (op < 0 ∨ 2 < op) → op ≠ 0 ∧ op ≠ 1 ∧ op ≠ 2 := by
    intro q
    refine ⟨fun e => ?_, fun e => ?_, fun e => ?_⟩ <;> rw [e] at q <;> revert q <;> decide
  by_cases g1 : op < 0
  · obtain ⟨n0, n1, n2⟩ := bad (Or.inl g1)
    rw [if_pos g1]
    rcases rg6 a with ⟨e1, f1⟩ | ⟨k, hk, rfl, e1, f1⟩ <;> rcases rg6 b with ⟨e2, f2⟩ | ⟨i, hi, rfl, e2, f2⟩ <;> rcases rg6 c with ⟨e3, f3⟩ | ⟨j, hj, rfl, e3, f3⟩ <;> rw [e1, e2, e3] <;> simp only [n0, n1, n2, if_false] <;> exact ⟨h1, rfl, S1⟩
  rw [if_neg g1]
  by_cases g2 : 2 < op
  · obtain ⟨n0, n1, n2⟩ := bad (Or.inr g2)
    rw [if_pos g2]
    rcases rg6 a with ⟨e1, f1⟩ | ⟨k, hk, rfl, e1, f1⟩ <;> rcases rg6 b with ⟨e2, f2⟩ | ⟨i, hi, rfl, e2, f2⟩ <;> rcases rg6 c with ⟨e3, f3⟩ | ⟨j, hj, rfl, e3, f3⟩ <;> rw [e1, e2, e3] <;> simp only [n0, n1, n2, if_false] <;> exact ⟨h1, rfl, S1⟩
  rw [if_neg g2]
  have gop : op = 0 ∨ op = 1 ∨ op = 2 := by
    obtain ⟨o, ho, rfl⟩ := nI_of g1
    have h2 : ¬ 2 < o := fun q => g2 ((nI_ltI (a := 2) (by omega) (by omega)).mpr q)
    have : o = 0 ∨ o = 1 ∨ o = 2 := by omega
    rcases this with rfl | rfl | rfl
    · exact Or.inl rfl
    · exact Or.inr (Or.inl rfl)
    · exact Or.inr (Or.inr rfl)
  rcases rg6 a with ⟨e1, f1⟩ | ⟨k, hk, rfl, e1, f1⟩
  · rw [f1, Option.bind_some, if_pos rfl, e1]; exact ⟨h1, rfl, S1⟩
  rcases rg6 b with ⟨e2, f2⟩ | ⟨i, hi, rfl, e2, f2⟩
  · rw [f1, Option.bind_some, if_neg (by decide), f2, Option.bind_some, if_pos rfl, e1, e2]; exact ⟨h1, rfl, S1⟩
  rcases rg6 c with ⟨e3, f3⟩ | ⟨j, hj, rfl, e3, f3⟩
  · rw [f1, Option.bind_some, if_neg (by decide), f2, Option.bind_some, if_neg (by decide), f3, Option.bind_some, if_pos rfl, e1, e2, e3]; exact ⟨h1, rfl, S1⟩
  rw [f1, Option.bind_some, if_neg (by decide), f2, Option.bind_some, if_neg (by decide), f3, Option.bind_some, if_neg (by decide), e1, e2, e3]
  simp only []
  obtain ⟨h15, p1, S15⟩ := toX_eq S1 hi
  obtain ⟨h17, p2, S17⟩ := toY_eq S15 hj
  have ri := m3_reg S17 hi
  have rj := m3_reg S17 hj
  rw [p1, Option.bind_some, p2, Option.bind_some]
  rcases gop with rfl | rfl | rfl
  · rw [if_neg (by decide), m3_r2 S17, Option.bind_some, ri.2.1, Option.bind_some, if_pos rfl, if_pos rfl, Option.bind_some, rj.2.1, Option.bind_some]
    exact reckon_115 S17 ri.2.2.1 rj.2.2.1 hk
  · rw [if_neg (by decide), m3_r2 S17, Option.bind_some, ri.2.1, Option.bind_some, if_neg (by decide), if_neg (by decide), if_pos rfl, Option.bind_some, rj.2.1, Option.bind_some, cmp_neg, Int.sub_eq_add_neg]
    rw [← Int.natAbs_neg (R j)] at S17
    exact reckon_115 S17 ri.2.2.1 (by rw [Int.natAbs_neg]; exact rj.2.2.1) hk
  · obtain ⟨h33, p3, S33⟩ := multiply_eq S17 (by omega) (by omega)
    have ri3 := m3_reg S33 hi
    have rj3 := m3_reg S33 hj
    rw [if_pos rfl, p3, Option.bind_some, m3_r7 S33, Option.bind_some, m3_i10 S33, Option.bind_some, m3_r2 S33, Option.bind_some, ri3.2.1, Option.bind_some, Option.bind_some, rj3.2.1, Option.bind_some, cmp_mul]
    obtain ⟨h47, p4, S47⟩ := put_eq (z := R i * R j) S33 hk (j := 2) (by decide) (m3_vZ S33) (Int.natAbs_mul _ _) (fun _ => rfl)
    rw [if_neg (by decide), if_neg (by decide), if_pos rfl, p4, Option.bind_some]
    exact ⟨h47, rfl, m3_any S47⟩
