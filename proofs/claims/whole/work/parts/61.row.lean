/-! the reference's rows: scaled, half, added, taken -/
theorem ln_dig (a s b t c k : Nat) : (di a k * s + di b k * t + lnc 10000 a s b t c k) % 10000 = di (a * s + b * t + c) k := by
  unfold di
  rw [ln_q (by decide), ln_m (by decide)]
theorem ln_car (a s b t c k : Nat) : (di a k * s + di b k * t + lnc 10000 a s b t c k) / 10000 = lnc 10000 a s b t c (k + 1) := by
  unfold di
  rw [ln_q (by decide), ln_d]
theorem nL_pos_div {w k : Nat} (h : k < nL w) : 0 < w / 10000 ^ k := Nat.div_pos ((nL_lt w k).mp h) (Nat.pow_pos (by decide))
theorem sc_loop {b N v m pl : Nat} (hm : 1 ≤ m) (hm2 : m ≤ 16) (hpl : pl ≤ 16) (hN : nL (v * m + pl) ≤ N) (hN2 : N ≤ 5000) : ∀ (e k f : Nat) (g : Nat → Nat) (h : hp_H), nL (v * m + pl) - k = e → k ≤ nL (v * m + pl) → e < f → ar h b N g → (∀ i, i < k → g i = di (v * m + pl) i) → (∀ i, k ≤ i → i < nL v → g i = di v i) →
    ∃ h', bX6_scaled_6 b (nI (nL v)) (nI m) f (nI (lnc 10000 v m 0 0 pl k)) (nI k) h = some (nI (nL (v * m + pl)), h') ∧ mv h' b N (v * m + pl) ∧ fr h h' b b
  | e, k, f + 1, g, h, he, hk, hf, A, hg1, hg2 => by
    have hvw : nL v ≤ nL (v * m + pl) := nL_mono (Nat.le_trans (Nat.le_mul_of_pos_right v hm) (Nat.le_add_right _ _))
    have cb := ln_b (B := 10000) (by decide) v m 0 0 pl k
    simp only [bX6_scaled_6]
    by_cases hs : k = nL (v * m + pl)
    · have e0 : lnc 10000 v m 0 0 pl k = 0 := by
        rw [ln_e (nL_top v (by omega)) (Nat.pow_pos (by decide)), Nat.zero_mul, Nat.add_zero]
        exact Nat.div_eq_of_lt (nL_top _ (by omega))
      rw [if_neg (fun q => by have := (nI_ltI (by omega) (by omega)).mp q; omega), e0, if_pos (by decide)]
      refine ⟨h, by rw [hs], ⟨hN, hN2, g, A, fun i hi => hg1 i (by omega)⟩, fr.rf⟩
    · have hkl : k < nL (v * m + pl) := by omega
      have dl := di_lt v k
      have hmul : di v k * m ≤ 9999 * 16 := Nat.mul_le_mul (by omega) hm2
      have hdig := ln_dig v m 0 0 pl k
      have hcar := ln_car v m 0 0 pl k
      have hd0 : di 0 k * 0 = 0 := Nat.mul_zero _
      rw [hd0, Nat.add_zero] at hdig hcar
      rw [Nat.zero_mul, Nat.add_zero] at hdig
      have go : ∃ h', bX6_scaled_31 (bX6_scaled_6 b (nI (nL v)) (nI m) f) b (nI (nL v)) (nI m) (nI (lnc 10000 v m 0 0 pl k)) (nI k) (nI (di v k)) h = some (nI (nL (v * m + pl)), h') ∧ mv h' b N (v * m + pl) ∧ fr h h' b b := by
        unfold bX6_scaled_31
        rw [Option.bind_some, nI_mul, nI_add, i4, nI_rem (by omega) (by decide) (by decide), hdig]
        obtain ⟨h3, p1, A3, F3⟩ := ar_wr A (i := k) (by omega) hN2 (di (v * m + pl) k)
        rw [p1, Option.bind_some, Option.bind_some, Option.bind_some, pk_div (by omega) (by decide) (by decide), hcar, ni1, nI_add]
        obtain ⟨h', q1, q2, q3⟩ := sc_loop hm hm2 hpl hN hN2 (e - 1) (k + 1) f (va_up g k (di (v * m + pl) k)) h3 (by omega) (by omega) (by omega) A3 (fun i hi => by
          by_cases q : i = k
          · rw [q, va_up_self]
          · rw [va_up_ne _ _ q]; exact hg1 i (by omega)) (fun i hi hi2 => by rw [va_up_ne _ _ (by omega)]; exact hg2 i (by omega) hi2)
        exact ⟨h', q1, q2, F3.tr q3⟩
      have go17 : ∃ h', bX6_scaled_17 (bX6_scaled_6 b (nI (nL v)) (nI m) f) b (nI (nL v)) (nI m) (nI (lnc 10000 v m 0 0 pl k)) (nI k) h = some (nI (nL (v * m + pl)), h') ∧ mv h' b N (v * m + pl) ∧ fr h h' b b := by
        unfold bX6_scaled_17
        by_cases hn : nL v ≤ k
        · rw [if_pos ((nI_leI (by omega) (by omega)).mpr hn)]
          rw [di_z hn] at go; exact go
        · rw [if_neg (fun q => hn ((nI_leI (by omega) (by omega)).mp q)), ar_rd A (by omega) hN2, Option.bind_some, hg2 k (Nat.le_refl _) (by omega)]
          exact go
      by_cases hn : k < nL v
      · rw [if_pos ((nI_ltI (by omega) (by omega)).mpr hn)]; exact go17
      · have hc : 0 < lnc 10000 v m 0 0 pl k := by
          rw [ln_e (nL_top v (by omega)) (Nat.pow_pos (by decide)), Nat.zero_mul, Nat.add_zero]
          exact nL_pos_div hkl
        rw [if_neg (fun q => hn ((nI_ltI (by omega) (by omega)).mp q)), if_neg (show ¬ nI (lnc 10000 v m 0 0 pl k) ≤ 0 from fun q => by have := (nI_leI (b := 0) (by omega) (by omega)).mp q; omega)]
        exact go17
theorem scaled_eq {h : hp_H} {b N v m pl : Nat} (V : mv h b N v) (hm : 1 ≤ m) (hm2 : m ≤ 16) (hpl : pl ≤ 16) (hN : nL (v * m + pl) ≤ N) : ∃ h', fX6_scaled b (nI (nL v)) (nI m) (nI pl) h = some (nI (nL (v * m + pl)), h') ∧ mv h' b N (v * m + pl) ∧ fr h h' b b := by
  obtain ⟨h1, h2, g, A, hg⟩ := V
  unfold fX6_scaled
  have := sc_loop hm hm2 hpl hN h2 (nL (v * m + pl)) 0 hp_n g h (by omega) (by omega) (show nL (v * m + pl) < 1000000 by omega) A (fun i hi => by omega) (fun i _ hi => hg i hi)
  rw [ln_0] at this
  exact this
theorem twice_eq {h : hp_H} {b N v : Nat} (V : mv h b N v) (hN : nL (v * 2) ≤ N) : ∃ h', fX6_twice b (nI (nL v)) h = some (nI (nL (v * 2)), h') ∧ mv h' b N (v * 2) ∧ fr h h' b b := by
  obtain ⟨h', q1, q2, q3⟩ := scaled_eq V (m := 2) (pl := 0) (by omega) (by omega) (by omega) hN
  rw [Nat.add_zero] at q1 q2
  unfold fX6_twice
  rw [ni2, ni0, q1, Option.bind_some]
  exact ⟨h', rfl, q2, q3⟩
/-! dividing a row by a small number, from the top -/
theorem dv_q {B m : Nat} (hB : 0 < B) (v j : Nat) : v / B ^ (j + 1) % m * B + v / B ^ j % B = v / B ^ j % (B * m) := by
  rw [Nat.mod_mul, Nat.pow_succ, ← Nat.div_div_eq_div_mul, Nat.mul_comm B]; omega
theorem dv_dig (m v j : Nat) : (v / 10000 ^ (j + 1) % m * 10000 + di v j) / m = di (v / m) j := by
  unfold di
  rw [dv_q (by decide), Nat.mul_comm, Nat.mod_mul_right_div_self, Nat.div_div_eq_div_mul, Nat.div_div_eq_div_mul, Nat.mul_comm m]
theorem dv_rest (m v j : Nat) : (v / 10000 ^ (j + 1) % m * 10000 + di v j) % m = v / 10000 ^ j % m := by
  unfold di
  rw [dv_q (by decide), Nat.mul_comm, Nat.mod_mul_right_mod]
theorem half_loop {b N v : Nat} (hN : nL v ≤ N) (hN2 : N ≤ 5000) : ∀ (k f : Nat) (g : Nat → Nat) (h : hp_H), k ≤ nL v → k < f → ar h b N g → (∀ i, i < k → g i = di v i) → (∀ i, k ≤ i → i < nL v → g i = di (v / 2) i) →
    ∃ h', bX6_half_6 b (nI (nL v)) f (nI (v / 10000 ^ k % 2)) (iI ((k : Int) - 1)) h = some (nI (nL (v / 2)), h') ∧ mv h' b N (v / 2) ∧ fr h h' b b
  | 0, f + 1, g, h, hk, hf, A, hg1, hg2 => by
    have hle : nL (v / 2) ≤ nL v := nL_mono (Nat.div_le_self _ _)
    simp only [bX6_half_6]
    rw [if_pos (by decide), short_eq A hN2 hle hN (fun i hi => hg2 i (by omega) hi), Option.bind_some]
    exact ⟨h, rfl, ⟨by omega, hN2, g, A, fun i hi => hg2 i (by omega) (by omega)⟩, fr.rf⟩
  | k + 1, f + 1, g, h, hk, hf, A, hg1, hg2 => by
    simp only [bX6_half_6]
    have ex : iI (((k + 1 : Nat) : Int) - 1) = nI k := by rw [nI_iI]; congr 1; omega
    have en : nI k + (-1 : Int32) = iI ((k : Int) - 1) := by rw [nI_iI, show (-1 : Int32) = iI (-1) from rfl, iI_add]; congr 1
    have dl := di_lt v k
    have hr : v / 10000 ^ (k + 1) % 2 < 2 := Nat.mod_lt _ (by decide)
    have h1 := dv_dig 2 v k
    have h2 := dv_rest 2 v k
    rw [ex, if_neg (nI_lt0 (by omega)), ar_rd A (by omega) hN2, Option.bind_some, hg1 k (by omega), Option.bind_some, i4, nI_mul, nI_add, ni2, pk_div (by omega) (by decide) (by decide), h1]
    obtain ⟨h8, p1, A8, F8⟩ := ar_wr A (i := k) (by omega) hN2 (di (v / 2) k)
    rw [p1, Option.bind_some, nI_rem (by omega) (by decide) (by decide), h2, Option.bind_some, Option.bind_some, en]
    obtain ⟨h', q1, q2, q3⟩ := half_loop hN hN2 k f (va_up g k (di (v / 2) k)) h8 (by omega) (by omega) A8 (fun i hi => by rw [va_up_ne _ _ (by omega)]; exact hg1 i (by omega)) (fun i hi hi2 => by
      by_cases q : i = k
      · rw [q, va_up_self]
      · rw [va_up_ne _ _ q]; exact hg2 i (by omega) hi2)
    exact ⟨h', q1, q2, F8.tr q3⟩
theorem half_eq {h : hp_H} {b N v : Nat} (V : mv h b N v) : ∃ h', fX6_half b (nI (nL v)) h = some (nI (nL (v / 2)), h') ∧ mv h' b N (v / 2) ∧ fr h h' b b := by
  obtain ⟨h1, h2, g, A, hg⟩ := V
  unfold fX6_half
  have e : nI (nL v) - (1 : Int32) = iI ((nL v : Int) - 1) := by rw [nI_iI, show (1 : Int32) = iI 1 from rfl, iI_sub]
  rw [Option.bind_some, e]
  have := half_loop h1 h2 (nL v) hp_n g h (Nat.le_refl _) (show nL v < 1000000 by omega) A hg (fun i hi hi2 => by omega)
  rw [Nat.div_eq_of_lt (nL_top v (Nat.le_refl _)), Nat.zero_mod] at this
  exact this
/-! added -/
theorem madd_loop {a b N M v w : Nat} (hab : a ≠ b) (hN : nL (v + w) ≤ N) (hN2 : N ≤ 5000) : ∀ (e k f : Nat) (g : Nat → Nat) (h : hp_H), nL (v + w) - k = e → k ≤ nL (v + w) → e < f → ar h a N g → mv h b M w → (∀ i, i < k → g i = di (v + w) i) → (∀ i, k ≤ i → i < nL v → g i = di v i) →
    ∃ h', bX6_added_6 a (nI (nL v)) b (nI (nL w)) f (nI (lnc 10000 v 1 w 1 0 k)) (nI k) h = some (nI (nL (v + w)), h') ∧ mv h' a N (v + w) ∧ fr h h' a a
  | e, k, f + 1, g, h, he, hk, hf, A, W, hg1, hg2 => by
    have hv : nL v ≤ nL (v + w) := nL_mono (by omega)
    have hw : nL w ≤ nL (v + w) := nL_mono (by omega)
    have cb := ln_b (B := 10000) (by decide) v 1 w 1 0 k
    simp only [bX6_added_6]
    by_cases hs : k = nL (v + w)
    · have e0 : lnc 10000 v 1 w 1 0 k = 0 := by
        rw [ln_e (nL_top v (by omega)) (nL_top w (by omega)), Nat.mul_one, Nat.mul_one, Nat.add_zero]
        exact Nat.div_eq_of_lt (nL_top _ (by omega))
      rw [if_neg (fun q => by have := (nI_ltI (by omega) (by omega)).mp q; omega), if_neg (fun q => by have := (nI_ltI (by omega) (by omega)).mp q; omega), e0, if_pos (by decide)]
      exact ⟨h, by rw [hs], ⟨hN, hN2, g, A, fun i hi => hg1 i (by omega)⟩, fr.rf⟩
    · have hkl : k < nL (v + w) := by omega
      have dl := di_lt v k
      have dl2 := di_lt w k
      have hdig := ln_dig v 1 w 1 0 k
      have hcar := ln_car v 1 w 1 0 k
      rw [Nat.mul_one, Nat.mul_one] at hdig hcar
      rw [Nat.mul_one, Nat.mul_one, Nat.add_zero] at hdig
      have go : ∃ h', bX6_added_51 (bX6_added_6 a (nI (nL v)) b (nI (nL w)) f) a (nI (nL v)) b (nI (nL w)) (nI (lnc 10000 v 1 w 1 0 k)) (nI k) (nI (di v k)) (nI (di w k)) h = some (nI (nL (v + w)), h') ∧ mv h' a N (v + w) ∧ fr h h' a a := by
        unfold bX6_added_51
        rw [Option.bind_some, nI_add, nI_add, i4, nI_rem (by omega) (by decide) (by decide), hdig]
        obtain ⟨h3, p1, A3, F3⟩ := ar_wr A (i := k) (by omega) hN2 (di (v + w) k)
        rw [p1, Option.bind_some, Option.bind_some, Option.bind_some, pk_div (by omega) (by decide) (by decide), hcar, ni1, nI_add]
        obtain ⟨h', q1, q2, q3⟩ := madd_loop hab hN hN2 (e - 1) (k + 1) f (va_up g k (di (v + w) k)) h3 (by omega) (by omega) (by omega) A3 (mv_fr W F3 (Ne.symm hab) (Ne.symm hab)) (fun i hi => by
          by_cases q : i = k
          · rw [q, va_up_self]
          · rw [va_up_ne _ _ q]; exact hg1 i (by omega)) (fun i hi hi2 => by rw [va_up_ne _ _ (by omega)]; exact hg2 i (by omega) hi2)
        exact ⟨h', q1, q2, F3.tr q3⟩
      have go37 : ∃ h', bX6_added_37 (bX6_added_6 a (nI (nL v)) b (nI (nL w)) f) a (nI (nL v)) b (nI (nL w)) (nI (lnc 10000 v 1 w 1 0 k)) (nI k) (nI (di v k)) h = some (nI (nL (v + w)), h') ∧ mv h' a N (v + w) ∧ fr h h' a a := by
        unfold bX6_added_37
        by_cases hn : nL w ≤ k
        · rw [if_pos ((nI_leI (by omega) (by omega)).mpr hn)]
          rw [di_z hn] at go; exact go
        · rw [if_neg (fun q => hn ((nI_leI (by omega) (by omega)).mp q)), mv_rd W (by omega), Option.bind_some]
          exact go
      have go23 : ∃ h', bX6_added_23 (bX6_added_6 a (nI (nL v)) b (nI (nL w)) f) a (nI (nL v)) b (nI (nL w)) (nI (lnc 10000 v 1 w 1 0 k)) (nI k) h = some (nI (nL (v + w)), h') ∧ mv h' a N (v + w) ∧ fr h h' a a := by
        unfold bX6_added_23
        by_cases hn : nL v ≤ k
        · rw [if_pos ((nI_leI (by omega) (by omega)).mpr hn)]
          rw [di_z hn] at go37; exact go37
        · rw [if_neg (fun q => hn ((nI_leI (by omega) (by omega)).mp q)), ar_rd A (by omega) hN2, Option.bind_some, hg2 k (Nat.le_refl _) (by omega)]
          exact go37
      by_cases hn : k < nL v
      · rw [if_pos ((nI_ltI (by omega) (by omega)).mpr hn)]; exact go23
      · rw [if_neg (fun q => hn ((nI_ltI (by omega) (by omega)).mp q))]
        by_cases hn2 : k < nL w
        · rw [if_pos ((nI_ltI (by omega) (by omega)).mpr hn2)]; exact go23
        · have hc : 0 < lnc 10000 v 1 w 1 0 k := by
            rw [ln_e (nL_top v (by omega)) (nL_top w (by omega)), Nat.mul_one, Nat.mul_one, Nat.add_zero]
            exact nL_pos_div hkl
          rw [if_neg (fun q => hn2 ((nI_ltI (by omega) (by omega)).mp q)), if_neg (show ¬ nI (lnc 10000 v 1 w 1 0 k) ≤ 0 from fun q => by have := (nI_leI (b := 0) (by omega) (by omega)).mp q; omega)]
          exact go23
theorem added_eq {h : hp_H} {a b N M v w : Nat} (hab : a ≠ b) (V : mv h a N v) (W : mv h b M w) (hN : nL (v + w) ≤ N) : ∃ h', fX6_added a (nI (nL v)) b (nI (nL w)) h = some (nI (nL (v + w)), h') ∧ mv h' a N (v + w) ∧ fr h h' a a := by
  obtain ⟨h1, h2, g, A, hg⟩ := V
  unfold fX6_added
  have := madd_loop hab hN h2 (nL (v + w)) 0 hp_n g h (by omega) (by omega) (show nL (v + w) < 1000000 by omega) A W (fun i hi => by omega) (fun i _ hi => hg i hi)
  rw [ln_0] at this
  exact this
theorem isOdd_eq {h : hp_H} {b N v : Nat} (V : mv h b N v) : fX6_isOdd b (nI (nL v)) h = some (nI (v % 2)) := by
  have h1 := V.1
  have h2 := V.2.1
  unfold fX6_isOdd
  by_cases h0 : nL v = 0
  · rw [if_pos (show nI (nL v) ≤ 0 from (nI_leI (b := 0) (by omega) (by omega)).mpr (by omega)), nL_z.mp h0]
    rfl
  · have dl := di_lt v 0
    have e : di v 0 % 2 = v % 2 := by unfold di; rw [Nat.pow_zero, Nat.div_one]; omega
    rw [if_neg (show ¬ nI (nL v) ≤ 0 from fun q => by have := (nI_leI (b := 0) (by omega) (by omega)).mp q; omega), ni0, mv_rd V (by omega), Option.bind_some, ni2, nI_rem (by omega) (by decide) (by decide), e]
    have hm : v % 2 < 2 := Nat.mod_lt _ (by decide)
    rcases Nat.lt_or_ge 0 (v % 2) with q | q
    · rw [show v % 2 = 1 by omega, if_pos (by decide)]; rfl
    · rw [show v % 2 = 0 by omega, if_neg (by decide)]
