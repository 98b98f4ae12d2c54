/-! THE REFERENCE'S ROWS: digits of base 10000; a row is known by its number -/
def di (v i : Nat) : Nat := v / 10000 ^ i % 10000
def nL (v : Nat) : Nat := dc 10000 v
/-! carries of a * s + b * t + c -/
def lnc (B a s b t c k : Nat) : Nat := (a % B ^ k * s + b % B ^ k * t + c) / B ^ k
theorem ln_q {B : Nat} (hB : 0 < B) (a s b t c k : Nat) : a / B ^ k % B * s + b / B ^ k % B * t + lnc B a s b t c k = (a % B ^ (k + 1) * s + b % B ^ (k + 1) * t + c) / B ^ k := by
  have hP : 0 < B ^ k := Nat.pow_pos hB
  unfold lnc
  rw [Nat.pow_succ, Nat.mod_mul, Nat.mod_mul]
  generalize B ^ k = P at *
  rw [show (a % P + P * (a / P % B)) * s + (b % P + P * (b / P % B)) * t + c = (a % P * s + b % P * t + c) + P * (a / P % B * s + b / P % B * t) by grind, Nat.add_mul_div_left _ _ hP, Nat.add_comm]
theorem ln_m {B : Nat} (hB : 0 < B) (a s b t c k : Nat) : (a % B ^ (k + 1) * s + b % B ^ (k + 1) * t + c) / B ^ k % B = (a * s + b * t + c) / B ^ k % B := by
  have hP : 0 < B ^ k := Nat.pow_pos hB
  rw [Nat.pow_succ]
  generalize B ^ k = P at *
  have ea := Nat.mod_add_div a (P * B)
  have eb := Nat.mod_add_div b (P * B)
  generalize a % (P * B) = a0 at *
  generalize b % (P * B) = b0 at *
  generalize a / (P * B) = a1 at *
  generalize b / (P * B) = b1 at *
  rw [← ea, ← eb, show (a0 + P * B * a1) * s + (b0 + P * B * b1) * t + c = (a0 * s + b0 * t + c) + P * (B * (a1 * s + b1 * t)) by grind, Nat.add_mul_div_left _ _ hP, Nat.add_mul_mod_self_left]
theorem ln_d (B a s b t c k : Nat) : (a % B ^ (k + 1) * s + b % B ^ (k + 1) * t + c) / B ^ k / B = lnc B a s b t c (k + 1) := by
  unfold lnc
  rw [Nat.div_div_eq_div_mul, ← Nat.pow_succ]
theorem ln_b {B : Nat} (hB : 0 < B) (a s b t c k : Nat) : lnc B a s b t c k ≤ s + t + c := by
  have hP : 0 < B ^ k := Nat.pow_pos hB
  unfold lnc
  have h1 := Nat.mod_lt a hP
  have h2 := Nat.mod_lt b hP
  generalize B ^ k = P at *
  refine Nat.div_le_of_le_mul ?_
  have e1 : a % P * s ≤ P * s := Nat.mul_le_mul_right s (Nat.le_of_lt h1)
  have e2 : b % P * t ≤ P * t := Nat.mul_le_mul_right t (Nat.le_of_lt h2)
  have e3 : c ≤ P * c := Nat.le_mul_of_pos_left c hP
  rw [Nat.mul_add, Nat.mul_add]
  omega
theorem ln_0 (B a s b t c : Nat) : lnc B a s b t c 0 = c := by
  unfold lnc
  rw [Nat.pow_zero, Nat.mod_one, Nat.mod_one, Nat.div_one]; omega
theorem ln_e {B a s b t c k : Nat} (ha : a < B ^ k) (hb : b < B ^ k) : lnc B a s b t c k = (a * s + b * t + c) / B ^ k := by
  unfold lnc
  rw [Nat.mod_eq_of_lt ha, Nat.mod_eq_of_lt hb]
theorem nL_lt (v k : Nat) : k < nL v ↔ 10000 ^ k ≤ v := dc_lt (by decide)
theorem nL_top (v : Nat) {k : Nat} (h : nL v ≤ k) : v < 10000 ^ k := by
  rcases Nat.lt_or_ge v (10000 ^ k) with q | q
  · exact q
  · have := (nL_lt v k).mpr q; omega
theorem nL_mono {v w : Nat} (h : v ≤ w) : nL v ≤ nL w := by
  rcases Nat.lt_or_ge (nL w) (nL v) with q | q
  · have h1 := (nL_lt v _).mp q
    have h2 := nL_top w (Nat.le_refl _)
    omega
  · exact q
theorem nL_0 : nL 0 = 0 := rfl
theorem nL_z {v : Nat} : nL v = 0 ↔ v = 0 := by
  constructor
  · intro h
    have := nL_top v (k := 0) (by omega)
    rw [Nat.pow_zero] at this; omega
  · rintro rfl; rfl
theorem nL_le {v k : Nat} (h : bl v ≤ 13 * k) : nL v ≤ k := by
  rcases Nat.lt_or_ge k (nL v) with q | q
  · have h1 := (nL_lt v _).mp q
    have h2 := bl_le.mp h
    rw [Nat.pow_mul] at h2
    have h3 : (2 ^ 13) ^ k ≤ 10000 ^ k := Nat.pow_le_pow_left (by decide) k
    omega
  · exact q
theorem di_lt (v i : Nat) : di v i < 10000 := Nat.mod_lt _ (by decide)
theorem di_z {v i : Nat} (h : nL v ≤ i) : di v i = 0 := by
  unfold di
  rw [Nat.div_eq_of_lt (nL_top v h), Nat.zero_mod]
theorem di_top {v : Nat} (h : 0 < nL v) : di v (nL v - 1) ≠ 0 := by
  obtain ⟨k, hk⟩ : ∃ k, nL v = k + 1 := ⟨nL v - 1, by omega⟩
  rw [hk, Nat.add_sub_cancel]
  have h1 := (nL_lt v k).mp (by omega)
  have h2 := nL_top v (k := k + 1) (by omega)
  unfold di
  have hP : 0 < 10000 ^ k := Nat.pow_pos (by decide)
  have h3 : v / 10000 ^ k < 10000 := (Nat.div_lt_iff_lt_mul hP).mpr (by rw [Nat.mul_comm, ← Nat.pow_succ]; exact h2)
  have h4 : 0 < v / 10000 ^ k := Nat.div_pos h1 hP
  rw [Nat.mod_eq_of_lt h3]; omega
def ar (h : hp_H) (b N : Nat) (g : Nat → Nat) : Prop := h b = some (.inl (0, N, fun i => nI (g i)))
def mv (h : hp_H) (b N v : Nat) : Prop := nL v ≤ N ∧ N ≤ 5000 ∧ ∃ g, ar h b N g ∧ ∀ i, i < nL v → g i = di v i
theorem ar_rd {h : hp_H} {b N i : Nat} {g : Nat → Nat} (A : ar h b N g) (hi : i < N) (hN : N ≤ 5000) : hp_ai h 0 b (nI i) = some (nI (g i)) := by
  have h1 : ¬ nI i < 0 := nI_lt0 (by omega)
  have h2 : (nI i).toNatClampNeg = i := nI_cl (by omega)
  have h3 : ¬ N ≤ i := by omega
  unfold ar at A
  simp [hp_ai, A, h1, h2, h3]
theorem ar_wr {h : hp_H} {b N i : Nat} {g : Nat → Nat} (A : ar h b N g) (hi : i < N) (hN : N ≤ 5000) (x : Nat) : ∃ h', hp_si h 0 b (nI i) (nI x) = some h' ∧ ar h' b N (va_up g i x) ∧ fr h h' b b := by
  have h1 : ¬ nI i < 0 := nI_lt0 (by omega)
  have h2 : (nI i).toNatClampNeg = i := nI_cl (by omega)
  have h3 : ¬ N ≤ i := by omega
  unfold ar at A
  refine ⟨va_up h b (some (.inl (0, N, fun j => nI (va_up g i x j)))), ?_, va_up_self _ _ _, fun q hq _ => va_up_ne _ _ hq⟩
  simp only [hp_si, A, h1, h2, h3, or_self, not_false_eq_true, and_self, if_true]
  rw [nr_upd]
theorem ar_fr {h h' : hp_H} {b N p q : Nat} {g : Nat → Nat} (A : ar h b N g) (F : fr h h' p q) (h1 : b ≠ p) (h2 : b ≠ q) : ar h' b N g := (F b h1 h2).trans A
theorem mv_rd {h : hp_H} {b N v i : Nat} (M : mv h b N v) (hi : i < nL v) : hp_ai h 0 b (nI i) = some (nI (di v i)) := by
  obtain ⟨h1, h2, g, A, hg⟩ := M
  rw [ar_rd A (by omega) h2, hg i hi]
theorem mv_fr {h h' : hp_H} {b N v p q : Nat} (M : mv h b N v) (F : fr h h' p q) (h1 : b ≠ p) (h2 : b ≠ q) : mv h' b N v := by
  obtain ⟨m1, m2, g, A, hg⟩ := M
  exact ⟨m1, m2, g, ar_fr A F h1 h2, hg⟩
theorem mv_fs {h h' : hp_H} {b N v : Nat} {l : List Nat} (M : mv h b N v) (F : fs h h' l) (h1 : b ∉ l) : mv h' b N v := by
  obtain ⟨m1, m2, g, A, hg⟩ := M
  exact ⟨m1, m2, g, (F b h1).trans A, hg⟩
theorem i4 : (10000 : Int32) = nI 10000 := rfl
/-! shortened -/
theorem short_loop {h : hp_H} {b N w : Nat} {g : Nat → Nat} (A : ar h b N g) (hN : N ≤ 5000) : ∀ (k f : Nat), nL w ≤ k → k ≤ N → k < f → (∀ i, i < k → g i = di w i) → bX6_shortened_2 b h f (nI k) = some (nI (nL w))
  | k, f + 1, hk, hkN, hf, hg => by
    simp only [bX6_shortened_2]
    by_cases h0 : k = 0
    · rw [if_pos (show nI k ≤ 0 from (nI_leI (b := 0) (by omega) (by omega)).mpr (by omega)), show nL w = k by omega]
    · have em : nI k - (1 : Int32) = nI (k - 1) := by rw [ni1, pk_sub (by omega)]
      rw [if_neg (show ¬ nI k ≤ 0 from fun q => by have := (nI_leI (b := 0) (by omega) (by omega)).mp q; omega), em, ar_rd A (by omega) hN, Option.bind_some, hg (k - 1) (by omega)]
      have dl := di_lt w (k - 1)
      rcases Nat.lt_or_ge (nL w) k with q | q
      · have e2 : nI k + (-1 : Int32) = nI (k - 1) := by
          rw [nI_iI, nI_iI, show (-1 : Int32) = iI (-1) from rfl, iI_add]; congr 1; omega
        rw [if_pos (by rw [di_z (by omega)]; rfl), Option.bind_some, e2]
        exact short_loop A hN (k - 1) f (by omega) (by omega) (by omega) (fun i hi => hg i (by omega))
      · have ek : nL w = k := by omega
        have := di_top (v := w) (by omega)
        rw [ek] at this
        rw [if_neg (fun q => this ((nI_zero (by omega)).mp q)), ek]
theorem short_eq {h : hp_H} {b N w k : Nat} {g : Nat → Nat} (A : ar h b N g) (hN : N ≤ 5000) (hk : nL w ≤ k) (hkN : k ≤ N) (hg : ∀ i, i < k → g i = di w i) : fX6_shortened b (nI k) h = some (nI (nL w)) := by
  unfold fX6_shortened
  exact short_loop A hN k hp_n hk hkN (show k < 1000000 by omega) hg
/-! compareRows -/
theorem cmp_loop {h : hp_H} {a b N M v w : Nat} (V : mv h a N v) (W : mv h b M w) (hn : nL v = nL w) : ∀ (k f : Nat), k ≤ nL v → k < f → v / 10000 ^ k = w / 10000 ^ k → bX6_compareRows_21 a b h f (iI ((k : Int) - 1)) = some (cmpI v w)
  | 0, f + 1, hk, hf, he => by
    simp only [bX6_compareRows_21]
    rw [if_pos (by decide)]
    rw [Nat.pow_zero, Nat.div_one, Nat.div_one] at he
    unfold cmpI
    rw [if_neg (by omega), if_pos he]
  | k + 1, f + 1, hk, hf, he => by
    have hN := V.1
    have hN2 := V.2.1
    simp only [bX6_compareRows_21]
    have ex : iI (((k + 1 : Nat) : Int) - 1) = nI k := by rw [nI_iI]; congr 1; omega
    have d1 := di_lt v k
    have d2 := di_lt w k
    have s1 : v / 10000 ^ k = di v k + 10000 * (v / 10000 ^ (k + 1)) := by
      unfold di; rw [Nat.pow_succ, ← Nat.div_div_eq_div_mul]; omega
    have s2 : w / 10000 ^ k = di w k + 10000 * (w / 10000 ^ (k + 1)) := by
      unfold di; rw [Nat.pow_succ, ← Nat.div_div_eq_div_mul]; omega
    rw [ex, if_neg (nI_lt0 (by omega)), mv_rd V (by omega), Option.bind_some, mv_rd W (by omega), Option.bind_some]
    by_cases hd : di v k = di w k
    · have en : nI k + (-1 : Int32) = iI ((k : Int) - 1) := by rw [nI_iI, show (-1 : Int32) = iI (-1) from rfl, iI_add]; congr 1
      rw [if_pos (by rw [hd]), Option.bind_some, en]
      exact cmp_loop V W hn k f (by omega) (by omega) (by rw [s1, s2, hd, he])
    · rw [if_neg (fun q => hd ((nI_ij (by omega) (by omega)).mp q)), Option.bind_some, Option.bind_some]
      unfold cmpI
      rw [he] at s1
      by_cases hl : di w k ≤ di v k
      · have h1 : w / 10000 ^ k < v / 10000 ^ k := by omega
        have h2 : ¬ v ≤ w := fun q => by have := Nat.div_le_div_right (c := 10000 ^ k) q; omega
        rw [if_pos ((nI_leI (by omega) (by omega)).mpr hl), if_neg (by omega), if_neg (by omega)]
      · have h1 : v / 10000 ^ k < w / 10000 ^ k := by omega
        have h2 : ¬ w ≤ v := fun q => by have := Nat.div_le_div_right (c := 10000 ^ k) q; omega
        rw [if_neg (fun q => hl ((nI_leI (by omega) (by omega)).mp q)), if_pos (by omega)]
theorem cmp_eq {h : hp_H} {a b N M v w : Nat} (V : mv h a N v) (W : mv h b M w) : fX6_compareRows a (nI (nL v)) b (nI (nL w)) h = some (cmpI v w) := by
  have hN := V.1
  have hN2 := V.2.1
  have hM := W.1
  have hM2 := W.2.1
  unfold fX6_compareRows
  by_cases hn : nL v = nL w
  · rw [if_pos (by rw [hn]), Option.bind_some]
    have e : nI (nL v) - (1 : Int32) = iI ((nL v : Int) - 1) := by rw [nI_iI, show (1 : Int32) = iI 1 from rfl, iI_sub]
    rw [e]
    refine cmp_loop V W hn (nL v) hp_n (Nat.le_refl _) (show nL v < 1000000 by omega) ?_
    rw [Nat.div_eq_of_lt (nL_top v (Nat.le_refl _)), Nat.div_eq_of_lt (nL_top w (by omega))]
  · rw [if_neg (fun q => hn ((nI_ij (by omega) (by omega)).mp q))]
    unfold cmpI
    by_cases hl : nL w ≤ nL v
    · have h2 : ¬ v ≤ w := fun q => by have := nL_mono q; omega
      rw [if_pos ((nI_leI (by omega) (by omega)).mpr hl), if_neg (by omega), if_neg (by omega)]
    · have h2 : ¬ w ≤ v := fun q => by have := nL_mono q; omega
      rw [if_neg (fun q => hl ((nI_leI (by omega) (by omega)).mp q)), if_pos (by omega)]
