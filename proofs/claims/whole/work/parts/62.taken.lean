/-! the reference's rows: taken, product -/
theorem sub_mod1 {a b P : Nat} (hP : 0 < P) (hba : b ≤ a) (h : b % P ≤ a % P) : (a - b) % P = a % P - b % P := by
  have ea := Nat.div_add_mod a P
  have eb := Nat.div_add_mod b P
  have la := Nat.mod_lt a hP
  have lb := Nat.mod_lt b hP
  generalize a / P = qa at *
  generalize b / P = qb at *
  generalize a % P = ra at *
  generalize b % P = rb at *
  subst ea
  subst eb
  have hq : qb ≤ qa := by
    rcases Nat.lt_or_ge qa qb with q | q
    · have := Nat.mul_le_mul_left P (show qa + 1 ≤ qb from q)
      rw [Nat.mul_add, Nat.mul_one] at this
      omega
    · exact q
  obtain ⟨d, rfl⟩ := Nat.le.dest hq
  rw [Nat.mul_add, show P * qb + P * d + ra - (P * qb + rb) = (ra - rb) + P * d by omega, Nat.add_mul_mod_self_left]
  exact Nat.mod_eq_of_lt (by omega)
theorem sub_mod2 {a b P : Nat} (hP : 0 < P) (hba : b ≤ a) (h : a % P < b % P) : (a - b) % P = a % P + P - b % P := by
  have ea := Nat.div_add_mod a P
  have eb := Nat.div_add_mod b P
  have la := Nat.mod_lt a hP
  have lb := Nat.mod_lt b hP
  generalize a / P = qa at *
  generalize b / P = qb at *
  generalize a % P = ra at *
  generalize b % P = rb at *
  subst ea
  subst eb
  have hq : qb + 1 ≤ qa := by
    rcases Nat.lt_or_ge qb qa with q | q
    · exact q
    · have := Nat.mul_le_mul_left P q
      omega
  obtain ⟨d, rfl⟩ := Nat.le.dest hq
  rw [Nat.mul_add, Nat.mul_add, Nat.mul_one, show P * qb + P + P * d + ra - (P * qb + rb) = (ra + P - rb) + P * d by omega, Nat.add_mul_mod_self_left]
  exact Nat.mod_eq_of_lt (by omega)
def bor (B a b k : Nat) : Nat := if a % B ^ k < b % B ^ k then 1 else 0
theorem sub_modb {B a b k : Nat} (hB : 0 < B) (hba : b ≤ a) : (a - b) % B ^ k + b % B ^ k = a % B ^ k + bor B a b k * B ^ k := by
  have hP : 0 < B ^ k := Nat.pow_pos hB
  have lb := Nat.mod_lt b hP
  unfold bor
  by_cases h : a % B ^ k < b % B ^ k
  · rw [if_pos h, sub_mod2 hP hba h, Nat.one_mul, Nat.sub_add_cancel (Nat.le_trans (Nat.le_of_lt lb) (Nat.le_add_left _ _))]
  · rw [if_neg h, sub_mod1 hP hba (Nat.not_lt.mp h), Nat.zero_mul, Nat.add_zero, Nat.sub_add_cancel (Nat.not_lt.mp h)]
theorem bor_suc {B a b k : Nat} (hB : 0 < B) : bor B a b (k + 1) = if a / B ^ k % B < b / B ^ k % B + bor B a b k then 1 else 0 := by
  have hP : 0 < B ^ k := Nat.pow_pos hB
  have la := Nat.mod_lt a hP
  have lb := Nat.mod_lt b hP
  have key : a % B ^ (k + 1) < b % B ^ (k + 1) ↔ a / B ^ k % B < b / B ^ k % B + bor B a b k := by
    unfold bor
    rw [Nat.pow_succ, Nat.mod_mul, Nat.mod_mul]
    generalize a / B ^ k % B = da at *
    generalize b / B ^ k % B = db at *
    generalize a % B ^ k = ra at *
    generalize b % B ^ k = rb at *
    generalize B ^ k = P at *
    rcases Nat.lt_trichotomy da db with q | q | q
    · obtain ⟨d, rfl⟩ := Nat.le.dest (show da + 1 ≤ db from q)
      have : ra + P * da < rb + P * (da + 1 + d) := by rw [Nat.mul_add, Nat.mul_add]; omega
      exact ⟨fun _ => by omega, fun _ => this⟩
    · rw [q]
      by_cases h : ra < rb
      · rw [if_pos h]; omega
      · rw [if_neg h]; omega
    · obtain ⟨d, rfl⟩ := Nat.le.dest (show db + 1 ≤ da from q)
      have : ¬ ra + P * (db + 1 + d) < rb + P * db := by rw [Nat.mul_add, Nat.mul_add]; omega
      refine ⟨fun w => absurd w this, fun w => ?_⟩
      by_cases h : ra < rb
      · rw [if_pos h] at w; omega
      · rw [if_neg h] at w; omega
  rw [bor]
  by_cases h : a % B ^ (k + 1) < b % B ^ (k + 1)
  · rw [if_pos h, if_pos (key.mp h)]
  · rw [if_neg h, if_neg (fun q => h (key.mpr q))]
theorem tk_dig {a b k : Nat} (hba : b ≤ a) : di (a - b) k + di b k + bor 10000 a b k = di a k + bor 10000 a b (k + 1) * 10000 := by
  have h1 := sub_modb (B := 10000) (k := k) (by decide) hba
  have h2 := sub_modb (B := 10000) (k := k + 1) (by decide) hba
  have hP : 0 < 10000 ^ k := Nat.pow_pos (by decide)
  rw [Nat.pow_succ, Nat.mod_mul, Nat.mod_mul, Nat.mod_mul] at h2
  unfold di
  generalize (a - b) / 10000 ^ k % 10000 = dw at *
  generalize a / 10000 ^ k % 10000 = da at *
  generalize b / 10000 ^ k % 10000 = db at *
  generalize (a - b) % 10000 ^ k = rw0 at *
  generalize a % 10000 ^ k = ra at *
  generalize b % 10000 ^ k = rb at *
  generalize bor 10000 a b k = o at *
  generalize bor 10000 a b (k + 1) = o1 at *
  generalize 10000 ^ k = P at *
  have e : P * (dw + db + o) = P * (da + o1 * 10000) := by
    have e1 : o1 * (P * 10000) = P * (o1 * 10000) := by grind
    have e2 : o * P = P * o := Nat.mul_comm _ _
    rw [e1] at h2
    rw [e2] at h1
    rw [Nat.mul_add, Nat.mul_add, Nat.mul_add]
    omega
  exact Nat.eq_of_mul_eq_mul_left hP e
theorem bor_01 (B a b k : Nat) : bor B a b k = 0 ∨ bor B a b k = 1 := by unfold bor; split <;> simp
theorem tk_loop {a b N M v w : Nat} (hab : a ≠ b) (hwv : w ≤ v) (hN : nL v ≤ N) (hN2 : N ≤ 5000) : ∀ (e k f : Nat) (g : Nat → Nat) (h : hp_H), nL v - k = e → k ≤ nL v → e < f → ar h a N g → mv h b M w → (∀ i, i < k → g i = di (v - w) i) → (∀ i, k ≤ i → i < nL v → g i = di v i) →
    ∃ h', bX6_taken_6 a (nI (nL v)) b (nI (nL w)) f (nI (bor 10000 v w k)) (nI k) h = some (nI (nL (v - w)), h') ∧ mv h' a N (v - w) ∧ fr h h' a a
  | 0, k, f + 1, g, h, he, hk, hf, A, W, hg1, hg2 => by
    have hle : nL (v - w) ≤ nL v := nL_mono (Nat.sub_le _ _)
    simp only [bX6_taken_6]
    rw [if_pos ((nI_leI (by omega) (by omega)).mpr (by omega)), short_eq A hN2 hle hN (fun i hi => hg1 i (by omega)), Option.bind_some]
    exact ⟨h, rfl, ⟨by omega, hN2, g, A, fun i hi => hg1 i (by omega)⟩, fr.rf⟩
  | e + 1, k, f + 1, g, h, he, hk, hf, A, W, hg1, hg2 => by
    have hwl := nL_mono hwv
    simp only [bX6_taken_6]
    have dl := di_lt v k
    have dl2 := di_lt w k
    have dl3 := di_lt (v - w) k
    have b1 := bor_01 10000 v w k
    have b2 := bor_01 10000 v w (k + 1)
    have bs := bor_suc (B := 10000) (a := v) (b := w) (k := k) (by decide)
    have hd := tk_dig (k := k) hwv
    have go : ∃ h', bX6_taken_33 (bX6_taken_6 a (nI (nL v)) b (nI (nL w)) f) a (nI (nL v)) b (nI (nL w)) (nI k) (nI (di v k) - nI (bor 10000 v w k)) (nI (di w k)) h = some (nI (nL (v - w)), h') ∧ mv h' a N (v - w) ∧ fr h h' a a := by
      unfold bX6_taken_33
      rw [Option.bind_some, nI_iI (di v k), nI_iI (bor 10000 v w k), nI_iI (di w k), iI_sub, iI_sub]
      have go46 : ∀ o : Nat, o = bor 10000 v w (k + 1) → ∃ h', bX6_taken_46 (bX6_taken_6 a (nI (nL v)) b (nI (nL w)) f) a (nI (nL v)) b (nI (nL w)) (nI k) (iI ((di v k : Int) - (bor 10000 v w k : Int) - (di w k : Int))) (nI o) h = some (nI (nL (v - w)), h') ∧ mv h' a N (v - w) ∧ fr h h' a a := by
        intro o ho
        unfold bX6_taken_46
        have ev : iI ((di v k : Int) - (bor 10000 v w k : Int) - (di w k : Int)) + nI o * (10000 : Int32) = nI (di (v - w) k) := by
          rw [i4, nI_mul, nI_iI (o * 10000), iI_add, nI_iI]; congr 1; omega
        obtain ⟨h1, p1, A1, F1⟩ := ar_wr A (i := k) (by omega) hN2 (di (v - w) k)
        rw [ev, p1, Option.bind_some, Option.bind_some, ni1, nI_add, ho]
        obtain ⟨h', q1, q2, q3⟩ := tk_loop hab hwv hN hN2 e (k + 1) f (va_up g k (di (v - w) k)) h1 (by omega) (by omega) (by omega) A1 (mv_fr W F1 (Ne.symm hab) (Ne.symm hab)) (fun i hi => by
          by_cases q : i = k
          · rw [q, va_up_self]
          · rw [va_up_ne _ _ q]; exact hg1 i (by omega)) (fun i hi hi2 => by rw [va_up_ne _ _ (by omega)]; exact hg2 i (by omega) hi2)
        exact ⟨h', q1, q2, F1.tr q3⟩
      have bs' : bor 10000 v w (k + 1) = if di v k < di w k + bor 10000 v w k then 1 else 0 := bs
      by_cases hlt : di v k < di w k + bor 10000 v w k
      · rw [if_pos hlt] at bs'
        have hz : ¬ (0 : Int32) ≤ iI ((di v k : Int) - (bor 10000 v w k : Int) - (di w k : Int)) := fun q => by
          rw [show (0 : Int32) = iI 0 from rfl, iI_le (by omega) (by omega) (by omega) (by omega)] at q; omega
        rw [if_neg hz]
        exact go46 1 bs'.symm
      · rw [if_neg hlt] at bs'
        have hz : (0 : Int32) ≤ iI ((di v k : Int) - (bor 10000 v w k : Int) - (di w k : Int)) := by
          rw [show (0 : Int32) = iI 0 from rfl, iI_le (by omega) (by omega) (by omega) (by omega)]; omega
        rw [if_pos hz]
        exact go46 0 bs'.symm
    rw [if_neg (fun q => by have := (nI_leI (by omega) (by omega)).mp q; omega), ar_rd A (by omega) hN2, Option.bind_some, hg2 k (Nat.le_refl _) (by omega)]
    by_cases hn : nL w ≤ k
    · rw [if_pos ((nI_leI (by omega) (by omega)).mpr hn)]
      rw [di_z hn] at go; exact go
    · rw [if_neg (fun q => hn ((nI_leI (by omega) (by omega)).mp q)), mv_rd W (by omega), Option.bind_some]
      exact go
theorem taken_eq {h : hp_H} {a b N M v w : Nat} (hab : a ≠ b) (hwv : w ≤ v) (V : mv h a N v) (W : mv h b M w) : ∃ h', fX6_taken a (nI (nL v)) b (nI (nL w)) h = some (nI (nL (v - w)), h') ∧ mv h' a N (v - w) ∧ fr h h' a a := by
  obtain ⟨h1, h2, g, A, hg⟩ := V
  unfold fX6_taken
  have := tk_loop hab hwv h1 h2 (nL v) 0 hp_n g h (by omega) (by omega) (show nL v < 1000000 by omega) A W (fun i hi => by omega) (fun i _ hi => hg i hi)
  have e : bor 10000 v w 0 = 0 := by unfold bor; rw [Nat.pow_zero, Nat.mod_one, Nat.mod_one]; rfl
  rw [e] at this
  exact this
