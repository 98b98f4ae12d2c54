/-! Text: letters, digits -/
theorem tx_o {h : hp_H} {t b n : Nat} {T : Nat → Nat} (X : tx h t b T n) : hp_o h t 3 = true := by simp [hp_o, X.1]
theorem tx_n {h : hp_H} {t b n : Nat} {T : Nat → Nat} (X : tx h t b T n) : hp_gi h t 3 1 = some (nI n) := by simp [hp_gi, hp_gv, X.1]
theorem tx_b {h : hp_H} {t b n : Nat} {T : Nat → Nat} (X : tx h t b T n) : hp_gr h t 3 0 = some b := by simp [hp_gr, hp_gv, X.1]
theorem tx_rd {h : hp_H} {t b n i : Nat} {T : Nat → Nat} (X : tx h t b T n) (hi : i < n) : hp_ai h 1 b (nI i) = some (nI (T i)) := by
  obtain ⟨-, ⟨g, e, hg⟩, hn, -⟩ := X
  have h1 : ¬ nI i < 0 := nI_lt0 (by omega)
  have h2 : (nI i).toNatClampNeg = i := nI_cl (by omega)
  have h3 : ¬ 4097 ≤ i := by omega
  simp [hp_ai, e, h1, h2, h3, hg i hi]
theorem nar_c : ∀ c, c < 128 → vp_nar .char (nI c) = nI c := by decide +kernel
theorem i2c_c : ∀ c, c < 128 → hp_i2c (nI c) = nI c := by decide +kernel
/-- one letter stored -/
theorem tx_wr {h : hp_H} {t b n i c : Nat} {T : Nat → Nat} (X : tx h t b T n) (htb : t ≠ b) (hi : i < 4097) (hc : c < 128) : ∃ h', hp_si h 1 b (nI i) (vp_nar .char (nI c)) = some h' ∧ tx h' t b (va_up T i c) n ∧ fr h h' b b ∧ (i = n → n < 4097 → ∃ g : Nat → Nat, h' b = some (.inl (1, 4097, fun i => nI (g i))) ∧ ∀ j, j < n + 1 → g j = va_up T n c j) := by
  obtain ⟨e0, ⟨g, e, hg⟩, hn, hT⟩ := X
  have h1 : ¬ nI i < 0 := nI_lt0 (by omega)
  have h2 : (nI i).toNatClampNeg = i := nI_cl (by omega)
  have h3 : ¬ 4097 ≤ i := by omega
  rw [nar_c c hc]
  refine ⟨va_up h b (some (.inl (1, 4097, fun j => nI (va_up g i c j)))), ?_, ⟨?_, ⟨va_up g i c, va_up_self _ _ _, fun j hj => ?_⟩, hn, fun j hj => ?_⟩, fun q hq _ => va_up_ne _ _ hq, fun hin _ => ⟨va_up g i c, va_up_self _ _ _, fun j hj => ?_⟩⟩
  · simp only [hp_si, e, h1, h2, h3, or_self, not_false_eq_true, and_self, if_true]
    rw [nr_upd]
  · rw [va_up_ne _ _ htb]; exact e0
  · by_cases q : j = i
    · rw [q, va_up_self, va_up_self]
    · rw [va_up_ne _ _ q, va_up_ne _ _ q]; exact hg j hj
  · by_cases q : j = i
    · rw [q, va_up_self]; exact hc
    · rw [va_up_ne _ _ q]; exact hT j hj
  · by_cases q : j = n
    · rw [q, ← hin, va_up_self, va_up_self]
    · rw [va_up_ne _ _ q, va_up_ne _ _ (by omega)]; exact hg j (by omega)
theorem tx_len {h : hp_H} {t b n m : Nat} {T' : Nat → Nat} (e0 : h t = some (.inr (.inr (.inr (3, [.ref b, .int (nI n)]))))) (X : ∃ g : Nat → Nat, h b = some (.inl (1, 4097, fun i => nI (g i))) ∧ ∀ i, i < m → g i = T' i) (htb : t ≠ b) (hm : m ≤ 4097) (hT : ∀ i, i < m → T' i < 128) : ∃ h', hp_pv h t 3 1 (.int (nI m)) = some h' ∧ tx h' t b T' m ∧ fr h h' t t := by
  obtain ⟨g, e, hg⟩ := X
  refine ⟨va_up h t (some (.inr (.inr (.inr (3, [.ref b, .int (nI m)]))))), ?_, ⟨va_up_self _ _ _, ⟨g, ?_, hg⟩, hm, hT⟩, fun q hq _ => va_up_ne _ _ hq⟩
  · simp [hp_pv, e0]
  · rw [va_up_ne _ _ (Ne.symm htb)]; exact e
theorem append_eq {h : hp_H} {t b n c : Nat} {T : Nat → Nat} (X : tx h t b T n) (htb : t ≠ b) (hn : n < 4097) (hc : c < 128) : ∃ h', fX3_append t (nI c) h = some h' ∧ tx h' t b (va_up T n c) (n + 1) ∧ fr h h' t b := by
  obtain ⟨h8, p1, X8, F8, hg⟩ := tx_wr X htb (i := n) hn hc
  have hT : ∀ i, i < n + 1 → va_up T n c i < 128 := fun i hi => by
    by_cases q : i = n
    · rw [q, va_up_self]; exact hc
    · rw [va_up_ne _ _ q]; exact X.2.2.2 i (by omega)
  obtain ⟨h12, p2, X12, F12⟩ := tx_len X8.1 (hg rfl hn) htb (by omega) hT
  unfold fX3_append
  rw [if_pos (tx_o X), tx_n X, Option.bind_some, if_neg (fun q => by have := (nI_leI (a := 4097) (b := n) (by omega) (by omega)).mp q; omega), tx_b X, Option.bind_some, Option.bind_some, p1, Option.bind_some, tx_n X8, Option.bind_some, ni1, nI_add, p2, Option.bind_some]
  exact ⟨h12, rfl, X12, F8.r.tr F12.l⟩
theorem tx_cut {h : hp_H} {t b n m : Nat} {T : Nat → Nat} (X : tx h t b T n) (htb : t ≠ b) (hm : m ≤ n) : ∃ h', hp_pv h t 3 1 (.int (nI m)) = some h' ∧ tx h' t b T m ∧ fr h h' t t := by
  obtain ⟨e0, ⟨g, e, hg⟩, hn, hT⟩ := X
  exact tx_len e0 ⟨g, e, fun i hi => hg i (by omega)⟩ htb (by omega) (fun i hi => hT i (by omega))
theorem dil_loop {B : Nat} (hB2 : 2 ≤ B) (hB : B ≤ 16) : ∀ (j k n : Nat), 30 - k = j → k ≤ 30 → j < n → B ^ k < 1073741824 → ∃ d, bX3_digitsInLimb_8 (nI B) n (nI k) (lN (B ^ (k + 1))) (nI k) = some (nI d) ∧ k ≤ d ∧ d ≤ 30 ∧ B ^ d < 1073741824 ∧ (k < 30 → B ^ (k + 1) < 1073741824 → k + 1 ≤ d)
  | 0, k, n + 1, hj, hk, hn, h => by
    refine ⟨k, ?_, Nat.le_refl _, hk, h, fun q => by omega⟩
    simp only [bX3_digitsInLimb_8]
    rw [if_pos (show (30 : Int32) ≤ nI k from (nI_leI (a := 30) (b := k) (by omega) (by omega)).mpr (by omega))]
  | j + 1, k, n + 1, hj, hk, hn, h => by
    simp only [bX3_digitsInLimb_8]
    rw [if_neg (fun q => by have := (nI_leI (a := 30) (b := k) (by omega) (by omega)).mp q; omega)]
    have hs : B ^ (k + 1) < 17179869184 := by
      rw [Nat.pow_succ]
      have := Nat.mul_le_mul_left (B ^ k) hB
      omega
    rw [lN_lI, show (1073741823 : Int64) = lI 1073741823 from rfl]
    generalize hS : B ^ (k + 1) = S at hs
    by_cases q : S < 1073741824
    · have q2 : ¬ lI 1073741823 < lI (S : Int) := fun w => by
        rw [lI_lt (by omega) (by omega) (by omega) (by omega)] at w; omega
      have e3 : lI (S : Int) * (nI B).toInt64 = lN (B ^ (k + 1 + 1)) := by
        rw [nI_iI, iI_l (by omega) (by omega), lI_mul, Nat.pow_succ, hS, lN_lI, Int.natCast_mul]
      rw [if_neg q2, Option.bind_some, Option.bind_some, Option.bind_some, e3, ni1, nI_add]
      obtain ⟨d, d1, d2, d3, d4, d5⟩ := dil_loop hB2 hB j (k + 1) n (by omega) (by omega) (by omega) (by rw [hS]; exact q)
      exact ⟨d, d1, by omega, d3, d4, fun _ _ => d2⟩
    · have q2 : lI 1073741823 < lI (S : Int) := by
        rw [lI_lt (by omega) (by omega) (by omega) (by omega)]; omega
      rw [if_pos q2]
      exact ⟨k, rfl, Nat.le_refl _, hk, h, fun _ w => absurd w q⟩
theorem dil_eq {B : Nat} (hB2 : 2 ≤ B) (hB : B ≤ 16) : ∃ d, fX3_digitsInLimb (nI B) = some (nI d) ∧ 1 ≤ d ∧ d ≤ 30 ∧ B ^ d < 1073741824 := by
  unfold fX3_digitsInLimb
  obtain ⟨d, d1, d2, d3, d4, d5⟩ := dil_loop hB2 hB 30 0 hp_n rfl (by omega) (by decide) (by rw [Nat.pow_zero]; omega)
  rw [Option.bind_some, nI_iI, iI_l (by omega) (by omega), ← nI_iI]
  rw [Nat.zero_add, Nat.pow_one, lN_lI] at d1
  rw [Nat.zero_add, Nat.pow_one] at d5
  exact ⟨d, d1, d5 (by omega) (by omega), d3, d4⟩
theorem nI_mul (a b : Nat) : nI a * nI b = nI (a * b) := by rw [nI_iI, nI_iI, iI_mul, nI_iI, Int.natCast_mul]
theorem pow_loop {B m : Nat} (hm : m < 2147483648) : ∀ (j k n : Nat), m - k = j → k ≤ m → j < n → bX3_powerOf_4 (nI B) (nI m) n (nI (B ^ k)) (nI k) = some (nI (B ^ m))
  | 0, k, n + 1, hj, hk, hn => by
    simp only [bX3_powerOf_4]
    rw [if_pos ((nI_leI (by omega) (by omega)).mpr (by omega)), show k = m by omega]
  | j + 1, k, n + 1, hj, hk, hn => by
    simp only [bX3_powerOf_4]
    rw [if_neg (fun q => by have := (nI_leI (by omega) (by omega)).mp q; omega), Option.bind_some, Option.bind_some, nI_mul, ni1, nI_add, ← Nat.pow_succ]
    exact pow_loop hm j (k + 1) n (by omega) (by omega) (by omega)
theorem powerOf_eq {B m : Nat} (hm : m < 1000000) : fX3_powerOf (nI B) (nI m) = some (nI (B ^ m)) := by
  unfold fX3_powerOf
  exact pow_loop (by omega) m 0 hp_n rfl (by omega) hm
def lt (d : Nat) : Nat := if d < 10 then 48 + d else 87 + d
theorem letterOf_eq : ∀ d, d < 16 → fX3_letterOf (nI d) = some (nI (lt d)) := by decide +kernel
theorem lt_128 {d : Nat} (h : d < 16) : lt d < 128 := by unfold lt; split <;> omega
/-- a digit's worth, 16 if it is none -/
def dv (c : Nat) : Nat := if 48 ≤ c ∧ c ≤ 57 then c - 48 else if 97 ≤ c ∧ c ≤ 102 then c - 87 else if 65 ≤ c ∧ c ≤ 70 then c - 55 else 16
theorem digitOf_eq : ∀ c, c < 128 → fX3_digitOf (nI c) = some (if dv c < 16 then nI (dv c) else -1) := by decide +kernel
theorem dv_le : ∀ c, dv c ≤ 16 := fun c => by
  unfold dv
  split
  · omega
  · split
    · omega
    · split <;> omega
