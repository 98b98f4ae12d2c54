/-! the reference: low, part -/
theorem low_loop {h : hp_H} {y n k : Nat} {R : Nat → Int} {T : Nat → Nat} {t : Int32} {A B C X Y Z : Option Nat} (S : m3 h y R T n t A B C X Y Z) (hk : k < 8) : ∀ (i f : Nat), i ≤ nL (R k).natAbs → i < f → bX6_low_34 y (nI k) f (lI (sg (R k) ((R k).natAbs / 10000 ^ i))) (iI ((i : Int) - 1)) h = some (lI (R k), h)
  | 0, f + 1, hi, hf => by
    rw [bX6_low_34]
    rw [if_pos (by decide), Nat.pow_zero, Nat.div_one]
    have : sg (R k) (R k).natAbs = R k := by
      unfold sg
      by_cases hn : R k < 0
      · rw [if_pos hn]; omega
      · rw [if_neg hn]; omega
    rw [this]
  | i + 1, f + 1, hi, hf => by
    have hr := m3_reg S hk
    have ex : iI (((i + 1 : Nat) : Int) - 1) = nI i := by rw [nI_iI]; congr 1; omega
    have en : nI i + (-1 : Int32) = iI ((i : Int) - 1) := by rw [nI_iI, show (-1 : Int32) = iI (-1) from rfl, iI_add]; congr 1
    have dl := di_lt (R k).natAbs i
    rw [bX6_low_34]
    rw [ex, if_neg (nI_lt0 (by omega)), m3_r2 S, Option.bind_some, hr.2.1, Option.bind_some, m3_r0 S, Option.bind_some, m3_dig S hk (by omega), Option.bind_some, Option.bind_some, Option.bind_some, en]
    have ev : lI (sg (R k) ((R k).natAbs / 10000 ^ (i + 1))) * (10000 : Int64) + (cmpZ (R k) 0 * nI (di (R k).natAbs i)).toInt64 = lI (sg (R k) ((R k).natAbs / 10000 ^ i)) := by
      have hs : (R k).natAbs / 10000 ^ i = (R k).natAbs / 10000 ^ (i + 1) * 10000 + di (R k).natAbs i := by
        unfold di
        rw [← di_mod]; omega
      rw [hs]
      generalize (R k).natAbs / 10000 ^ (i + 1) = q
      generalize hd : di (R k).natAbs i = d at dl
      have hd0 : R k = 0 → d = 0 := fun e => by
        rw [← hd, e]
        unfold di
        rw [Int.natAbs_zero, Nat.zero_div, Nat.zero_mod]
      rw [show (10000 : Int64) = lI 10000 from rfl, lI_mul]
      rcases cmp0 (R k) with ⟨a1, a2⟩ | ⟨a1, a2⟩ | ⟨a1, a2⟩ <;> rw [a2]
      · rw [show (-1 : Int32) = iI (-1) from rfl, nI_iI, iI_mul, iI_l (by omega) (by omega), lI_add]
        congr 1
        unfold sg
        rw [if_pos a1, if_pos a1]; omega
      · rw [hd0 a1, show (0 : Int32) = iI 0 from rfl, nI_iI, iI_mul, iI_l (by omega) (by omega), lI_add]
        congr 1
        unfold sg
        rw [if_neg (by omega), if_neg (by omega)]; omega
      · rw [show (1 : Int32) = iI 1 from rfl, nI_iI, iI_mul, iI_l (by omega) (by omega), lI_add]
        congr 1
        unfold sg
        rw [if_neg (by omega), if_neg (by omega)]; omega
    rw [ev]
    exact low_loop S hk i f (by omega) (by omega)
theorem mlow_eq {h : hp_H} {y n : Nat} {R : Nat → Int} {T : Nat → Nat} {t : Int32} (S : ms h y R T n t) (a : Int32) : ∃ h', fX6_low y a h = some (sLow R a, h') ∧ ms h' y R T n 0 := by
  unfold fX6_low sLow
  obtain ⟨h1, p0, S1⟩ := ms_0 S
  rw [if_pos (m3_o S), p0, Option.bind_some]
  rcases rg6 a with ⟨e1, f1⟩ | ⟨k, hk, rfl, e1, f1⟩
  · rw [f1, Option.bind_some, if_pos rfl, e1]; exact ⟨h1, rfl, S1⟩
  obtain ⟨h7, p1, S7⟩ := misLong_eq S1 hk
  rw [f1, Option.bind_some, if_neg (by decide), e1, p1, Option.bind_some]
  simp only []
  by_cases hl : -9223372036854775808 ≤ R k ∧ R k < 9223372036854775808
  · have hr := m3_reg S7 hk
    have L := low_loop S7 hk (nL (R k).natAbs) hp_n (Nat.le_refl _) (show nL (R k).natAbs < 1000000 by omega)
    rw [Nat.div_eq_of_lt (nL_top _ (Nat.le_refl _))] at L
    have e0 : lI (sg (R k) 0) = (0 : Int64) := by unfold sg; split <;> rfl
    have e : nI (nL (R k).natAbs) - (1 : Int32) = iI ((nL (R k).natAbs : Int) - 1) := by rw [nI_iI, show (1 : Int32) = iI 1 from rfl, iI_sub]
    rw [e0] at L
    rw [if_pos hl, if_neg (by decide), if_pos hl, m3_r1 S7, Option.bind_some, hr.1, Option.bind_some, Option.bind_some, e, L]
    exact ⟨h7, rfl, S7⟩
  · rw [if_neg hl, if_pos rfl, if_neg hl]; exact ⟨h7, rfl, S7⟩
theorem ishl1 {k : Nat} (hk : k < 30) : hp_ishl (1 : Int32) (nI k) = nI (2 ^ k) := by
  rw [ni1, nI_shl (by decide) (by omega), Nat.one_mul, Nat.mod_eq_of_lt]
  exact Nat.lt_of_lt_of_le (Nat.pow_lt_pow_right (by decide) (show k < 32 by omega)) (by decide)
theorem part_bits {y n X : Nat} {R : Nat → Int} {T : Nat → Nat} {t : Int32} {B C Y Z : Option Nat} : ∀ (e k f : Nat) (h : hp_H), 30 - k = e → k ≤ 30 → e < f → m3 h y R T n t (some (X / 2 ^ k)) B C (some (X / 2 ^ k)) Y Z → ∃ h', bX6_part_63 y f (nI (X % 2 ^ k)) (nI k) h = some (nI (X % 1073741824), h') ∧ m3 h' y R T n t none B C none Y Z
  | 0, k, f + 1, h, he, hk, hf, S => by
    have hk : k = 30 := by omega
    rw [bX6_part_63]
    rw [if_pos (show (30 : Int32) ≤ nI k from (nI_leI (a := 30) (by omega) (by omega)).mpr (by omega)), hk, show (2 : Nat) ^ 30 = 1073741824 from rfl]
    refine ⟨h, rfl, ?_⟩
    obtain ⟨c, M, qA, qB, qC, qX, qY, qZ⟩ := S
    exact ⟨c, M, fun v e => (by cases e), qB, qC, fun v e => (by cases e), qY, qZ⟩
  | e + 1, k, f + 1, h, he, hk, hf, S => by
    rw [bX6_part_63]
    rw [if_neg (show ¬ (30 : Int32) ≤ nI k from fun q => by have := (nI_leI (a := 30) (by omega) (by omega)).mp q; omega), m3_r5 S, Option.bind_some, m3_i8 S, Option.bind_some, isOdd_eq (m3_vX S), Option.bind_some]
    have hm := mod_pow2 X k
    have hlt : X / 2 ^ k % 2 < 2 := Nat.mod_lt _ (by decide)
    have hpk : X % 2 ^ k < 2 ^ k := Nat.mod_lt _ (Nat.two_pow_pos k)
    obtain ⟨h6, p1, V6, F6⟩ := half_eq (m3_vX S)
    have S6 := m3_wX S F6 V6
    obtain ⟨h9, p2, S9, -⟩ := m3_pA S6 (X / 2 ^ k / 2)
    rw [div_pow2] at S9
    have go : ∀ x, x = X % 2 ^ (k + 1) → ∃ h', bX6_part_91 (bX6_part_63 y f) y (nI x) (nI k) h = some (nI (X % 1073741824), h') ∧ m3 h' y R T n t none B C none Y Z := by
      intro x hx
      unfold bX6_part_91
      rw [m3_r5 S, Option.bind_some, m3_i8 S, Option.bind_some, p1, Option.bind_some]
      simp only []
      rw [p2, Option.bind_some, Option.bind_some, ni1, nI_add, hx]
      exact part_bits e (k + 1) f h9 (by omega) (by omega) (by omega) S9
    by_cases ho : X / 2 ^ k % 2 = 0
    · rw [ho, if_pos (show nI 0 = (0 : Int32) from rfl)]
      exact go _ (by rw [hm, ho, Nat.mul_zero, Nat.add_zero])
    · have ho1 : X / 2 ^ k % 2 = 1 := by omega
      have eor : X % 2 ^ k ||| 2 ^ k = X % 2 ^ (k + 1) := by
        have := Nat.two_pow_add_eq_or_of_lt hpk 1
        rw [Nat.mul_one] at this
        rw [Nat.or_comm, ← this, hm, ho1, Nat.mul_one, Nat.add_comm]
      rw [ho1, if_neg (show ¬ nI 1 = (0 : Int32) by decide), Option.bind_some, ishl1 (by omega), nI_or, eor]
      exact go _ rfl
theorem part_loop {y n v m : Nat} {R : Nat → Int} {T : Nat → Nat} {t : Int32} {B C Y Z : Option Nat} (hm : m < 2147483648) : ∀ (e k f : Nat) (h : hp_H), bl (v / 2 ^ k) = e → e < f → k ≤ m → m3 h y R T n t (some (v / 2 ^ k)) B C (some (v / 2 ^ k)) Y Z → ∃ h', bX6_part_25 y (nI m) f (nI k) h = some (nI (v / 2 ^ m % 1073741824), h') ∧ m3 h' y R T n t none B C none Y Z
  | e, k, f + 1, h, he, hf, hkm, S => by
    have hv := (m3_vX S).1
    rw [bX6_part_25]
    have fin : v / 2 ^ k = v / 2 ^ m → ∃ h', bX6_part_58 y h = some (nI (v / 2 ^ m % 1073741824), h') ∧ m3 h' y R T n t none B C none Y Z := by
      intro hq
      unfold bX6_part_58
      rw [hq] at S
      have e0 : v / 2 ^ m / 2 ^ 0 = v / 2 ^ m := by rw [Nat.pow_zero, Nat.div_one]
      rw [← e0] at S
      have := part_bits (X := v / 2 ^ m) 30 0 hp_n h rfl (by omega) (by decide) S
      rw [Nat.pow_zero, Nat.mod_one] at this
      exact this
    by_cases hk : m ≤ k
    · rw [if_pos ((nI_leI (by omega) (by omega)).mpr hk)]
      exact fin (by rw [show k = m by omega])
    · rw [if_neg (fun q => hk ((nI_leI (by omega) (by omega)).mp q)), m3_i8 S, Option.bind_some]
      by_cases h0 : v / 2 ^ k = 0
      · rw [if_pos ((nLz_le hv).mpr h0)]
        refine fin ?_
        have h1 : v < 2 ^ k := by
          rcases Nat.lt_or_ge v (2 ^ k) with q | q
          · exact q
          · have := Nat.div_pos q (Nat.two_pow_pos k); omega
        have h2 : 2 ^ k ≤ 2 ^ m := Nat.pow_le_pow_right (by decide) hkm
        rw [h0, Nat.div_eq_of_lt (Nat.lt_of_lt_of_le h1 h2)]
      · have hp := bl_pos h0
        obtain ⟨h10, p1, V10, F10⟩ := half_eq (m3_vX S)
        have S10 := m3_wX S F10 V10
        obtain ⟨h13, p2, S13, -⟩ := m3_pA S10 (v / 2 ^ k / 2)
        rw [if_neg (fun q => h0 ((nLz_le hv).mp q)), m3_r5 S, Option.bind_some, Option.bind_some, p1, Option.bind_some]
        simp only []
        rw [p2, Option.bind_some, Option.bind_some, ni1, nI_add]
        rw [div_pow2] at S13
        exact part_loop hm (e - 1) (k + 1) f h13 (by rw [← div_pow2, bl_half]; omega) (by omega) (by omega) S13
theorem mpart_eq {h : hp_H} {y n : Nat} {R : Nat → Int} {T : Nat → Nat} {t : Int32} (S : ms h y R T n t) (a i : Int32) : ∃ h', fX6_part y a i h = some (sPart R a i, h') ∧ ms h' y R T n 0 := by
  unfold fX6_part sPart
  obtain ⟨h1, p0, S1⟩ := ms_0 S
  rw [if_pos (m3_o S), p0, Option.bind_some]
  rcases rg6 a with ⟨e1, f1⟩ | ⟨k, hk, rfl, e1, f1⟩
  · rw [f1, Option.bind_some, if_pos rfl, e1]; exact ⟨h1, rfl, S1⟩
  rw [f1, Option.bind_some, if_neg (by decide), e1]
  simp only []
  by_cases hi : i < 0
  · rw [if_pos hi, if_neg (show ¬ (0 : Int32) ≤ i from fun q => by
      rw [Int32.le_iff_toInt_le] at q
      rw [Int32.lt_iff_toInt_lt] at hi
      omega)]
    exact ⟨h1, rfl, S1⟩
  · obtain ⟨j, hj, rfl⟩ := nI_of hi
    have hr := m3_reg S1 hk
    obtain ⟨h8, p1, S8⟩ := toX_eq S1 hk
    rw [if_neg hi, if_pos (show (0 : Int32) ≤ nI j from (nI_leI (a := 0) (by omega) (by omega)).mpr (by omega)), p1, Option.bind_some, nI_cl hj]
    have e0 : (R k).natAbs / 2 ^ 0 = (R k).natAbs := by rw [Nat.pow_zero, Nat.div_one]
    rw [← e0] at S8
    obtain ⟨h', q1, q2⟩ := part_loop hj _ 0 hp_n h8 rfl (by rw [e0]; exact show bl (R k).natAbs < 1000000 by omega) (by omega) S8
    exact ⟨h', q1, m3_any q2⟩
