/-! the reference: compare, sign, bits, part, hasBelow, fits, low -/
def ms (h : hp_H) (y : Nat) (R : Nat → Int) (T : Nat → Nat) (n : Nat) (t : Int32) : Prop := m3 h y R T n t none none none none none none
/-- each call begins so: thrown is 0 -/
theorem ms_0 {h : hp_H} {y n : Nat} {R : Nat → Int} {T : Nat → Nat} {t : Int32} (S : ms h y R T n t) : ∃ h', hp_pv h y 6 11 (.int (0 : Int32)) = some h' ∧ ms h' y R T n 0 := by
  obtain ⟨h', p1, S', -⟩ := m3_thr S 0
  exact ⟨h', p1, S'⟩
theorem rg6 (x : Int32) : (rg x = none ∧ fX6_isRegister x = some 0) ∨ ∃ k, k < 8 ∧ x = nI k ∧ rg x = some k ∧ fX6_isRegister x = some 1 := by
  rw [isReg6]; exact rg_cases x
theorem cmp0 (x : Int) : (x < 0 ∧ cmpZ x 0 = -1) ∨ (x = 0 ∧ cmpZ x 0 = 0) ∨ (0 < x ∧ cmpZ x 0 = 1) := by
  unfold cmpZ
  rcases Int.lt_trichotomy x 0 with h | h | h
  · exact Or.inl ⟨h, if_pos h⟩
  · exact Or.inr (Or.inl ⟨h, by rw [if_neg (by omega), if_pos h]⟩)
  · exact Or.inr (Or.inr ⟨h, by rw [if_neg (by omega), if_neg (by omega)]⟩)
theorem cmp_ne {x y : Int} (h : cmpZ x 0 ≠ cmpZ y 0) : (if cmpZ y 0 ≤ cmpZ x 0 then (1 : Int32) else -1) = cmpZ x y := by
  have key : ∀ o : Int32, (x < y → o = -1) → (y < x → o = 1) → x ≠ y → o = cmpZ x y := fun o h1 h2 h3 => by
    unfold cmpZ
    rcases Int.lt_trichotomy x y with q | q | q
    · rw [if_pos q]; exact h1 q
    · exact absurd q h3
    · rw [if_neg (by omega), if_neg (by omega)]; exact h2 q
  have hne : x ≠ y := fun q => h (by rw [q])
  rcases cmp0 x with ⟨a1, a2⟩ | ⟨a1, a2⟩ | ⟨a1, a2⟩ <;> rcases cmp0 y with ⟨b1, b2⟩ | ⟨b1, b2⟩ | ⟨b1, b2⟩ <;> rw [a2, b2] at h ⊢
  · exact absurd rfl h
  · exact key _ (fun _ => by decide) (fun q => by omega) hne
  · exact key _ (fun _ => by decide) (fun q => by omega) hne
  · exact key _ (fun q => by omega) (fun _ => by decide) hne
  · exact absurd rfl h
  · exact key _ (fun _ => by decide) (fun q => by omega) hne
  · exact key _ (fun q => by omega) (fun _ => by decide) hne
  · exact key _ (fun q => by omega) (fun _ => by decide) hne
  · exact absurd rfl h
theorem cmp_eqs {x y : Int} (h : cmpZ x 0 = cmpZ y 0) : (if (0 : Int32) ≤ cmpZ x 0 then cmpI x.natAbs y.natAbs else -cmpI x.natAbs y.natAbs) = cmpZ x y := by
  have e0 : (0 : Int32) ≤ 0 := by decide
  have e1 : (0 : Int32) ≤ 1 := by decide
  have e2 : ¬ (0 : Int32) ≤ -1 := by decide
  rcases cmp0 x with ⟨a1, a2⟩ | ⟨a1, a2⟩ | ⟨a1, a2⟩ <;> rcases cmp0 y with ⟨b1, b2⟩ | ⟨b1, b2⟩ | ⟨b1, b2⟩ <;> rw [a2, b2] at h
  · rw [a2, if_neg e2]
    unfold cmpI cmpZ
    rcases Int.lt_trichotomy x y with q | q | q
    · rw [if_neg (by omega), if_neg (by omega), if_pos q]
    · rw [if_neg (by omega), if_pos (by omega), if_neg (by omega), if_pos q]; decide
    · rw [if_pos (by omega), if_neg (by omega), if_neg (by omega)]; decide
  · exact absurd h (by decide)
  · exact absurd h (by decide)
  · exact absurd h (by decide)
  · rw [a2, if_pos e0]
    unfold cmpI cmpZ
    rw [if_neg (by omega), if_pos (by omega), if_neg (by omega), if_pos (by omega)]
  · exact absurd h (by decide)
  · exact absurd h (by decide)
  · exact absurd h (by decide)
  · rw [a2, if_pos e1]
    unfold cmpI cmpZ
    rcases Int.lt_trichotomy x y with q | q | q
    · rw [if_pos (by omega), if_pos q]
    · rw [if_neg (by omega), if_pos (by omega), if_neg (by omega), if_pos q]
    · rw [if_neg (by omega), if_neg (by omega), if_neg (by omega), if_neg (by omega)]
theorem mcompare_eq {h : hp_H} {y n : Nat} {R : Nat → Int} {T : Nat → Nat} {t : Int32} (S : ms h y R T n t) (a b : Int32) : ∃ h', fX6_compare y a b h = some (sCompare R a b, h') ∧ ms h' y R T n 0 := by
  unfold fX6_compare sCompare
  obtain ⟨h1, p0, S1⟩ := ms_0 S
  rw [if_pos (m3_o S), p0, Option.bind_some]
  rcases rg6 a with ⟨e1, f1⟩ | ⟨k, hk, rfl, e1, f1⟩
  · rw [f1, Option.bind_some, if_pos rfl, e1]; exact ⟨h1, rfl, S1⟩
  rcases rg6 b with ⟨e2, f2⟩ | ⟨i, hi, rfl, e2, f2⟩
  · rw [f1, Option.bind_some, if_neg (by decide), f2, Option.bind_some, if_pos rfl, e1, e2]; exact ⟨h1, rfl, S1⟩
  rw [f1, Option.bind_some, if_neg (by decide), f2, Option.bind_some, if_neg (by decide), e1, e2]
  simp only []
  have rk := m3_reg S1 hk
  have ri := m3_reg S1 hi
  rw [m3_r2 S1, Option.bind_some, rk.2.1, Option.bind_some, Option.bind_some, ri.2.1, Option.bind_some]
  by_cases hs : cmpZ (R k) 0 = cmpZ (R i) 0
  · obtain ⟨h19, p1, S19⟩ := toX_eq S1 hk
    obtain ⟨h21, p2, S21⟩ := toY_eq S19 hi
    rw [if_pos hs, p1, Option.bind_some, p2, Option.bind_some, m3_r5 S21, Option.bind_some, m3_i8 S21, Option.bind_some, m3_r6 S21, Option.bind_some, m3_i9 S21, Option.bind_some, cmp_eq (m3_vX S21) (m3_vY S21), Option.bind_some, m3_r2 S21, Option.bind_some, (m3_reg S21 hk).2.1, Option.bind_some, ← cmp_eqs hs]
    by_cases h0 : (0 : Int32) ≤ cmpZ (R k) 0
    · rw [if_pos h0, if_pos h0]; exact ⟨h21, rfl, m3_any S21⟩
    · rw [if_neg h0, if_neg h0]; exact ⟨h21, rfl, m3_any S21⟩
  · rw [if_neg hs, Option.bind_some, rk.2.1, Option.bind_some, Option.bind_some, ri.2.1, Option.bind_some, ← cmp_ne hs]
    by_cases h0 : cmpZ (R i) 0 ≤ cmpZ (R k) 0
    · rw [if_pos h0, if_pos h0]; exact ⟨h1, rfl, S1⟩
    · rw [if_neg h0, if_neg h0]; exact ⟨h1, rfl, S1⟩
theorem msign_eq {h : hp_H} {y n : Nat} {R : Nat → Int} {T : Nat → Nat} {t : Int32} (S : ms h y R T n t) (a : Int32) : ∃ h', fX6_sign y a h = some (sSign R a, h') ∧ ms h' y R T n 0 := by
  unfold fX6_sign sSign
  obtain ⟨h1, p0, S1⟩ := ms_0 S
  rw [if_pos (m3_o S), p0, Option.bind_some]
  rcases rg6 a with ⟨e1, f1⟩ | ⟨k, hk, rfl, e1, f1⟩
  · rw [f1, Option.bind_some, if_pos rfl, e1]; exact ⟨h1, rfl, S1⟩
  rw [f1, Option.bind_some, if_neg (by decide), e1, m3_r2 S1, Option.bind_some, (m3_reg S1 hk).2.1, Option.bind_some]
  exact ⟨h1, rfl, S1⟩
theorem mbits_eq {h : hp_H} {y n : Nat} {R : Nat → Int} {T : Nat → Nat} {t : Int32} (S : ms h y R T n t) (a : Int32) : ∃ h', fX6_bits y a h = some (sBits R a, h') ∧ ms h' y R T n 0 := by
  unfold fX6_bits sBits
  obtain ⟨h1, p0, S1⟩ := ms_0 S
  rw [if_pos (m3_o S), p0, Option.bind_some]
  rcases rg6 a with ⟨e1, f1⟩ | ⟨k, hk, rfl, e1, f1⟩
  · rw [f1, Option.bind_some, if_pos rfl, e1]; exact ⟨h1, rfl, S1⟩
  obtain ⟨h7, p1, S7⟩ := bitsOf_eq S1 hk
  rw [f1, Option.bind_some, if_neg (by decide), e1, p1, Option.bind_some]
  exact ⟨h7, rfl, m3_any S7⟩
theorem div_pow2 (v k : Nat) : v / 2 ^ k / 2 = v / 2 ^ (k + 1) := by rw [Nat.div_div_eq_div_mul, Nat.pow_succ]
theorem mod_pow2 (v k : Nat) : v % 2 ^ (k + 1) = v % 2 ^ k + 2 ^ k * (v / 2 ^ k % 2) := by rw [Nat.pow_succ, Nat.mod_mul]
theorem any_loop6 {y n : Nat} {R : Nat → Int} {T : Nat → Nat} {t : Int32} {B C Y Z : Option Nat} {v m : Nat} (hm : m < 2147483648) : ∀ (e k f : Nat) (h : hp_H), bl (v / 2 ^ k) = e → e < f → k ≤ m → v % 2 ^ k = 0 → m3 h y R T n t (some (v / 2 ^ k)) B C (some (v / 2 ^ k)) Y Z → ∃ h', bX6_anyBelow_7 y (nI m) f (nI k) h = some (if v % 2 ^ m = 0 then 0 else 1, h') ∧ m3 h' y R T n t none B C none Y Z
  | e, k, f + 1, h, he, hf, hkm, hz, S => by
    have weak : m3 h y R T n t none B C none Y Z := by
      obtain ⟨c, M, qA, qB, qC, qX, qY, qZ⟩ := S
      exact ⟨c, M, fun v e => (by cases e), qB, qC, fun v e => (by cases e), qY, qZ⟩
    have hv := (m3_vX S).1
    simp only [bX6_anyBelow_7]
    by_cases hk : m ≤ k
    · rw [if_pos ((nI_leI (by omega) (by omega)).mpr hk)]
      rw [show k = m by omega] at hz
      rw [if_pos hz]; exact ⟨h, rfl, weak⟩
    · rw [if_neg (fun q => hk ((nI_leI (by omega) (by omega)).mp q)), m3_i8 S, Option.bind_some]
      by_cases h0 : v / 2 ^ k = 0
      · have hv0 : v = 0 := by have := Nat.div_add_mod v (2 ^ k); rw [h0, hz] at this; omega
        rw [if_pos ((nLz_le hv).mpr h0), if_pos (by rw [hv0, Nat.zero_mod])]
        exact ⟨h, rfl, weak⟩
      · have hp := bl_pos h0
        rw [if_neg (fun q => h0 ((nLz_le hv).mp q)), m3_r5 S, Option.bind_some, Option.bind_some, isOdd_eq (m3_vX S), Option.bind_some]
        have hmod := mod_pow2 v k
        have hlt : v / 2 ^ k % 2 < 2 := Nat.mod_lt _ (by decide)
        by_cases hodd : v / 2 ^ k % 2 = 0
        · obtain ⟨h17, p1, V17, F17⟩ := half_eq (m3_vX S)
          have S17 := m3_wX S F17 V17
          obtain ⟨h20, p2, S20, -⟩ := m3_pA S17 (v / 2 ^ k / 2)
          rw [hodd, if_pos (show nI 0 = (0 : Int32) from rfl), Option.bind_some, Option.bind_some, p1, Option.bind_some]
          simp only []
          rw [p2, Option.bind_some, Option.bind_some, ni1, nI_add]
          rw [hz, hodd] at hmod
          rw [div_pow2] at S20
          exact any_loop6 hm (e - 1) (k + 1) f h20 (by rw [← div_pow2, bl_half]; omega) (by omega) (by omega) hmod S20
        · rw [if_neg (fun q => hodd ((nI_zero (by omega)).mp q))]
          have hne : ¬ v % 2 ^ m = 0 := fun q => by
            have d1 : 2 ^ (k + 1) ∣ 2 ^ m := Nat.pow_dvd_pow 2 (by omega)
            have d2 := Nat.mod_eq_zero_of_dvd (Nat.dvd_trans d1 (Nat.dvd_of_mod_eq_zero q))
            rw [hz, show v / 2 ^ k % 2 = 1 by omega] at hmod
            have := Nat.two_pow_pos k
            omega
          rw [if_neg hne]
          exact ⟨h, rfl, weak⟩
theorem anyBelow_eq {h : hp_H} {y n k : Nat} {R : Nat → Int} {T : Nat → Nat} {t : Int32} {A B C X Y Z : Option Nat} (S : m3 h y R T n t A B C X Y Z) (hk : k < 8) {m : Nat} (hm : m < 2147483648) : ∃ h', fX6_anyBelow y (nI k) (nI m) h = some (if (R k).natAbs % 2 ^ m = 0 then 0 else 1, h') ∧ m3 h' y R T n t none B C none Y Z := by
  have hr := m3_reg S hk
  unfold fX6_anyBelow
  obtain ⟨h2, p1, S2⟩ := toX_eq S hk
  rw [if_pos (m3_o S), p1, Option.bind_some]
  have e0 : (R k).natAbs / 2 ^ 0 = (R k).natAbs := by rw [Nat.pow_zero, Nat.div_one]
  rw [← e0] at S2
  exact any_loop6 hm _ 0 hp_n h2 rfl (by rw [e0]; exact show bl (R k).natAbs < 1000000 by omega) (by omega) (by rw [Nat.pow_zero, Nat.mod_one]) S2
theorem mhasBelow_eq {h : hp_H} {y n : Nat} {R : Nat → Int} {T : Nat → Nat} {t : Int32} (S : ms h y R T n t) (a m : Int32) : ∃ h', fX6_hasBelow y a m h = some (sHasBelow R a m, h') ∧ ms h' y R T n 0 := by
  unfold fX6_hasBelow sHasBelow
  obtain ⟨h1, p0, S1⟩ := ms_0 S
  rw [if_pos (m3_o S), p0, Option.bind_some]
  rcases rg6 a with ⟨e1, f1⟩ | ⟨k, hk, rfl, e1, f1⟩
  · rw [f1, Option.bind_some, if_pos rfl, e1]; exact ⟨h1, rfl, S1⟩
  rw [f1, Option.bind_some, if_neg (by decide), e1]
  simp only []
  by_cases hm : m < 1
  · rw [if_pos hm]
    have hm0 : m ≤ 0 := by
      rw [Int32.lt_iff_toInt_lt] at hm
      rw [Int32.le_iff_toInt_le]
      have e0 : (0 : Int32).toInt = 0 := rfl
      have e1 : (1 : Int32).toInt = 1 := rfl
      omega
    unfold fX6_anyBelow
    obtain ⟨h2, p1, S2⟩ := toX_eq S1 hk
    have z : ∀ f, bX6_anyBelow_7 y m (f + 1) (0 : Int32) h2 = some ((0 : Int32), h2) := fun f => by
      simp only [bX6_anyBelow_7]
      rw [if_pos hm0]
    rw [if_pos (m3_o S1), p1, Option.bind_some, show hp_n = 999999 + 1 from rfl, z, Option.bind_some]
    simp only []
    rw [if_pos trivial]
    exact ⟨h2, rfl, m3_any S2⟩
  · have h00 : ¬ m < 0 := fun q => hm (by
      rw [Int32.lt_iff_toInt_lt] at q ⊢
      have e0 : (0 : Int32).toInt = 0 := rfl
      have e1 : (1 : Int32).toInt = 1 := rfl
      omega)
    obtain ⟨j, hj, rfl⟩ := nI_of h00
    obtain ⟨h7, p1, S7⟩ := anyBelow_eq S1 hk hj
    rw [if_neg hm, p1, Option.bind_some, nI_cl hj]
    simp only []
    by_cases hz : (R k).natAbs % 2 ^ j = 0
    · rw [if_pos hz, if_pos rfl]; exact ⟨h7, rfl, m3_any S7⟩
    · rw [if_neg hz, if_neg (by decide)]; exact ⟨h7, rfl, m3_any S7⟩
theorem misLong_eq {h : hp_H} {y n k : Nat} {R : Nat → Int} {T : Nat → Nat} {t : Int32} (S : ms h y R T n t) (hk : k < 8) : ∃ h', fX6_isLong y (nI k) h = some (if -9223372036854775808 ≤ R k ∧ R k < 9223372036854775808 then 1 else 0, h') ∧ ms h' y R T n t := by
  unfold fX6_isLong
  have hr := m3_reg S hk
  obtain ⟨h2, p1, S2⟩ := bitsOf_eq S hk
  rw [if_pos (m3_o S), p1, Option.bind_some]
  simp only []
  have p63 : (2 : Nat) ^ 63 = 9223372036854775808 := rfl
  have p64 : (2 : Nat) ^ 64 = 18446744073709551616 := rfl
  have b63 : bl (R k).natAbs ≤ 63 ↔ (R k).natAbs < 2 ^ 63 := bl_le
  have b64 : bl (R k).natAbs ≤ 64 ↔ (R k).natAbs < 2 ^ 64 := bl_le
  by_cases h1 : bl (R k).natAbs < 64
  · rw [if_pos (show nI (bl (R k).natAbs) < (64 : Int32) from (nI_ltI (b := 64) (by omega) (by omega)).mpr h1), if_pos (by omega)]
    exact ⟨h2, rfl, m3_any S2⟩
  rw [if_neg (show ¬ nI (bl (R k).natAbs) < (64 : Int32) from fun q => h1 ((nI_ltI (b := 64) (by omega) (by omega)).mp q))]
  by_cases h64 : bl (R k).natAbs = 64
  · rw [if_pos (by rw [h64]; rfl), m3_r2 S2, Option.bind_some, (m3_reg S2 hk).2.1, Option.bind_some]
    rcases cmp0 (R k) with ⟨a1, a2⟩ | ⟨a1, a2⟩ | ⟨a1, a2⟩ <;> rw [a2]
    · obtain ⟨h13, p2, S13⟩ := anyBelow_eq S2 hk (m := 63) (by decide)
      rw [if_neg (by decide), show (63 : Int32) = nI 63 from rfl, p2, Option.bind_some]
      simp only []
      by_cases hz : (R k).natAbs % 2 ^ 63 = 0
      · rw [if_pos hz, if_pos rfl, if_pos (by omega)]; exact ⟨h13, rfl, m3_any S13⟩
      · rw [if_neg hz, if_neg (by decide), if_neg (by
          intro q
          have : (R k).natAbs = 2 ^ 63 := by omega
          rw [this] at hz
          exact hz (Nat.mod_self _))]; exact ⟨h13, rfl, m3_any S13⟩
    · rw [if_pos (by decide), if_neg (by omega)]; exact ⟨h2, rfl, m3_any S2⟩
    · rw [if_pos (by decide), if_neg (by omega)]; exact ⟨h2, rfl, m3_any S2⟩
  · rw [if_neg (show ¬ nI (bl (R k).natAbs) = (64 : Int32) from fun q => h64 ((nI_ij (b := 64) (by omega) (by omega)).mp q)), if_neg (by omega)]
    exact ⟨h2, rfl, m3_any S2⟩
theorem mfits_eq {h : hp_H} {y n : Nat} {R : Nat → Int} {T : Nat → Nat} {t : Int32} (S : ms h y R T n t) (a : Int32) : ∃ h', fX6_fits y a h = some (sFits R a, h') ∧ ms h' y R T n 0 := by
  unfold fX6_fits sFits
  obtain ⟨h1, p0, S1⟩ := ms_0 S
  rw [if_pos (m3_o S), p0, Option.bind_some]
  rcases rg6 a with ⟨e1, f1⟩ | ⟨k, hk, rfl, e1, f1⟩
  · rw [f1, Option.bind_some, if_pos rfl, e1]; exact ⟨h1, rfl, S1⟩
  obtain ⟨h7, p1, S7⟩ := misLong_eq S1 hk
  rw [f1, Option.bind_some, if_neg (by decide), e1, p1, Option.bind_some]
  simp only []
  by_cases hl : -9223372036854775808 ≤ R k ∧ R k < 9223372036854775808
  · rw [if_pos hl, if_neg (by decide)]; exact ⟨h7, rfl, S7⟩
  · rw [if_neg hl, if_pos rfl]; exact ⟨h7, rfl, S7⟩
