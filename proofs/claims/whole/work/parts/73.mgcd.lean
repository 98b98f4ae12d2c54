/-! the reference: gcd, in Stein's way -/
theorem gcd_half_l {a b : Nat} (ha : a % 2 = 0) (hb : b % 2 = 1) : Nat.gcd (a / 2) b = Nat.gcd a b := by
  obtain ⟨c, rfl⟩ : ∃ c, a = 2 * c := ⟨a / 2, by omega⟩
  rw [Nat.mul_div_cancel_left _ (by decide)]
  have hcop : Nat.Coprime 2 b := by
    rw [Nat.Coprime, Nat.gcd_rec, hb]; rfl
  exact (Nat.Coprime.gcd_mul_left_cancel c hcop).symm
theorem gcd_half_r {a b : Nat} (ha : a % 2 = 1) (hb : b % 2 = 0) : Nat.gcd a (b / 2) = Nat.gcd a b := by
  rw [Nat.gcd_comm, gcd_half_l hb ha, Nat.gcd_comm]
theorem gcd_sub_l {a b : Nat} (h : b ≤ a) : Nat.gcd (a - b) b = Nat.gcd a b := Nat.gcd_sub_self_left h
theorem gcd_sub_r {a b : Nat} (h : a ≤ b) : Nat.gcd a (b - a) = Nat.gcd a b := by
  rw [Nat.gcd_comm, Nat.gcd_sub_self_left h, Nat.gcd_comm]
theorem isOdd_0 {v : Nat} : (nI (v % 2) = (0 : Int32)) ↔ v % 2 = 0 := nI_zero (by omega)
/-- the twos that were taken out are put back -/
theorem gcd_336 {y n k w g : Nat} {R : Nat → Int} {T : Nat → Nat} {t : Int32} {A C X Z : Option Nat} (hk : k < 8) (hw : w ≤ 4096) (hg : bl (g * 2 ^ w) ≤ 4096) (hg0 : g ≠ 0) : ∀ (e i f : Nat) (h : hp_H), w - i = e → i ≤ w → e < f → m3 h y R T n t A (some (g * 2 ^ i)) C X (some (g * 2 ^ i)) Z →
    ∃ h', bX6_gcd_336 y (nI k) (nI w) f (nI i) h = some ((sKeep R k ((g * 2 ^ w : Nat) : Int)).1, h') ∧ ms h' y (sKeep R k ((g * 2 ^ w : Nat) : Int)).2 T n t
  | 0, i, f + 1, h, he, hi, hf, S => by
    rw [bX6_gcd_336]
    rw [show i = w by omega] at S ⊢
    have hpos : 0 < g * 2 ^ w := Nat.mul_pos (by omega) (Nat.two_pow_pos w)
    have c1 : cmpZ ((g * 2 ^ w : Nat) : Int) 0 = 1 := by
      unfold cmpZ
      rw [if_neg (Int.not_lt.mpr (Int.natCast_nonneg _)), if_neg (fun q => by have := Int.natCast_eq_zero.mp q; omega)]
    obtain ⟨h7, p1, S7⟩ := put_eq (z := ((g * 2 ^ w : Nat) : Int)) (s := 1) S hk (j := 1) (by decide) (m3_vY S) (Int.natAbs_natCast _) (fun _ => c1.symm)
    rw [if_pos ((nI_leI (by omega) (by omega)).mpr (Nat.le_refl _)), m3_r6 S, Option.bind_some, m3_i9 S, Option.bind_some, p1, Option.bind_some]
    exact ⟨h7, rfl, m3_any S7⟩
  | e + 1, i, f + 1, h, he, hi, hf, S => by
    rw [bX6_gcd_336]
    have hle : bl (g * 2 ^ i * 2) ≤ 4097 := by
      have h1 := bl_2 (g * 2 ^ i)
      have h2 : g * 2 ^ i ≤ g * 2 ^ w := Nat.mul_le_mul_left g (Nat.pow_le_pow_right (by decide) hi)
      have h3 := bl_mono h2
      omega
    obtain ⟨h15, p1, V15, F15⟩ := twice_eq (m3_vY S) (nL_7 (by omega))
    have S15 := m3_wY S F15 V15
    obtain ⟨h18, p2, S18, -⟩ := m3_pB S15 (g * 2 ^ i * 2)
    rw [if_neg (fun q => by have := (nI_leI (by omega) (by omega)).mp q; omega), m3_r6 S, Option.bind_some, m3_i9 S, Option.bind_some, p1, Option.bind_some]
    simp only []
    rw [p2, Option.bind_some, Option.bind_some, ni1, nI_add]
    rw [Nat.mul_assoc, ← Nat.pow_succ] at S18
    exact gcd_336 hk hw hg hg0 e (i + 1) f h18 (by omega) (by omega) (by omega) S18
/-- y is halved until it is odd, then the smaller is taken from the greater -/
theorem gcd_227 {y n k : Nat} {R : Nat → Int} {T : Nat → Nat} {t x4 : Int32} {C Z : Option Nat} {k188 : hp_H → Option (Int32 × hp_H)} {a : Nat} (ha : a % 2 = 1) : ∀ (e f b : Nat) (h : hp_H), bl b = e → e < f → b ≠ 0 → m3 h y R T n t (some a) (some b) C (some a) (some b) Z →
    ∃ h' a' b', bX6_gcd_227 k188 y (nI k) x4 f h = k188 h' ∧ m3 h' y R T n t (some a') (some b') C (some a') (some b') Z ∧ Nat.gcd a' b' = Nat.gcd a b ∧ b' ≠ 0 ∧ bl a' ≤ bl a ∧ bl b' ≤ bl b ∧ a' + b' < a + b ∧ b' % 2 + a' % 2 ≤ 1 ∧ (a' % 2 = 1 ∨ b' % 2 = 1)
  | e, f + 1, b, h, he, hf, hb0, S => by
    rw [bX6_gcd_227]
    rw [m3_r6 S, Option.bind_some, m3_i9 S, Option.bind_some, isOdd_eq (m3_vY S), Option.bind_some]
    by_cases ho : b % 2 = 0
    · obtain ⟨h52, p1, V52, F52⟩ := half_eq (m3_vY S)
      have S52 := m3_wY S F52 V52
      obtain ⟨h55, p2, S55, -⟩ := m3_pB S52 (b / 2)
      have hp := bl_pos hb0
      rw [if_pos (isOdd_0.mpr ho), Option.bind_some, Option.bind_some, p1, Option.bind_some]
      simp only []
      rw [p2, Option.bind_some]
      obtain ⟨h', a', b', q1, q2, q3, q4, q5, q6, q7, q8, q9⟩ := gcd_227 (k188 := k188) (x4 := x4) (k := k) ha (e - 1) f (b / 2) h55 (by rw [bl_half]; omega) (by omega) (by omega) S55
      rw [gcd_half_r ha ho] at q3
      have := bl_half b
      exact ⟨h', a', b', q1, q2, q3, q4, q5, by omega, by omega, q8, q9⟩
    · have hb1 : b % 2 = 1 := by omega
      rw [if_neg (fun q => ho (isOdd_0.mp q)), m3_r5 S, Option.bind_some, m3_i8 S, Option.bind_some, Option.bind_some, Option.bind_some, cmp_eq (m3_vX S) (m3_vY S), Option.bind_some]
      by_cases hlt : a < b
      · obtain ⟨h28, p1, V28, F28⟩ := taken_eq (by omega) (Nat.le_of_lt hlt) (m3_vY S) (m3_vX S)
        have S28 := m3_wY S F28 V28
        obtain ⟨h31, p2, S31, -⟩ := m3_pB S28 (b - a)
        rw [if_pos ((cmpI_neg _ _).mpr hlt), Option.bind_some, Option.bind_some, Option.bind_some, Option.bind_some, p1, Option.bind_some]
        simp only []
        rw [p2, Option.bind_some]
        exact ⟨h31, a, b - a, rfl, S31, gcd_sub_r (Nat.le_of_lt hlt), by omega, Nat.le_refl _, bl_mono (Nat.sub_le _ _), by omega, by omega, Or.inl ha⟩
      · have hge : b ≤ a := by omega
        obtain ⟨h42, p1, V42, F42⟩ := taken_eq (by omega) hge (m3_vX S) (m3_vY S)
        have S42 := m3_wX S F42 V42
        obtain ⟨h45, p2, S45, -⟩ := m3_pA S42 (a - b)
        rw [if_neg (fun q => hlt ((cmpI_neg _ _).mp q)), Option.bind_some, Option.bind_some, Option.bind_some, Option.bind_some, p1, Option.bind_some]
        simp only []
        rw [p2, Option.bind_some]
        exact ⟨h45, a - b, b, rfl, S45, gcd_sub_l hge, hb0, bl_mono (Nat.sub_le _ _), Nat.le_refl _, by omega, by omega, Or.inr hb1⟩
/-- x is halved until it is odd -/
theorem gcd_195 {y n k : Nat} {R : Nat → Int} {T : Nat → Nat} {t x4 : Int32} {C Z : Option Nat} {k188 : hp_H → Option (Int32 × hp_H)} : ∀ (e f a b : Nat) (h : hp_H), bl a = e → e < f → a ≠ 0 → b ≠ 0 → bl b < 1000000 → (a % 2 = 1 ∨ b % 2 = 1) → m3 h y R T n t (some a) (some b) C (some a) (some b) Z →
    ∃ h' a' b', bX6_gcd_195 k188 y (nI k) x4 f h = k188 h' ∧ m3 h' y R T n t (some a') (some b') C (some a') (some b') Z ∧ Nat.gcd a' b' = Nat.gcd a b ∧ b' ≠ 0 ∧ bl a' ≤ bl a ∧ bl b' ≤ bl b ∧ a' + b' < a + b ∧ (a' % 2 = 1 ∨ b' % 2 = 1)
  | e, f + 1, a, b, h, he, hf, ha0, hb0, hb9, ho, S => by
    rw [bX6_gcd_195]
    rw [m3_r5 S, Option.bind_some, m3_i8 S, Option.bind_some, isOdd_eq (m3_vX S), Option.bind_some]
    by_cases ha : a % 2 = 0
    · obtain ⟨h13, p1, V13, F13⟩ := half_eq (m3_vX S)
      have S13 := m3_wX S F13 V13
      obtain ⟨h16, p2, S16, -⟩ := m3_pA S13 (a / 2)
      have hp := bl_pos ha0
      have hb1 : b % 2 = 1 := ho.resolve_left (by omega)
      rw [if_pos (isOdd_0.mpr ha), Option.bind_some, Option.bind_some, p1, Option.bind_some]
      simp only []
      rw [p2, Option.bind_some]
      obtain ⟨h', a', b', q1, q2, q3, q4, q5, q6, q7, q8⟩ := gcd_195 (k188 := k188) (x4 := x4) (k := k) (e - 1) f (a / 2) b h16 (by rw [bl_half]; omega) (by omega) (by omega) hb0 hb9 (Or.inr hb1) S16
      rw [gcd_half_l ha hb1] at q3
      have := bl_half a
      exact ⟨h', a', b', q1, q2, q3, q4, by omega, q6, by omega, q8⟩
    · rw [if_neg (fun q => ha (isOdd_0.mp q))]
      obtain ⟨h', a', b', q1, q2, q3, q4, q5, q6, q7, -, q8⟩ := gcd_227 (k188 := k188) (x4 := x4) (k := k) (show a % 2 = 1 by omega) (bl b) hp_n b h rfl (show bl b < 1000000 from hb9) hb0 S
      exact ⟨h', a', b', q1, q2, q3, q4, q5, q6, q7, q8⟩
