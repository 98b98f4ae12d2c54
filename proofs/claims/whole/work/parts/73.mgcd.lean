/-! the reference: gcd, in Stein's way -/
theorem gcd_half_l {a b : Nat} (ha : a % 2 = 0) (hb : b % 2 = 1) : Nat.gcd (a / 2) b = Nat.gcd a b := by
  obtain ⟨c, rfl⟩ : ∃ c, a = 2 * c := ⟨a / 2, by omega⟩
  rw [Nat.mul_div_cancel_left _ (by decide)]
  have hcop : Nat.Coprime 2 b := by
    rw [Nat.Coprime, Nat.gcd_rec, hb]; rfl
  exact (Nat.Coprime.gcd_mul_left_cancel c hcop).symm
theorem gcd_half_r {a b : Nat} (ha : a % 2 = 1) (hb : b % 2 = 0) : Nat.gcd a (b / 2) = Nat.gcd a b := by
  rw [Nat.gcd_comm, gcd_half_l hb ha, Nat.gcd_comm]
theorem gcd_sub_l {a b : Nat} (h : b ≤ a) : Nat.gcd (a - b) b = Nat.gcd a b := Nat.gcd_sub_self_left h
theorem gcd_sub_r {a b : Nat} (h : a ≤ b) : Nat.gcd a (b - a) = Nat.gcd a b := by
  rw [Nat.gcd_comm, Nat.gcd_sub_self_left h, Nat.gcd_comm]
theorem isOdd_0 {v : Nat} : (nI (v % 2) = (0 : Int32)) ↔ v % 2 = 0 := nI_zero (by omega)
/-- the twos that were taken out are put back -/
theorem gcd_336 {y n k w g : Nat} {R : Nat → Int} {T : Nat → Nat} {t : Int32} {A C X Z : Option Nat} (hk : k < 8) (hw : w ≤ 4096) (hg : bl (g * 2 ^ w) ≤ 4096) (hg0 : g ≠ 0) : ∀ (e i f : Nat) (h : hp_H), w - i = e → i ≤ w → e < f → m3 h y R T n t A (some (g * 2 ^ i)) C X (some (g * 2 ^ i)) Z →
    ∃ h', bX6_gcd_336 y (nI k) (nI w) f (nI i) h = some ((sKeep R k ((g * 2 ^ w : Nat) : Int)).1, h') ∧ ms h' y (sKeep R k ((g * 2 ^ w : Nat) : Int)).2 T n t
  | 0, i, f + 1, h, he, hi, hf, S => by
    rw [bX6_gcd_336]
    rw [show i = w by omega] at S ⊢
    have hpos : 0 < g * 2 ^ w := Nat.mul_pos (by omega) (Nat.two_pow_pos w)
    have c1 : cmpZ ((g * 2 ^ w : Nat) : Int) 0 = 1 := by
      unfold cmpZ
      rw [if_neg (Int.not_lt.mpr (Int.natCast_nonneg _)), if_neg (fun q => by have := Int.natCast_eq_zero.mp q; omega)]
    obtain ⟨h7, p1, S7⟩ := put_eq (z := ((g * 2 ^ w : Nat) : Int)) (s := 1) S hk (j := 1) (by decide) (m3_vY S) (Int.natAbs_natCast _) (fun _ => c1.symm)
    rw [if_pos ((nI_leI (by omega) (by omega)).mpr (Nat.le_refl _)), m3_r6 S, Option.bind_some, m3_i9 S, Option.bind_some, p1, Option.bind_some]
    exact ⟨h7, rfl, m3_any S7⟩
  | e + 1, i, f + 1, h, he, hi, hf, S => by
    rw [bX6_gcd_336]
    have hle : bl (g * 2 ^ i * 2) ≤ 4097 := by
      have h1 := bl_2 (g * 2 ^ i)
      have h2 : g * 2 ^ i ≤ g * 2 ^ w := Nat.mul_le_mul_left g (Nat.pow_le_pow_right (by decide) hi)
      have h3 := bl_mono h2
      omega
    obtain ⟨h15, p1, V15, F15⟩ := twice_eq (m3_vY S) (nL_7 (by omega))
    have S15 := m3_wY S F15 V15
    obtain ⟨h18, p2, S18, -⟩ := m3_pB S15 (g * 2 ^ i * 2)
    rw [if_neg (fun q => by have := (nI_leI (by omega) (by omega)).mp q; omega), m3_r6 S, Option.bind_some, m3_i9 S, Option.bind_some, p1, Option.bind_some]
    simp only []
    rw [p2, Option.bind_some, Option.bind_some, ni1, nI_add]
    rw [Nat.mul_assoc, ← Nat.pow_succ] at S18
    exact gcd_336 hk hw hg hg0 e (i + 1) f h18 (by omega) (by omega) (by omega) S18
/-- y is halved until it is odd, then the smaller is taken from the greater -/
theorem gcd_227 {y n k : Nat} {R : Nat → Int} {T : Nat → Nat} {t x4 : Int32} {C Z : Option Nat} {k188 : hp_H → Option (Int32 × hp_H)} {a : Nat} (ha : a % 2 = 1) : ∀ (e f b : Nat) (h : hp_H), bl b = e → e < f → b ≠ 0 → m3 h y R T n t (some a) (some b) C (some a) (some b) Z →
    ∃ h' a' b', bX6_gcd_227 k188 y (nI k) x4 f h = k188 h' ∧ m3 h' y R T n t (some a') (some b') C (some a') (some b') Z ∧ Nat.gcd a' b' = Nat.gcd a b ∧ b' ≠ 0 ∧ bl a' ≤ bl a ∧ bl b' ≤ bl b ∧ bl a' + bl b' + (1 - b % 2) ≤ bl a + bl b ∧ b' % 2 + a' % 2 ≤ 1 ∧ (a' % 2 = 1 ∨ b' % 2 = 1)
  | e, f + 1, b, h, he, hf, hb0, S => by
    rw [bX6_gcd_227]
    rw [m3_r6 S, Option.bind_some, m3_i9 S, Option.bind_some, isOdd_eq (m3_vY S), Option.bind_some]
    by_cases ho : b % 2 = 0
    · obtain ⟨h52, p1, V52, F52⟩ := half_eq (m3_vY S)
      have S52 := m3_wY S F52 V52
      obtain ⟨h55, p2, S55, -⟩ := m3_pB S52 (b / 2)
      have hp := bl_pos hb0
      rw [if_pos (isOdd_0.mpr ho), Option.bind_some, Option.bind_some, p1, Option.bind_some]
      simp only []
      rw [p2, Option.bind_some]
      obtain ⟨h', a', b', q1, q2, q3, q4, q5, q6, q7, q8, q9⟩ := gcd_227 (k188 := k188) (x4 := x4) (k := k) ha (e - 1) f (b / 2) h55 (by rw [bl_half]; omega) (by omega) (by omega) S55
      rw [gcd_half_r ha ho] at q3
      have := bl_half b
      exact ⟨h', a', b', q1, q2, q3, q4, q5, by omega, by omega, q8, q9⟩
    · have hb1 : b % 2 = 1 := by omega
      rw [if_neg (fun q => ho (isOdd_0.mp q)), m3_r5 S, Option.bind_some, m3_i8 S, Option.bind_some, Option.bind_some, Option.bind_some, cmp_eq (m3_vX S) (m3_vY S), Option.bind_some]
      by_cases hlt : a < b
      · obtain ⟨h28, p1, V28, F28⟩ := taken_eq (by omega) (Nat.le_of_lt hlt) (m3_vY S) (m3_vX S)
        have S28 := m3_wY S F28 V28
        obtain ⟨h31, p2, S31, -⟩ := m3_pB S28 (b - a)
        rw [if_pos ((cmpI_neg _ _).mpr hlt), Option.bind_some, Option.bind_some, Option.bind_some, Option.bind_some, p1, Option.bind_some]
        simp only []
        rw [p2, Option.bind_some]
        have hm := bl_mono (Nat.sub_le b a)
        exact ⟨h31, a, b - a, rfl, S31, gcd_sub_r (Nat.le_of_lt hlt), by omega, Nat.le_refl _, hm, by omega, by omega, Or.inl ha⟩
      · have hge : b ≤ a := by omega
        obtain ⟨h42, p1, V42, F42⟩ := taken_eq (by omega) hge (m3_vX S) (m3_vY S)
        have S42 := m3_wX S F42 V42
        obtain ⟨h45, p2, S45, -⟩ := m3_pA S42 (a - b)
        rw [if_neg (fun q => hlt ((cmpI_neg _ _).mp q)), Option.bind_some, Option.bind_some, Option.bind_some, Option.bind_some, p1, Option.bind_some]
        simp only []
        rw [p2, Option.bind_some]
        have hm := bl_mono (Nat.sub_le a b)
        exact ⟨h45, a - b, b, rfl, S45, gcd_sub_l hge, hb0, hm, Nat.le_refl _, by omega, by omega, Or.inr hb1⟩
/-- x is halved until it is odd -/
theorem gcd_195 {y n k : Nat} {R : Nat → Int} {T : Nat → Nat} {t x4 : Int32} {C Z : Option Nat} {k188 : hp_H → Option (Int32 × hp_H)} : ∀ (e f a b : Nat) (h : hp_H), bl a = e → e < f → a ≠ 0 → b ≠ 0 → bl b < 1000000 → (a % 2 = 1 ∨ b % 2 = 1) → m3 h y R T n t (some a) (some b) C (some a) (some b) Z →
    ∃ h' a' b', bX6_gcd_195 k188 y (nI k) x4 f h = k188 h' ∧ m3 h' y R T n t (some a') (some b') C (some a') (some b') Z ∧ Nat.gcd a' b' = Nat.gcd a b ∧ b' ≠ 0 ∧ bl a' ≤ bl a ∧ bl b' ≤ bl b ∧ bl a' + bl b' + (2 - (a % 2 + b % 2)) ≤ bl a + bl b ∧ b' % 2 + a' % 2 ≤ 1 ∧ (a' % 2 = 1 ∨ b' % 2 = 1)
  | e, f + 1, a, b, h, he, hf, ha0, hb0, hb9, ho, S => by
    rw [bX6_gcd_195]
    rw [m3_r5 S, Option.bind_some, m3_i8 S, Option.bind_some, isOdd_eq (m3_vX S), Option.bind_some]
    by_cases ha : a % 2 = 0
    · obtain ⟨h13, p1, V13, F13⟩ := half_eq (m3_vX S)
      have S13 := m3_wX S F13 V13
      obtain ⟨h16, p2, S16, -⟩ := m3_pA S13 (a / 2)
      have hp := bl_pos ha0
      have hb1 : b % 2 = 1 := ho.resolve_left (by omega)
      rw [if_pos (isOdd_0.mpr ha), Option.bind_some, Option.bind_some, p1, Option.bind_some]
      simp only []
      rw [p2, Option.bind_some]
      obtain ⟨h', a', b', q1, q2, q3, q4, q5, q6, q7, q8, q9⟩ := gcd_195 (k188 := k188) (x4 := x4) (k := k) (e - 1) f (a / 2) b h16 (by rw [bl_half]; omega) (by omega) (by omega) hb0 hb9 (Or.inr hb1) S16
      rw [gcd_half_l ha hb1] at q3
      have := bl_half a
      exact ⟨h', a', b', q1, q2, q3, q4, by omega, q6, by omega, q8, q9⟩
    · rw [if_neg (fun q => ha (isOdd_0.mp q))]
      obtain ⟨h', a', b', q1, q2, q3, q4, q5, q6, q7, q8, q9⟩ := gcd_227 (k188 := k188) (x4 := x4) (k := k) (show a % 2 = 1 by omega) (bl b) hp_n b h rfl (show bl b < 1000000 from hb9) hb0 S
      exact ⟨h', a', b', q1, q2, q3, q4, q5, q6, by omega, q8, q9⟩
theorem gcd_188 {y n k w N : Nat} {R : Nat → Int} {T : Nat → Nat} {t : Int32} {C Z : Option Nat} (hk : k < 8) (hw : w ≤ 4096) (hN : bl N ≤ 4096) : ∀ (e f a b : Nat) (h : hp_H), bl a + bl b + (a % 2 + b % 2) ≤ e → e < f → bl a ≤ 4096 → bl b ≤ 4096 → b ≠ 0 → (a % 2 = 1 ∨ b % 2 = 1) → N = Nat.gcd a b * 2 ^ w → m3 h y R T n t (some a) (some b) C (some a) (some b) Z →
    ∃ h', bX6_gcd_188 y (nI k) (nI w) f h = some ((sKeep R k (N : Int)).1, h') ∧ ms h' y (sKeep R k (N : Int)).2 T n t
  | e, f + 1, a, b, h, he, hf, hba, hbb, hb0, ho, hg, S => by
    have h7 := (m3_vX S).1
    rw [bX6_gcd_188]
    rw [m3_i8 S, Option.bind_some]
    by_cases ha : a = 0
    · rw [if_pos ((nLz_le h7).mpr ha)]
      rw [ha, Nat.gcd_zero_left] at hg
      have e0 : b * 2 ^ 0 = b := by rw [Nat.pow_zero, Nat.mul_one]
      rw [hg]
      rw [hg] at hN
      rw [← e0] at S
      exact gcd_336 hk hw hN hb0 w 0 hp_n h (by omega) (by omega) (show w < 1000000 by omega) S
    · rw [if_neg (fun q => ha ((nLz_le h7).mp q))]
      obtain ⟨h', a', b', q1, q2, q3, q4, q5, q6, q7, q8, q9⟩ := gcd_195 (k188 := bX6_gcd_188 y (nI k) (nI w) f) (x4 := nI w) (k := k) (bl a) hp_n a b h rfl (show bl a < 1000000 by omega) ha hb0 (by omega) ho S
      rw [q1]
      exact gcd_188 hk hw hN (e - 1) f a' b' h' (by omega) (by omega) (by omega) (by omega) q4 q9 (by rw [q3]; exact hg) q2
theorem gcd_2 (a b : Nat) (ha : a % 2 = 0) (hb : b % 2 = 0) : Nat.gcd a b = Nat.gcd (a / 2) (b / 2) * 2 := by
  obtain ⟨c, rfl⟩ : ∃ c, a = 2 * c := ⟨a / 2, by omega⟩
  obtain ⟨d, rfl⟩ : ∃ d, b = 2 * d := ⟨b / 2, by omega⟩
  rw [Nat.gcd_mul_left, Nat.mul_div_cancel_left _ (by decide), Nat.mul_div_cancel_left _ (by decide), Nat.mul_comm]
theorem gcd_124 {y n k N : Nat} {R : Nat → Int} {T : Nat → Nat} {t : Int32} {C Z : Option Nat} (hk : k < 8) (hN : bl N ≤ 4096) : ∀ (e f w a b : Nat) (h : hp_H), bl a = e → e < f → w + bl a ≤ 4096 → bl b ≤ 4096 → a ≠ 0 → b ≠ 0 → N = Nat.gcd a b * 2 ^ w → m3 h y R T n t (some a) (some b) C (some a) (some b) Z →
    ∃ h', bX6_gcd_124 y (nI k) f (nI w) h = some ((sKeep R k (N : Int)).1, h') ∧ ms h' y (sKeep R k (N : Int)).2 T n t
  | e, f + 1, w, a, b, h, he, hf, hwa, hbb, ha0, hb0, hg, S => by
    rw [bX6_gcd_124]
    have fin : (a % 2 = 1 ∨ b % 2 = 1) → ∃ h', bX6_gcd_188 y (nI k) (nI w) hp_n h = some ((sKeep R k (N : Int)).1, h') ∧ ms h' y (sKeep R k (N : Int)).2 T n t := fun ho =>
      gcd_188 hk (by omega) hN (bl a + bl b + (a % 2 + b % 2)) hp_n a b h (Nat.le_refl _) (show bl a + bl b + (a % 2 + b % 2) < 1000000 by omega) (by omega) hbb hb0 ho hg S
    rw [m3_r5 S, Option.bind_some, m3_i8 S, Option.bind_some, isOdd_eq (m3_vX S), Option.bind_some]
    by_cases ha : a % 2 = 0
    · rw [if_pos (isOdd_0.mpr ha), m3_r6 S, Option.bind_some, m3_i9 S, Option.bind_some, isOdd_eq (m3_vY S), Option.bind_some]
      by_cases hb : b % 2 = 0
      · obtain ⟨h20, p1, V20, F20⟩ := half_eq (m3_vX S)
        have S20 := m3_wX S F20 V20
        obtain ⟨h23, p2, S23, -⟩ := m3_pA S20 (a / 2)
        obtain ⟨h30, p3, V30, F30⟩ := half_eq (m3_vY S23)
        have S30 := m3_wY S23 F30 V30
        obtain ⟨h33, p4, S33, -⟩ := m3_pB S30 (b / 2)
        have hp := bl_pos ha0
        have e1 := bl_half a
        have e2 := bl_half b
        rw [if_pos (isOdd_0.mpr hb), Option.bind_some, Option.bind_some, p1, Option.bind_some]
        simp only []
        rw [p2, Option.bind_some, m3_r6 S23, Option.bind_some, m3_i9 S23, Option.bind_some, p3, Option.bind_some]
        simp only []
        rw [p4, Option.bind_some, Option.bind_some, ni1, nI_add]
        refine gcd_124 hk hN (e - 1) f (w + 1) (a / 2) (b / 2) h33 (by omega) (by omega) (by omega) (by omega) (by omega) (by omega) ?_ S33
        rw [hg, gcd_2 a b ha hb, Nat.pow_succ]
        grind
      · rw [if_neg (fun q => hb (isOdd_0.mp q))]
        exact fin (Or.inr (by omega))
    · rw [if_neg (fun q => ha (isOdd_0.mp q))]
      exact fin (Or.inl (by omega))
theorem cmp_nat (v : Nat) (hv : v ≠ 0) : (1 : Int32) = cmpZ (v : Int) 0 := by
  unfold cmpZ
  rw [if_neg (by omega), if_neg (by omega)]
theorem gcd_77 {y n k v : Nat} {R : Nat → Int} {T : Nat → Nat} {t : Int32} {B C Z : Option Nat} (hk : k < 8) : ∀ (e i f : Nat) (h : hp_H), nL v - i = e → i ≤ nL v → e < f → m3 h y R T n t (some v) B C (some v) none Z → pc h (y + 5 + 1) i v →
    ∃ h', bX6_gcd_77 y (nI k) f (nI i) h = some ((sKeep R k (v : Int)).1, h') ∧ ms h' y (sKeep R k (v : Int)).2 T n t
  | 0, i, f + 1, h, he, hi, hf, S, P => by
    have hb := P.1
    rw [bX6_gcd_77]
    rw [show i = nL v by omega] at P
    have SY := m3_wY S fr.rf (pc_mv P)
    obtain ⟨h9, p1, S9⟩ := put_eq (z := (v : Int)) (s := 1) SY hk (j := 1) (by decide) (m3_vY SY) (Int.natAbs_natCast _) (cmp_nat v)
    rw [m3_i8 S, Option.bind_some, if_pos ((nI_leI (by omega) (by omega)).mpr (by omega)), m3_r6 S, Option.bind_some, Option.bind_some, p1, Option.bind_some]
    exact ⟨h9, rfl, m3_any S9⟩
  | e + 1, i, f + 1, h, he, hi, hf, S, P => by
    have hb := P.1
    rw [bX6_gcd_77]
    obtain ⟨h18, p1, P18, F18, G18⟩ := pc_wr P (by omega)
    have S18 := m3_uY S F18 G18
    rw [m3_i8 S, Option.bind_some, if_neg (fun q => by have := (nI_leI (by omega) (by omega)).mp q; omega), m3_r6 S, Option.bind_some, m3_r5 S, Option.bind_some, mv_rd (m3_vX S) (by omega), Option.bind_some, p1, Option.bind_some, Option.bind_some, ni1, nI_add]
    exact gcd_77 hk e (i + 1) f h18 (by omega) (by omega) (by omega) S18 P18
theorem nLz_eq {v : Nat} (hv : nL v ≤ 700) : nI (nL v) = (0 : Int32) ↔ v = 0 := by
  rw [nI_zero (by omega), nL_z]
theorem mgcd_eq {h : hp_H} {y n : Nat} {R : Nat → Int} {T : Nat → Nat} {t : Int32} (S : ms h y R T n t) (a b c : Int32) : ∃ h', fX6_gcd y a b c h = some ((sGcd R a b c).1, h') ∧ ms h' y (sGcd R a b c).2 T n 0 := by
  unfold fX6_gcd sGcd
  obtain ⟨h1, p0, S1⟩ := ms_0 S
  rw [if_pos (m3_o S), p0, Option.bind_some]
  rcases rg6 a with ⟨e1, f1⟩ | ⟨k, hk, rfl, e1, f1⟩
  · rw [f1, Option.bind_some, if_pos rfl, e1]; exact ⟨h1, rfl, S1⟩
  rcases rg6 b with ⟨e2, f2⟩ | ⟨i, hi, rfl, e2, f2⟩
  · rw [f1, Option.bind_some, if_neg (by decide), f2, Option.bind_some, if_pos rfl, e1, e2]; exact ⟨h1, rfl, S1⟩
  rcases rg6 c with ⟨e3, f3⟩ | ⟨j, hj, rfl, e3, f3⟩
  · rw [f1, Option.bind_some, if_neg (by decide), f2, Option.bind_some, if_neg (by decide), f3, Option.bind_some, if_pos rfl, e1, e2, e3]; exact ⟨h1, rfl, S1⟩
  rw [f1, Option.bind_some, if_neg (by decide), f2, Option.bind_some, if_neg (by decide), f3, Option.bind_some, if_neg (by decide), e1, e2, e3]
  simp only []
  obtain ⟨h13, p1, S13⟩ := toX_eq S1 hi
  obtain ⟨h15, p2, S15⟩ := toY_eq S13 hj
  have ri := m3_reg S15 hi
  have rj := m3_reg S15 hj
  rw [p1, Option.bind_some, p2, Option.bind_some, m3_i8 S15, Option.bind_some]
  have g52 : (R i).natAbs = 0 ∨ (R j).natAbs = 0 → ∃ h', bX6_gcd_52 y (nI k) h15 = some ((sKeep R k ((Nat.gcd (R i).natAbs (R j).natAbs : Nat) : Int)).1, h') ∧ ms h' y (sKeep R k ((Nat.gcd (R i).natAbs (R j).natAbs : Nat) : Int)).2 T n 0 := by
    intro hz
    unfold bX6_gcd_52
    rw [m3_i8 S15, Option.bind_some]
    by_cases hi0 : (R i).natAbs = 0
    · obtain ⟨h9, p3, S9⟩ := put_eq (z := ((R j).natAbs : Int)) (s := 1) S15 hk (j := 1) (by decide) (m3_vY S15) (Int.natAbs_natCast _) (cmp_nat _)
      rw [if_pos ((nLz_eq (by omega)).mpr hi0), m3_r6 S15, Option.bind_some, m3_i9 S15, Option.bind_some, p3, Option.bind_some, hi0, Nat.gcd_zero_left]
      exact ⟨h9, rfl, m3_any S9⟩
    · rw [if_neg (fun q => hi0 ((nLz_eq (by omega)).mp q)), hz.resolve_left hi0, Nat.gcd_zero_right]
      exact gcd_77 hk (nL (R i).natAbs) 0 hp_n h15 (by omega) (by omega) (show nL (R i).natAbs < 1000000 by omega) (m3_uY S15 fr.rf (m3_gY S15)) (pc_0 (by omega) (m3_gY S15))
  by_cases hi0 : (R i).natAbs = 0
  · rw [if_pos ((nLz_eq (by omega)).mpr hi0)]; exact g52 (Or.inl hi0)
  rw [if_neg (fun q => hi0 ((nLz_eq (by omega)).mp q)), m3_i9 S15, Option.bind_some]
  by_cases hj0 : (R j).natAbs = 0
  · rw [if_pos ((nLz_eq (by omega)).mpr hj0)]; exact g52 (Or.inr hj0)
  rw [if_neg (fun q => hj0 ((nLz_eq (by omega)).mp q))]
  have hgl : Nat.gcd (R i).natAbs (R j).natAbs ≤ (R i).natAbs := Nat.gcd_le_left _ (by omega)
  exact gcd_124 hk (Nat.le_trans (bl_mono hgl) ri.2.2.1) (bl (R i).natAbs) hp_n 0 _ _ h15 rfl (show bl (R i).natAbs < 1000000 by omega) (by omega) rj.2.2.1 hi0 hj0 (by rw [Nat.pow_zero, Nat.mul_one]) S15
