/-! the reference: shift, power -/
theorem sg_abs2 (x : Int) (v : Nat) (hx : x = 0 → v = 0) (hv : v ≠ 0) : cmpZ x 0 = cmpZ (sg x v) 0 := (sg_cmp hv (fun e => hv (hx e))).symm
theorem shift_121 {y n k i v : Nat} {R : Nat → Int} {T : Nat → Nat} {t : Int32} {B C Z : Option Nat} (hk : k < 8) (hi8 : i < 8) (hv : R i = 0 → v = 0) : ∀ (e j f : Nat) (h : hp_H), nL v - j = e → j ≤ nL v → e < f → m3 h y R T n t (some v) B C (some v) none Z → pc h (y + 5 + 1) j v →
    ∃ h', bX6_shift_121 y (nI k) (nI i) f (nI j) h = some ((sKeep R k (sg (R i) v)).1, h') ∧ ms h' y (sKeep R k (sg (R i) v)).2 T n t
  | 0, j, f + 1, h, he, hi, hf, S, P => by
    have hb := P.1
    rw [bX6_shift_121]
    rw [show j = nL v by omega] at P
    have SY := m3_wY S fr.rf (pc_mv P)
    obtain ⟨h13, p1, S13⟩ := put_eq (z := sg (R i) v) (s := cmpZ (R i) 0) SY hk (j := 1) (by decide) (m3_vY SY) (sg_abs _ _) (sg_abs2 _ _ hv)
    rw [m3_i8 S, Option.bind_some, if_pos ((nI_leI (by omega) (by omega)).mpr (by omega)), m3_r6 S, Option.bind_some, Option.bind_some, m3_r2 S, Option.bind_some, (m3_reg S hi8).2.1, Option.bind_some, p1, Option.bind_some]
    exact ⟨h13, rfl, m3_any S13⟩
  | e + 1, j, f + 1, h, he, hi, hf, S, P => by
    have hb := P.1
    rw [bX6_shift_121]
    obtain ⟨h22, p1, P22, F22, G22⟩ := pc_wr P (by omega)
    have S22 := m3_uY S F22 G22
    rw [m3_i8 S, Option.bind_some, if_neg (fun q => by have := (nI_leI (by omega) (by omega)).mp q; omega), m3_r6 S, Option.bind_some, m3_r5 S, Option.bind_some, mv_rd (m3_vX S) (by omega), Option.bind_some, p1, Option.bind_some, Option.bind_some, ni1, nI_add]
    exact shift_121 hk hi8 hv e (j + 1) f h22 (by omega) (by omega) (by omega) S22 P22
theorem shift_90 {y n k i v m : Nat} {R : Nat → Int} {T : Nat → Nat} {t x3 : Int32} {B C Y Z : Option Nat} (hk : k < 8) (hi8 : i < 8) (hv : R i = 0 → v = 0) (hm : m ≤ 4096) (hx : -x3 = nI m) : ∀ (e j f : Nat) (h : hp_H), m - j = e → j ≤ m → e < f → m3 h y R T n t (some (v / 2 ^ j)) B C (some (v / 2 ^ j)) Y Z →
    ∃ h', bX6_shift_90 y (nI k) (nI i) x3 f (nI j) h = some ((sKeep R k (sg (R i) (v / 2 ^ m))).1, h') ∧ ms h' y (sKeep R k (sg (R i) (v / 2 ^ m))).2 T n t
  | 0, j, f + 1, h, he, hi, hf, S => by
    rw [bX6_shift_90]
    rw [show j = m by omega] at S ⊢
    have h7 := (m3_vX S).1
    rw [hx, if_pos ((nI_leI (by omega) (by omega)).mpr (Nat.le_refl _))]
    exact shift_121 hk hi8 (fun e => by rw [hv e, Nat.zero_div]) (nL (v / 2 ^ m)) 0 hp_n h (by omega) (by omega) (show nL (v / 2 ^ m) < 1000000 by omega) (m3_uY S fr.rf (m3_gY S)) (pc_0 h7 (m3_gY S))
  | e + 1, j, f + 1, h, he, hi, hf, S => by
    rw [bX6_shift_90]
    obtain ⟨h7, p1, V7, F7⟩ := half_eq (m3_vX S)
    have S7 := m3_wX S F7 V7
    obtain ⟨h10, p2, S10, -⟩ := m3_pA S7 (v / 2 ^ j / 2)
    rw [hx, if_neg (fun q => by have := (nI_leI (by omega) (by omega)).mp q; omega), m3_r5 S, Option.bind_some, m3_i8 S, Option.bind_some, p1, Option.bind_some]
    simp only []
    rw [p2, Option.bind_some, Option.bind_some, ni1, nI_add]
    rw [div_pow2] at S10
    exact shift_90 hk hi8 hv hm hx e (j + 1) f h10 (by omega) (by omega) (by omega) S10
theorem shift_43 {y n k i m : Nat} {R : Nat → Int} {T : Nat → Nat} {t x3 : Int32} {B C Y Z : Option Nat} (hk : k < 8) (hi8 : i < 8) (hm : m ≤ 4096) (hx : x3 = nI m) : ∀ (e j f : Nat) (h : hp_H), m - j = e → j ≤ m → e < f → bl ((R i).natAbs * 2 ^ j) ≤ 4096 → m3 h y R T n t (some ((R i).natAbs * 2 ^ j)) B C (some ((R i).natAbs * 2 ^ j)) Y Z →
    ∃ h', bX6_shift_43 y (nI k) (nI i) x3 f (nI j) h = some ((sKeep R k (sg (R i) ((R i).natAbs * 2 ^ m))).1, h') ∧ ms h' y (sKeep R k (sg (R i) ((R i).natAbs * 2 ^ m))).2 T n t
  | 0, j, f + 1, h, he, hi, hf, hb, S => by
    rw [bX6_shift_43]
    rw [show j = m by omega] at S ⊢
    have h7 := (m3_vX S).1
    rw [hx, if_pos ((nI_leI (by omega) (by omega)).mpr (Nat.le_refl _))]
    have z90 : ∀ f, bX6_shift_90 y (nI k) (nI i) (nI m) (f + 1) (0 : Int32) h = bX6_shift_121 y (nI k) (nI i) hp_n (0 : Int32) h := fun f => by
      rw [bX6_shift_90]
      have : -nI m ≤ (0 : Int32) := by
        rw [nI_iI, iI_neg, show (0 : Int32) = iI 0 from rfl, iI_le (by omega) (by omega) (by omega) (by omega)]; omega
      rw [if_pos this]
    rw [show hp_n = 999999 + 1 from rfl, z90]
    exact shift_121 hk hi8 (fun e => by rw [e, Int.natAbs_zero, Nat.zero_mul]) (nL ((R i).natAbs * 2 ^ m)) 0 hp_n h (by omega) (by omega) (show nL ((R i).natAbs * 2 ^ m) < 1000000 by omega) (m3_uY S fr.rf (m3_gY S)) (pc_0 h7 (m3_gY S))
  | e + 1, j, f + 1, h, he, hi, hf, hb, S => by
    rw [bX6_shift_43]
    have b2 := bl_2 ((R i).natAbs * 2 ^ j)
    have ep : (R i).natAbs * 2 ^ j * 2 = (R i).natAbs * 2 ^ (j + 1) := by rw [Nat.pow_succ, Nat.mul_assoc]
    obtain ⟨h7, p1, V7, F7⟩ := twice_eq (m3_vX S) (nL_7 (by omega))
    have S7 := m3_wX S F7 V7
    obtain ⟨h10, p2, S10, -⟩ := m3_pA S7 ((R i).natAbs * 2 ^ j * 2)
    rw [hx, if_neg (fun q => by have := (nI_leI (by omega) (by omega)).mp q; omega), m3_r5 S, Option.bind_some, m3_i8 S, Option.bind_some, p1, Option.bind_some]
    simp only []
    rw [p2, Option.bind_some, m3_r5 S10, Option.bind_some, m3_i8 S10, Option.bind_some, within_eq S10 (m3_vX S10), Option.bind_some]
    rw [ep] at S10 ⊢
    by_cases hw : (R i).natAbs * 2 ^ (j + 1) < LIM
    · rw [if_pos hw, if_neg (by decide), Option.bind_some, ni1, nI_add, ← hx]
      exact shift_43 hk hi8 hm hx e (j + 1) f h10 (by omega) (by omega) (by omega) (LIM_bl.mpr hw) S10
    · rw [if_neg hw, if_pos rfl]
      have hbig : ¬ bl (sg (R i) ((R i).natAbs * 2 ^ m)).natAbs ≤ 4096 := by
        rw [sg_abs]
        intro q
        apply hw
        refine Nat.lt_of_le_of_lt ?_ (LIM_bl.mp q)
        exact Nat.mul_le_mul_left _ (Nat.pow_le_pow_right (by decide) (by omega))
      unfold sKeep
      rw [if_neg hbig]
      exact ⟨h10, rfl, m3_any S10⟩
theorem mshift_eq {h : hp_H} {y n : Nat} {R : Nat → Int} {T : Nat → Nat} {t : Int32} (S : ms h y R T n t) (a b m : Int32) : ∃ h', fX6_shift y a b m h = some ((sShift R a b m).1, h') ∧ ms h' y (sShift R a b m).2 T n 0 := by
  unfold fX6_shift sShift
  obtain ⟨h1, p0, S1⟩ := ms_0 S
  rw [if_pos (m3_o S), p0, Option.bind_some]
  rcases rg6 a with ⟨e1, f1⟩ | ⟨k, hk, rfl, e1, f1⟩
  · rw [f1, Option.bind_some, if_pos rfl, e1]; exact ⟨h1, rfl, S1⟩
  rcases rg6 b with ⟨e2, f2⟩ | ⟨i, hi, rfl, e2, f2⟩
  · rw [f1, Option.bind_some, if_neg (by decide), f2, Option.bind_some, if_pos rfl, e1, e2]; exact ⟨h1, rfl, S1⟩
  rw [f1, Option.bind_some, if_neg (by decide), f2, Option.bind_some, if_neg (by decide), e1, e2]
  simp only []
  obtain ⟨mz, hm⟩ : ∃ mz, mz = m.toInt := ⟨_, rfl⟩
  have em : m = iI mz := by rw [hm]; exact iI_of m
  have ri := m3_reg S1 hi
  have c1 : m < -4096 ↔ mz < -4096 := by rw [Int32.lt_iff_toInt_lt, ← hm]; exact Iff.rfl
  have c2 : m ≤ 4096 ↔ mz ≤ 4096 := by rw [Int32.le_iff_toInt_le, ← hm]; exact Iff.rfl
  have c3 : 4096 < m ↔ 4096 < mz := by rw [Int32.lt_iff_toInt_lt, ← hm]; exact Iff.rfl
  have c4 : 0 < m ↔ 0 < mz := by rw [Int32.lt_iff_toInt_lt, ← hm]; exact Iff.rfl
  by_cases g1 : m < -4096
  · rw [if_pos g1, if_pos (Or.inl g1)]; exact ⟨h1, rfl, S1⟩
  rw [if_neg g1]
  by_cases g2 : m ≤ 4096
  · have b1 : -4096 ≤ mz := by rw [c1] at g1; omega
    have b2 : mz ≤ 4096 := c2.mp g2
    obtain ⟨h12, p1, S12⟩ := toX_eq S1 hi
    rw [if_pos g2, if_neg (by rw [c3]; intro q; rcases q with q | q; exact g1 q; omega), p1, Option.bind_some, ← hm]
    by_cases g4 : 0 < m
    · have b3 := c4.mp g4
      obtain ⟨j, ej⟩ : ∃ j : Nat, mz = j := ⟨mz.toNat, by omega⟩
      have em2 : m = nI j := by rw [em, ej, nI_iI]
      rw [if_pos g4, ej, Int.toNat_natCast, em2]
      have e0 : (R i).natAbs * 2 ^ 0 = (R i).natAbs := by rw [Nat.pow_zero, Nat.mul_one]
      rw [← e0] at S12
      exact shift_43 hk hi (by omega) rfl j 0 hp_n h12 (by omega) (by omega) (show j < 1000000 by omega) (by rw [e0]; exact ri.2.2.1) S12
    · have b3 : mz ≤ 0 := by rw [c4] at g4; omega
      obtain ⟨j, ej⟩ : ∃ j : Nat, -mz = j := ⟨(-mz).toNat, by omega⟩
      have em2 : -m = nI j := by rw [em, iI_neg, ej, nI_iI]
      have z43 : ∀ f, bX6_shift_43 y (nI k) (nI i) m (f + 1) (0 : Int32) h12 = bX6_shift_90 y (nI k) (nI i) m hp_n (0 : Int32) h12 := fun f => by
        rw [bX6_shift_43]
        have : m ≤ (0 : Int32) := by rw [Int32.le_iff_toInt_le, ← hm]; exact b3
        rw [if_pos this]
      rw [if_neg g4, ej, Int.toNat_natCast, show hp_n = 999999 + 1 from rfl, z43]
      have e0 : (R i).natAbs / 2 ^ 0 = (R i).natAbs := by rw [Nat.pow_zero, Nat.div_one]
      rw [← e0] at S12
      exact shift_90 hk hi (fun e => by rw [e, Int.natAbs_zero]) (by omega) em2 j 0 hp_n h12 (by omega) (by omega) (show j < 1000000 by omega) S12
  · rw [if_neg g2, if_pos (Or.inr (by rw [c3]; rw [c2] at g2; omega))]; exact ⟨h1, rfl, S1⟩
