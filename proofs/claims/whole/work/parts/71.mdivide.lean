/-! the reference: split, divide -/
theorem cmpI_pos (a b : Nat) : (0 : Int32) < cmpI a b ↔ b < a := by
  unfold cmpI
  rcases Nat.lt_trichotomy a b with q | q | q
  · rw [if_pos q]; exact ⟨fun w => absurd w (by decide), fun w => by omega⟩
  · rw [if_neg (by omega), if_pos q]; exact ⟨fun w => absurd w (by decide), fun w => by omega⟩
  · rw [if_neg (by omega), if_neg (by omega)]; exact ⟨fun _ => q, fun _ => by decide⟩
theorem cmpI_neg (a b : Nat) : cmpI a b < (0 : Int32) ↔ a < b := by
  unfold cmpI
  rcases Nat.lt_trichotomy a b with q | q | q
  · rw [if_pos q]; exact ⟨fun _ => q, fun _ => by decide⟩
  · rw [if_neg (by omega), if_pos q]; exact ⟨fun w => absurd w (by decide), fun w => by omega⟩
  · rw [if_neg (by omega), if_neg (by omega)]; exact ⟨fun w => absurd w (by decide), fun w => by omega⟩
theorem nL_7 {v : Nat} (h : bl v ≤ 9000) : nL v ≤ 700 := nL_le (by omega)
theorem bl_2 (v : Nat) : bl (v * 2) ≤ bl v + 1 := by
  rw [bl_le, Nat.pow_succ]
  have := bl_self v
  omega
theorem bl_1 (v : Nat) : bl (v * 1 + 1) ≤ bl v + 1 := by
  rw [bl_le, Nat.pow_succ]
  have := bl_self v
  have := Nat.two_pow_pos (bl v)
  omega
theorem split_52 {y n D d N : Nat} {R : Nat → Int} {T : Nat → Nat} {t : Int32} (hD : D ≠ 0) (hN : bl N ≤ 4096) (hd : d ≤ 4200) : ∀ (e k f q r : Nat) (h : hp_H), d - k = e → k ≤ d → e < f → m3 h y R T n t (some r) (some (D * 2 ^ e)) (some q) (some r) (some (D * 2 ^ e)) (some q) → N = q * (D * 2 ^ e) + r → r < D * 2 ^ e →
    ∃ h', bX6_split_52 y (nI d) f (nI k) h = some h' ∧ m3 h' y R T n t (some (N % D)) (some D) (some (N / D)) (some (N % D)) (some D) (some (N / D))
  | 0, k, f + 1, q, r, h, he, hk, hf, S, hq, hr => by
    rw [bX6_split_52]
    rw [if_pos ((nI_leI (by omega) (by omega)).mpr (by omega))]
    rw [Nat.pow_zero, Nat.mul_one] at S hq hr
    have e1 : N / D = q := by
      rw [hq, Nat.mul_comm, Nat.mul_add_div (by omega), Nat.div_eq_of_lt hr, Nat.add_zero]
    have e2 : N % D = r := by
      rw [hq, Nat.mul_comm, Nat.mul_add_mod, Nat.mod_eq_of_lt hr]
    rw [e1, e2]
    exact ⟨h, rfl, S⟩
  | e + 1, k, f + 1, q, r, h, he, hk, hf, S, hq, hr => by
    rw [bX6_split_52]
    have hP : 0 < D * 2 ^ e := Nat.mul_pos (by omega) (Nat.two_pow_pos e)
    have ep : D * 2 ^ (e + 1) = D * 2 ^ e * 2 := by rw [Nat.pow_succ, Nat.mul_assoc]
    have eh : D * 2 ^ (e + 1) / 2 = D * 2 ^ e := by rw [ep, Nat.mul_div_cancel _ (by decide)]
    have hqN : q ≤ N := by
      rw [hq, ep]
      have h1 : q ≤ q * (D * 2 ^ e * 2) := Nat.le_mul_of_pos_right q (by omega)
      omega
    have hqb := Nat.le_trans (bl_mono hqN) hN
    have hq2 := bl_2 q
    obtain ⟨h7, p1, V7, F7⟩ := half_eq (m3_vY S)
    have S7 := m3_wY S F7 V7
    rw [eh] at p1 S7
    obtain ⟨h10, p2, S10, -⟩ := m3_pB S7 (D * 2 ^ e)
    obtain ⟨h17, p3, V17, F17⟩ := twice_eq (m3_vZ S10) (nL_7 (by omega))
    have S17 := m3_wZ S10 F17 V17
    obtain ⟨h20, p4, S20, -⟩ := m3_pC S17 (q * 2)
    rw [if_neg (fun w => by have := (nI_leI (by omega) (by omega)).mp w; omega), m3_r6 S, Option.bind_some, m3_i9 S, Option.bind_some, p1, Option.bind_some]
    simp only []
    rw [p2, Option.bind_some, m3_r7 S10, Option.bind_some, m3_i10 S10, Option.bind_some, p3, Option.bind_some]
    simp only []
    rw [p4, Option.bind_some, m3_r6 S20, Option.bind_some, m3_i9 S20, Option.bind_some, m3_r5 S20, Option.bind_some, m3_i8 S20, Option.bind_some, cmp_eq (m3_vY S20) (m3_vX S20), Option.bind_some]
    by_cases hc : r < D * 2 ^ e
    · rw [if_pos ((cmpI_pos _ _).mpr hc), bX6_split_149, Option.bind_some, ni1, nI_add]
      exact split_52 hD hN hd e (k + 1) f (q * 2) r h20 (by omega) (by omega) (by omega) S20 (by rw [hq, ep]; grind) hc
    · have hle : D * 2 ^ e ≤ r := by omega
      obtain ⟨h42, p5, V42, F42⟩ := taken_eq (by omega) hle (m3_vX S20) (m3_vY S20)
      have S42 := m3_wX S20 F42 V42
      obtain ⟨h45, p6, S45, -⟩ := m3_pA S42 (r - D * 2 ^ e)
      have hq3 := bl_1 (q * 2)
      obtain ⟨h52, p7, V52, F52⟩ := scaled_eq (m3_vZ S45) (m := 1) (pl := 1) (by omega) (by omega) (by omega) (nL_7 (by omega))
      have S52 := m3_wZ S45 F52 V52
      obtain ⟨h55, p8, S55, -⟩ := m3_pC S52 (q * 2 * 1 + 1)
      rw [if_neg (fun w => hc ((cmpI_pos _ _).mp w)), Option.bind_some, Option.bind_some, Option.bind_some, Option.bind_some, p5, Option.bind_some]
      simp only []
      rw [p6, Option.bind_some, m3_r7 S45, Option.bind_some, m3_i10 S45, Option.bind_some, ni1, p7, Option.bind_some]
      simp only []
      rw [p8, Option.bind_some, bX6_split_149, Option.bind_some, ni1, nI_add]
      refine split_52 hD hN hd e (k + 1) f (q * 2 * 1 + 1) (r - D * 2 ^ e) h55 (by omega) (by omega) (by omega) S55 ?_ (by omega)
      rw [hq, ep]
      obtain ⟨s, rfl⟩ := Nat.le.dest hle
      rw [Nat.add_sub_cancel_left]
      grind
theorem split_2 {y n D N : Nat} {R : Nat → Int} {T : Nat → Nat} {t : Int32} {C Z : Option Nat} (hD : D ≠ 0) (hN : bl N ≤ 4096) : ∀ (e d f : Nat) (h : hp_H), 4097 - d = e → d ≤ 4097 → e < f → (d = 0 ∨ D * 2 ^ (d - 1) ≤ N) → m3 h y R T n t (some N) (some (D * 2 ^ d)) C (some N) (some (D * 2 ^ d)) Z →
    ∃ h', bX6_split_2 y f (nI d) h = some h' ∧ m3 h' y R T n t (some (N % D)) (some D) (some (N / D)) (some (N % D)) (some D) (some (N / D))
  | e, d, f + 1, h, he, hd, hf, hp, S => by
    rw [bX6_split_2]
    rw [m3_r6 S, Option.bind_some, m3_i9 S, Option.bind_some, m3_r5 S, Option.bind_some, m3_i8 S, Option.bind_some, cmp_eq (m3_vY S) (m3_vX S), Option.bind_some]
    by_cases hc : N < D * 2 ^ d
    · have G := m3_gZ S
      have V0 : mv h (y + 5 + 2) 700 0 := ⟨by rw [nL_0]; omega, by omega, G.elim fun g A => ⟨g, A, fun i hi => by rw [nL_0] at hi; omega⟩⟩
      have S0 := m3_wZ S fr.rf V0
      obtain ⟨h12, p1, S12, -⟩ := m3_pC S0 0
      rw [nL_0] at p1
      have p1' : hp_pv h y 6 10 (.int (0 : Int32)) = some h12 := p1
      rw [if_pos ((cmpI_pos _ _).mpr hc), p1', Option.bind_some]
      exact split_52 hD hN (by omega) d 0 hp_n 0 N h12 (by omega) (by omega) (show d < 1000000 by omega) S12 (by omega) hc
    · have hle : D * 2 ^ d ≤ N := by omega
      have hdb : d < 4097 := by
        rcases Nat.lt_or_ge d 4097 with q | q
        · exact q
        · exfalso
          have h1 := bl_le.mp hN
          have h2 : 2 ^ 4096 ≤ 2 ^ d := Nat.pow_le_pow_right (by decide) (by omega)
          have h3 : 2 ^ d ≤ D * 2 ^ d := Nat.le_mul_of_pos_left _ (by omega)
          exact absurd (Nat.lt_of_lt_of_le h1 (Nat.le_trans h2 (Nat.le_trans h3 hle))) (Nat.lt_irrefl _)
      have b1 := Nat.le_trans (bl_mono hle) hN
      have b2 := bl_2 (D * 2 ^ d)
      obtain ⟨h19, p1, V19, F19⟩ := twice_eq (m3_vY S) (nL_7 (by omega))
      have S19 := m3_wY S F19 V19
      obtain ⟨h22, p2, S22, -⟩ := m3_pB S19 (D * 2 ^ d * 2)
      rw [if_neg (fun w => hc ((cmpI_pos _ _).mp w)), Option.bind_some, Option.bind_some, p1, Option.bind_some]
      simp only []
      rw [p2, Option.bind_some, Option.bind_some, ni1, nI_add]
      rw [Nat.mul_assoc, ← Nat.pow_succ] at S22
      exact split_2 hD hN (e - 1) (d + 1) f h22 (by omega) (by omega) (by omega) (Or.inr hle) S22
theorem split6_eq {h : hp_H} {y n D N : Nat} {R : Nat → Int} {T : Nat → Nat} {t : Int32} {C Z : Option Nat} (S : m3 h y R T n t (some N) (some D) C (some N) (some D) Z) (hD : D ≠ 0) (hN : bl N ≤ 4096) : ∃ h', fX6_split y h = some h' ∧ m3 h' y R T n t (some (N % D)) (some D) (some (N / D)) (some (N % D)) (some D) (some (N / D)) := by
  unfold fX6_split
  rw [if_pos (m3_o S)]
  have e0 : D * 2 ^ 0 = D := by rw [Nat.pow_zero, Nat.mul_one]
  rw [← e0] at S
  have := split_2 hD hN 4097 0 hp_n h rfl (by omega) (by decide) (Or.inl rfl) S
  exact this
/-- the rest is copied, both results are put down -/
theorem div_206 {y n k l r q : Nat} {R : Nat → Int} {T : Nat → Nat} {t sa sb sr : Int32} {B : Option Nat} {zr zq : Int} (hk : k < 8) (hl : l < 8) (er : zr.natAbs = r) (eq : zq.natAbs = q) (hr : bl r ≤ 4096) (hq : bl q ≤ 4096) (sr1 : r ≠ 0 → sr = cmpZ zr 0) (sq1 : q ≠ 0 → sa * sb = cmpZ zq 0) : ∀ (e i f : Nat) (h : hp_H), nL r - i = e → i ≤ nL r → e < f → m3 h y R T n t (some r) B (some q) (some r) none (some q) → pc h (y + 5 + 1) i r →
    ∃ h', bX6_divide_206 y (nI k) (nI l) sa sb sr f (nI i) h = some (nI (bl q), h') ∧ ms h' y (va_up (va_up R l zr) k zq) T n t
  | 0, i, f + 1, h, he, hi, hf, S, P => by
    have hb := P.1
    rw [bX6_divide_206]
    rw [show i = nL r by omega] at P
    have SY := m3_wY S fr.rf (pc_mv P)
    obtain ⟨h6, p1, S6, -⟩ := m3_pB SY r
    obtain ⟨h13, p2, S13⟩ := put_eq S6 hl (j := 1) (by decide) (m3_vY S6) er sr1
    have k1 : sKeep R l zr = (nI (bl r), va_up R l zr) := by unfold sKeep; rw [er, if_pos hr]
    rw [k1] at p2 S13
    obtain ⟨h21, p3, S21⟩ := put_eq S13 hk (j := 2) (by decide) (m3_vZ S13) eq sq1
    have k2 : sKeep (va_up R l zr) k zq = (nI (bl q), va_up (va_up R l zr) k zq) := by unfold sKeep; rw [eq, if_pos hq]
    rw [k2] at p3 S21
    rw [m3_i8 S, Option.bind_some, if_pos ((nI_leI (by omega) (by omega)).mpr (by omega)), Option.bind_some, p1, Option.bind_some, m3_r6 S6, Option.bind_some, m3_i9 S6, Option.bind_some, p2, Option.bind_some]
    simp only []
    rw [m3_r7 S13, Option.bind_some, m3_i10 S13, Option.bind_some, p3, Option.bind_some]
    exact ⟨h21, rfl, m3_any S21⟩
  | e + 1, i, f + 1, h, he, hi, hf, S, P => by
    have hb := P.1
    rw [bX6_divide_206]
    obtain ⟨h30, p1, P30, F30, G30⟩ := pc_wr P (by omega)
    have S30 := m3_uY S F30 G30
    rw [m3_i8 S, Option.bind_some, if_neg (fun q => by have := (nI_leI (by omega) (by omega)).mp q; omega), m3_r6 S, Option.bind_some, m3_r5 S, Option.bind_some, mv_rd (m3_vX S) (by omega), Option.bind_some, p1, Option.bind_some, Option.bind_some, ni1, nI_add]
    exact div_206 hk hl er eq hr hq sr1 sq1 e (i + 1) f h30 (by omega) (by omega) (by omega) S30 P30
theorem div_203 {h : hp_H} {y n k l r q : Nat} {R : Nat → Int} {T : Nat → Nat} {t sa sb sr : Int32} {B Y : Option Nat} {zr zq : Int} (S : m3 h y R T n t (some r) B (some q) (some r) Y (some q)) (hk : k < 8) (hl : l < 8) (er : zr.natAbs = r) (eq : zq.natAbs = q) (hr : bl r ≤ 4096) (hq : bl q ≤ 4096) (sr1 : r ≠ 0 → sr = cmpZ zr 0) (sq1 : q ≠ 0 → sa * sb = cmpZ zq 0) : ∃ h', bX6_divide_203 y (nI k) (nI l) sa sb sr h = some (nI (bl q), h') ∧ ms h' y (va_up (va_up R l zr) k zq) T n t := by
  have h7 := (m3_vX S).1
  unfold bX6_divide_203
  exact div_206 hk hl er eq hr hq sr1 sq1 (nL r) 0 hp_n h (by omega) (by omega) (show nL r < 1000000 by omega) (m3_uY S fr.rf (m3_gY S)) (pc_0 h7 (m3_gY S))
theorem div_133 {y n k l j r q : Nat} {R : Nat → Int} {T : Nat → Nat} {t sa sb : Int32} {B : Option Nat} {zr zq : Int} (hk : k < 8) (hl : l < 8) (hj : j < 8) (hrj : r ≤ (R j).natAbs) (er : zr.natAbs = (R j).natAbs - r) (eq : zq.natAbs = q) (hq : bl q ≤ 4096) (sr1 : (R j).natAbs - r ≠ 0 → sb = cmpZ zr 0) (sq1 : q ≠ 0 → sa * sb = cmpZ zq 0) : ∀ (e i f : Nat) (h : hp_H), nL r - i = e → i ≤ nL r → e < f → m3 h y R T n t (some r) B (some q) (some r) none (some q) → pc h (y + 5 + 1) i r →
    ∃ h', bX6_divide_133 y (nI k) (nI l) (nI j) sa sb f (nI i) h = some (nI (bl q), h') ∧ ms h' y (va_up (va_up R l zr) k zq) T n t
  | 0, i, f + 1, h, he, hi, hf, S, P => by
    have hb := P.1
    rw [bX6_divide_133]
    rw [show i = nL r by omega] at P
    have SY := m3_wY S fr.rf (pc_mv P)
    obtain ⟨h6, p1, S6, -⟩ := m3_pB SY r
    obtain ⟨h9, p2, S9⟩ := toX_eq S6 hj
    obtain ⟨h19, p3, V19, F19⟩ := taken_eq (by omega) hrj (m3_vX S9) (m3_vY S9)
    have S19 := m3_wX S9 F19 V19
    obtain ⟨h22, p4, S22, -⟩ := m3_pA S19 ((R j).natAbs - r)
    have hrb := (m3_reg S hj).2.2.1
    rw [m3_i8 S, Option.bind_some, if_pos ((nI_leI (by omega) (by omega)).mpr (by omega)), Option.bind_some, p1, Option.bind_some, p2, Option.bind_some, m3_r5 S9, Option.bind_some, m3_i8 S9, Option.bind_some, m3_r6 S9, Option.bind_some, m3_i9 S9, Option.bind_some, p3, Option.bind_some]
    simp only []
    rw [p4, Option.bind_some]
    exact div_203 S22 hk hl er eq (Nat.le_trans (bl_mono (Nat.sub_le _ _)) hrb) hq sr1 sq1
  | e + 1, i, f + 1, h, he, hi, hf, S, P => by
    have hb := P.1
    rw [bX6_divide_133]
    obtain ⟨h30, p1, P30, F30, G30⟩ := pc_wr P (by omega)
    have S30 := m3_uY S F30 G30
    rw [m3_i8 S, Option.bind_some, if_neg (fun q => by have := (nI_leI (by omega) (by omega)).mp q; omega), m3_r6 S, Option.bind_some, m3_r5 S, Option.bind_some, mv_rd (m3_vX S) (by omega), Option.bind_some, p1, Option.bind_some, Option.bind_some, ni1, nI_add]
    exact div_133 hk hl hj hrj er eq hq sr1 sq1 e (i + 1) f h30 (by omega) (by omega) (by omega) S30 P30
theorem va_up_comm {α : Type} (f : Nat → α) {k l : Nat} (h : k ≠ l) (a b : α) : va_up (va_up f l b) k a = va_up (va_up f k a) l b := by
  funext j
  by_cases q1 : j = k
  · subst q1; rw [va_up_self, va_up_ne _ _ h, va_up_self]
  · rw [va_up_ne _ _ q1]
    by_cases q2 : j = l
    · subst q2; rw [va_up_self, va_up_self]
    · rw [va_up_ne _ _ q2, va_up_ne _ _ q2, va_up_ne _ _ q1]
