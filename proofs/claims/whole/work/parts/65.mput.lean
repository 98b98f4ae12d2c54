/-! the reference: isWithin, bitsOf, put -/
theorem within_eq {h : hp_H} {y n b v : Nat} {R : Nat → Int} {T : Nat → Nat} {t : Int32} {A B C X Y Z : Option Nat} (S : m3 h y R T n t A B C X Y Z) (V : mv h b 700 v) : fX6_isWithin y b (nI (nL v)) h = some (if v < LIM then 1 else 0) := by
  unfold fX6_isWithin
  rw [if_pos (m3_o S), m3_r3 S, Option.bind_some, m3_i4 S, Option.bind_some, cmp_eq V (m3_lim S), Option.bind_some]
  unfold cmpI
  by_cases h1 : v < LIM
  · rw [if_pos h1, if_pos h1, if_neg (by decide)]
  · rw [if_neg h1, if_neg h1]
    by_cases h2 : v = LIM
    · rw [if_pos h2, if_pos (by decide)]
    · rw [if_neg h2, if_pos (by decide)]
theorem bl_half (v : Nat) : bl (v / 2) = bl v - 1 := by
  have := bl_div v 1
  rw [Nat.pow_one] at this; exact this
theorem nLz_le {v : Nat} (hv : nL v ≤ 700) : nI (nL v) ≤ 0 ↔ v = 0 := by
  rw [show (0 : Int32) = nI 0 from rfl, nI_leI (by omega) (by omega)]
  constructor
  · intro q; exact nL_z.mp (by omega)
  · rintro rfl; exact Nat.le_refl _
theorem bits_loop {y n : Nat} {R : Nat → Int} {T : Nat → Nat} {t : Int32} {B C Y Z : Option Nat} : ∀ (e i f v : Nat) (h : hp_H), bl v = e → e < f → i + e < 2000000000 → m3 h y R T n t (some v) B C (some v) Y Z → ∃ h', bX6_bitsOf_7 y f (nI i) h = some (nI (i + bl v), h') ∧ m3 h' y R T n t (some 0) B C (some 0) Y Z
  | e, i, f + 1, v, h, he, hf, hi, S => by
    have hv := (m3_vX S).1
    simp only [bX6_bitsOf_7]
    rw [m3_i8 S, Option.bind_some]
    by_cases h0 : v = 0
    · rw [if_pos ((nLz_le hv).mpr h0)]
      subst h0
      exact ⟨h, rfl, S⟩
    · have hp := bl_pos h0
      obtain ⟨h9, p1, V9, F9⟩ := half_eq (m3_vX S)
      have S9 := m3_wX S F9 V9
      obtain ⟨h12, p2, S12, -⟩ := m3_pA S9 (v / 2)
      rw [if_neg (fun q => h0 ((nLz_le hv).mp q)), m3_r5 S, Option.bind_some, Option.bind_some, p1, Option.bind_some]
      simp only []
      rw [p2, Option.bind_some, Option.bind_some, ni1, nI_add]
      obtain ⟨h', q1, q2⟩ := bits_loop (e - 1) (i + 1) f (v / 2) h12 (by rw [bl_half]; omega) (by omega) (by omega) S12
      rw [bl_half, show i + 1 + (bl v - 1) = i + bl v by omega] at q1
      exact ⟨h', q1, q2⟩
theorem bitsOf_eq {h : hp_H} {y n k : Nat} {R : Nat → Int} {T : Nat → Nat} {t : Int32} {A B C X Y Z : Option Nat} (S : m3 h y R T n t A B C X Y Z) (hk : k < 8) : ∃ h', fX6_bitsOf y (nI k) h = some (nI (bl (R k).natAbs), h') ∧ m3 h' y R T n t (some 0) B C (some 0) Y Z := by
  have hr := m3_reg S hk
  unfold fX6_bitsOf
  obtain ⟨h2, p1, S2⟩ := toX_eq S hk
  obtain ⟨h', q1, q2⟩ := bits_loop (bl (R k).natAbs) 0 hp_n _ h2 rfl (show bl (R k).natAbs < 1000000 by omega) (by omega) S2
  rw [if_pos (m3_o S), p1, Option.bind_some]
  rw [Nat.zero_add] at q1
  exact ⟨h', q1, q2⟩
theorem si_raw {h : hp_H} {b N i : Nat} {f : Nat → Int32} (A : h b = some (.inl (0, N, f))) (hi : i < N) (hN : N ≤ 5000) (x : Int32) : ∃ h', hp_si h 0 b (nI i) x = some h' ∧ h' b = some (.inl (0, N, upd f i x)) ∧ fr h h' b b := by
  have h1 : ¬ nI i < 0 := nI_lt0 (by omega)
  have h2 : (nI i).toNatClampNeg = i := nI_cl (by omega)
  have h3 : ¬ N ≤ i := by omega
  refine ⟨va_up h b (some (.inl (0, N, upd f i x))), ?_, va_up_self _ _ _, fun q hq _ => va_up_ne _ _ hq⟩
  simp only [hp_si, A, h1, h2, h3, or_self, not_false_eq_true, and_self, if_true]
theorem put_loop {y k b v n : Nat} {c : Nat → Int32} {t : Int32} {g0 : Nat → Nat} (hk : k < 8) (hv : nL v ≤ 320) (hb : y + 5 ≤ b) : ∀ (e i f : Nat) (g : Nat → Nat) (h : hp_H), nL v - i = e → i ≤ nL v → e < f → mo h y c t n → mv h b 700 v → ar h (y + 1) 2560 g → (∀ j, j < i → g (320 * k + j) = di v j) → (∀ p, p < 320 * k ∨ 320 * k + 320 ≤ p → g p = g0 p) →
    ∃ h' g', bX6_put_37 y (nI k) b (nI (nL v)) f (nI i) h = (fX6_bitsOf y (nI k) h').bind (fun (v4, h3) => some (v4, h3)) ∧ ar h' (y + 1) 2560 g' ∧ (∀ j, j < nL v → g' (320 * k + j) = di v j) ∧ (∀ p, p < 320 * k ∨ 320 * k + 320 ≤ p → g' p = g0 p) ∧ fr h h' (y + 1) (y + 1)
  | 0, i, f + 1, g, h, he, hi, hf, O, V, A, hg1, hg2 => by
    simp only [bX6_put_37]
    rw [if_pos ((nI_leI (by omega) (by omega)).mpr (by omega))]
    exact ⟨h, g, rfl, A, fun j hj => hg1 j (by omega), hg2, fr.rf⟩
  | e + 1, i, f + 1, g, h, he, hi, hf, O, V, A, hg1, hg2 => by
    simp only [bX6_put_37]
    have e0 : hp_gr h y 6 0 = some (y + 1) := by unfold mo at O; simp [hp_gr, hp_gv, O]
    have ei : (320 : Int32) * nI k + nI i = nI (320 * k + i) := by rw [show (320 : Int32) = nI 320 from rfl, nI_mul, nI_add]
    obtain ⟨h10, p1, A10, F10⟩ := ar_wr A (i := 320 * k + i) (by omega) (by omega) (di v i)
    rw [if_neg (fun q => by have := (nI_leI (by omega) (by omega)).mp q; omega), e0, Option.bind_some, mv_rd V (by omega), Option.bind_some, ei, p1, Option.bind_some, Option.bind_some, ni1, nI_add]
    obtain ⟨h', g', q1, q2, q3, q4, q5⟩ := put_loop (g0 := g0) hk hv hb e (i + 1) f (va_up g (320 * k + i) (di v i)) h10 (by omega) (by omega) (by omega) ((F10 _ (by omega) (by omega)).trans O) (mv_fr V F10 (by omega) (by omega)) A10 (fun j hj => by
      by_cases q : j = i
      · rw [q, va_up_self]
      · rw [va_up_ne _ _ (by omega)]; exact hg1 j (by omega)) (fun p hp => by rw [va_up_ne _ _ (by omega)]; exact hg2 p hp)
    exact ⟨h', g', q1, q2, q3, q4, F10.tr q5⟩
theorem cmpZ_z {z : Int} (h : z.natAbs = 0) : cmpZ z 0 = 0 := by
  have : z = 0 := by omega
  rw [this]; decide
theorem put_eq {h : hp_H} {y n k j v : Nat} {R : Nat → Int} {T : Nat → Nat} {t s : Int32} {A B C X Y Z : Option Nat} {z : Int} (S : m3 h y R T n t A B C X Y Z) (hk : k < 8) (hj : j < 3) (V : mv h (y + 5 + j) 700 v) (hz : z.natAbs = v) (hs : v ≠ 0 → s = cmpZ z 0) : ∃ h', fX6_put y (nI k) (y + 5 + j) (nI (nL v)) s h = some ((sKeep R k z).1, h') ∧ m3 h' y (sKeep R k z).2 T n t none B C none Y Z := by
  have hv7 := V.1
  unfold fX6_put sKeep
  rw [if_pos (m3_o S), within_eq S V, Option.bind_some, hz]
  by_cases hw : v < LIM
  · have hb := LIM_bl.mpr hw
    have hv : nL v ≤ 320 := nL_le (by omega)
    rw [if_pos hw, if_neg (by decide), if_pos hb, m3_r1 S, Option.bind_some]
    obtain ⟨c, M, qA, qB, qC, qX, qY, qZ⟩ := S
    obtain ⟨o, ⟨gd, gl, sg0, r1, r2, r3, r4⟩, mL, ⟨⟨gt, x1, x2⟩, x3⟩, m5⟩ := M
    obtain ⟨h6, p1, A6, F6⟩ := ar_wr r2 (i := k) hk (by omega) (nL v)
    have o6 : mo h6 y c t n := (F6 _ (by omega) (by omega)).trans o
    have e2 : hp_gr h6 y 6 2 = some (y + 3) := by unfold mo at o6; simp [hp_gr, hp_gv, o6]
    obtain ⟨h1, p2, A1, F1⟩ := si_raw (b := y + 3) ((F6 _ (by omega) (by omega)).trans r3) hk (by omega) (cmpZ z 0)
    have o1 : mo h1 y c t n := (F1 _ (by omega) (by omega)).trans o6
    have V1 := mv_fr (mv_fr V F6 (by omega) (by omega)) F1 (by omega) (by omega)
    obtain ⟨h', g', q1, q2, q3, q4, q5⟩ := put_loop (g0 := gd) hk hv (by omega) (nL v) 0 hp_n gd h1 (by omega) (by omega) (show nL v < 1000000 by omega) o1 V1 (ar_fr (ar_fr r1 F6 (by omega) (by omega)) F1 (by omega) (by omega)) (fun j hj => by omega) (fun p _ => rfl)
    have es : bX6_put_33 y (nI k) (y + 5 + j) (nI (nL v)) (y + 3) (nI k) (cmpZ z 0) h6 = (fX6_bitsOf y (nI k) h').bind (fun (v4, h3) => some (v4, h3)) := by
      unfold bX6_put_33
      rw [p2, Option.bind_some]
      exact q1
    have o' : mo h' y c t n := (q5 _ (by omega) (by omega)).trans o1
    have fin : fs h h' [y + 2, y + 3, y + 1] := (F6.fs (by simp) (by simp)).tr ((F1.fs (by simp) (by simp)).tr (q5.fs (by simp) (by simp)))
    have out : ∀ p, p < y + 1 ∨ y + 4 ≤ p → p ∉ [y + 2, y + 3, y + 1] := fun p hp => by
      simp only [List.mem_cons, List.not_mem_nil, or_false]; omega
    have M' : mm h' y (va_up R k z) T n c t := by
      refine ⟨o', ⟨g', va_up gl k (nL v), upd sg0 k (cmpZ z 0), q2, ?_, ?_, fun i hi => ?_⟩, mv_fs mL fin (out _ (by omega)), ⟨⟨gt, (fin _ (out _ (by omega))).trans x1, x2⟩, x3⟩, fun i hi => ?_⟩
      · exact ar_fr (ar_fr A6 F1 (by omega) (by omega)) q5 (by omega) (by omega)
      · exact (q5 _ (by omega) (by omega)).trans A1
      · by_cases hik : i = k
        · subst hik
          rw [va_up_self, va_up_self, hz]
          refine ⟨rfl, by simp [upd], hb, q3⟩
        · rw [va_up_ne _ _ hik, va_up_ne _ _ hik]
          obtain ⟨a1, a2, a3, a4⟩ := r4 i hi
          have hl : nL (R i).natAbs ≤ 320 := nL_le (by omega)
          refine ⟨a1, by simp [upd, hik, a2], a3, fun j hj => ?_⟩
          rw [q4 _ (by omega), a4 j hj]
      · obtain ⟨g, G⟩ := m5 i hi
        exact ⟨g, (fin _ (out _ (by omega))).trans G⟩
    have S' : m3 h' y (va_up R k z) T n t A B C X Y Z := ⟨c, M', qA, qB, qC, fun v e => mv_fs (qX v e) fin (out _ (by omega)), fun v e => mv_fs (qY v e) fin (out _ (by omega)), fun v e => mv_fs (qZ v e) fin (out _ (by omega))⟩
    obtain ⟨h9, u1, u2⟩ := bitsOf_eq S' hk
    rw [va_up_self, hz] at u1
    have u3 : m3 h9 y (va_up R k z) T n t none B C none Y Z := by
      obtain ⟨c, M, qA, qB, qC, qX, qY, qZ⟩ := u2
      exact ⟨c, M, fun v e => (by cases e), qB, qC, fun v e => (by cases e), qY, qZ⟩
    rw [p1, Option.bind_some, e2, Option.bind_some]
    by_cases h0 : v = 0
    · have c0 : cmpZ z 0 = 0 := cmpZ_z (by omega)
      rw [c0] at es
      rw [if_pos (by rw [h0]; rfl), es, u1, Option.bind_some]
      exact ⟨h9, rfl, u3⟩
    · have hn0 : ¬ nI (nL v) = 0 := fun q => h0 (nL_z.mp ((nI_zero (by omega)).mp q))
      rw [if_neg hn0, hs h0, es, u1, Option.bind_some]
      exact ⟨h9, rfl, u3⟩
  · have hb : ¬ bl v ≤ 4096 := fun q => hw (LIM_bl.mp q)
    rw [if_neg hw, if_pos rfl, if_neg hb]
    obtain ⟨c, M, qA, qB, qC, qX, qY, qZ⟩ := S
    exact ⟨h, rfl, ⟨c, M, fun v e => (by cases e), qB, qC, fun v e => (by cases e), qY, qZ⟩⟩
