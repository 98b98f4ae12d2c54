/-! the reference: load, low, part -/
theorem mm_set {h h' : hp_H} {y n k : Nat} {R : Nat → Int} {T : Nat → Nat} {c : Nat → Int32} {t : Int32} {z : Int} {gd gl g' : Nat → Nat} {s : Nat → Int32} (M : mm h y R T n c t) (r4 : ∀ k, k < 8 → gl k = nL (R k).natAbs ∧ s k = cmpZ (R k) 0 ∧ bl (R k).natAbs ≤ 4096 ∧ ∀ i, i < nL (R k).natAbs → gd (320 * k + i) = di (R k).natAbs i) (hk : k < 8) (hb : bl z.natAbs ≤ 4096) (q2 : ar h' (y + 1) 2560 g') (q3 : ∀ j, j < nL z.natAbs → g' (320 * k + j) = di z.natAbs j) (q4 : ∀ p, p < 320 * k ∨ 320 * k + 320 ≤ p → g' p = gd p) (l2 : ar h' (y + 2) 8 (va_up gl k (nL z.natAbs))) (l3 : h' (y + 3) = some (.inl (0, 8, upd s k (cmpZ z 0)))) (F : fs h h' [y + 2, y + 3, y + 1]) : mm h' y (va_up R k z) T n c t := by
  have out : ∀ p, p < y + 1 ∨ y + 4 ≤ p → p ∉ [y + 2, y + 3, y + 1] := fun p hp => by
    simp only [List.mem_cons, List.not_mem_nil, or_false]; omega
  obtain ⟨o, -, mL, ⟨⟨gt, x1, x2⟩, x3⟩, m5⟩ := M
  refine ⟨(F _ (out _ (by omega))).trans o, ⟨g', _, _, q2, l2, l3, fun i hi => ?_⟩, mv_fs mL F (out _ (by omega)), ⟨⟨gt, (F _ (out _ (by omega))).trans x1, x2⟩, x3⟩, fun i hi => ?_⟩
  · by_cases hik : i = k
    · subst hik
      rw [va_up_self, va_up_self]
      exact ⟨rfl, by simp [upd], hb, q3⟩
    · rw [va_up_ne _ _ hik, va_up_ne _ _ hik]
      obtain ⟨a1, a2, a3, a4⟩ := r4 i hi
      have hl : nL (R i).natAbs ≤ 320 := nL_le (by omega)
      refine ⟨a1, by simp [upd, hik, a2], a3, fun j hj => ?_⟩
      rw [q4 _ (by omega), a4 j hj]
  · obtain ⟨g, G⟩ := m5 i hi
    exact ⟨g, (F _ (out _ (by omega))).trans G⟩
theorem lI_div4 {z : Int} (h1 : -9223372036854775808 ≤ z) (h2 : z < 9223372036854775808) : lI z / (10000 : Int64) = lI (z.tdiv 10000) := by
  apply Int64.toInt_inj.mp
  have e : (10000 : Int64).toInt = 10000 := rfl
  have b1 : -9223372036854775808 ≤ z.tdiv 10000 ∧ z.tdiv 10000 < 9223372036854775808 := by
    rcases (show z < 0 ∨ 0 ≤ z by omega) with q | q
    · obtain ⟨m, rfl⟩ : ∃ m : Nat, z = -(m : Int) := ⟨(-z).toNat, by omega⟩
      rw [Int.neg_tdiv, Int.tdiv_eq_ediv_of_nonneg (by omega)]; omega
    · rw [Int.tdiv_eq_ediv_of_nonneg q]; omega
  rw [Int64.toInt_div, lI_ti h1 h2, e, lI_ti b1.1 b1.2]
  exact Int.bmod_eq_of_le (by omega) (by omega)
theorem tdiv_sg (v : Int) (m : Nat) : (sg v m).tdiv 10000 = sg v (m / 10000) := by
  unfold sg
  by_cases h : v < 0
  · rw [if_pos h, if_pos h, Int.neg_tdiv, Int.tdiv_eq_ediv_of_nonneg (by omega)]; omega
  · rw [if_neg h, if_neg h, Int.tdiv_eq_ediv_of_nonneg (by omega)]; omega
theorem di_mod (v k : Nat) : v / 10000 ^ k / 10000 = v / 10000 ^ (k + 1) := by rw [Nat.div_div_eq_div_mul, Nat.pow_succ]
theorem load_loop {y n k V : Nat} {c : Nat → Int32} {t : Int32} {v : Int64} {g0 : Nat → Nat} (hk : k < 8) (hV : V = v.toInt.natAbs) : ∀ (e i f : Nat) (g : Nat → Nat) (h : hp_H), nL V - i = e → i ≤ nL V → e < f → mo h y c t n → ar h (y + 1) 2560 g → (∀ j, j < i → g (320 * k + j) = di V j) → (∀ p, p < 320 * k ∨ 320 * k + 320 ≤ p → g p = g0 p) →
    ∃ h' g', (∃ f', bX6_load_20 y (nI k) v f (lI (sg v.toInt (V / 10000 ^ i))) (nI i) h = bX6_load_20 y (nI k) v (f' + 1) (0 : Int64) (nI (nL V)) h') ∧ ar h' (y + 1) 2560 g' ∧ (∀ j, j < nL V → g' (320 * k + j) = di V j) ∧ (∀ p, p < 320 * k ∨ 320 * k + 320 ≤ p → g' p = g0 p) ∧ fr h h' (y + 1) (y + 1)
  | 0, i, f + 1, g, h, he, hi, hf, O, A, hg1, hg2 => by
    have ei : i = nL V := by omega
    have e0 : V / 10000 ^ i = 0 := Nat.div_eq_of_lt (nL_top V (by omega))
    have e1 : lI (sg v.toInt 0) = (0 : Int64) := by unfold sg; split <;> rfl
    rw [e0, e1, ei]
    exact ⟨h, g, ⟨f, rfl⟩, A, fun j hj => hg1 j (by omega), hg2, fr.rf⟩
  | e + 1, i, f + 1, g, h, he, hi, hf, O, A, hg1, hg2 => by
    have rg := lI_rg v
    have hVb : V ≤ 9223372036854775808 := by omega
    have hVl : nL V ≤ 5 := by
      rcases Nat.lt_or_ge 5 (nL V) with q | q
      · have := (nL_lt V 5).mp q
        have p5 : (10000 : Nat) ^ 5 = 100000000000000000000 := rfl
        omega
      · exact q
    have hq : 0 < V / 10000 ^ i := nL_pos_div (by omega)
    have hql : V / 10000 ^ i ≤ V := Nat.div_le_self _ _
    obtain ⟨m, hm⟩ : ∃ m, m = V / 10000 ^ i := ⟨_, rfl⟩
    have hdi : m % 10000 = di V i := by rw [hm]; rfl
    have hnx : m / 10000 = V / 10000 ^ (i + 1) := by rw [hm, di_mod]
    rw [← hm] at hq hql ⊢
    have hsr : -9223372036854775808 ≤ sg v.toInt m ∧ sg v.toInt m < 9223372036854775808 := by
      unfold sg
      by_cases hn : v.toInt < 0
      · rw [if_pos hn]; omega
      · rw [if_neg hn]; omega
    have hsn : sg v.toInt m ≠ 0 := by
      unfold sg
      by_cases hn : v.toInt < 0
      · rw [if_pos hn]; omega
      · rw [if_neg hn]; omega
    have hne : ¬ lI (sg v.toInt m) = (0 : Int64) := fun q => by
      have : lI (sg v.toInt m) = lI 0 := q
      rw [lI_eq hsr.1 hsr.2 (by omega) (by omega)] at this
      exact hsn this
    have e0 : hp_gr h y 6 0 = some (y + 1) := by unfold mo at O; simp [hp_gr, hp_gv, O]
    have ei : (320 : Int32) * nI k + nI i = nI (320 * k + i) := by rw [show (320 : Int32) = nI 320 from rfl, nI_mul, nI_add]
    have er : hp_lrem (lI (sg v.toInt m)) (10000 : Int64) = lI (sg v.toInt (m % 10000)) := by
      unfold hp_lrem
      rw [lI_div4 hsr.1 hsr.2, tdiv_sg, show (10000 : Int64) = lI 10000 from rfl, lI_mul, lI_sub]
      congr 1
      unfold sg
      by_cases hn : v.toInt < 0
      · rw [if_pos hn, if_pos hn, if_pos hn]; omega
      · rw [if_neg hn, if_neg hn, if_neg hn]; omega
    obtain ⟨h1, p1, A1, F1⟩ := ar_wr A (i := 320 * k + i) (by omega) (by omega) (di V i)
    have dl := di_lt V i
    have go : ∀ x : Int64, x = lI (m % 10000 : Nat) → ∃ h' g', (∃ f', bX6_load_62 (bX6_load_20 y (nI k) v f) y (nI k) v (lI (sg v.toInt m)) (nI i) (y + 1) (nI (320 * k + i)) x h = bX6_load_20 y (nI k) v (f' + 1) (0 : Int64) (nI (nL V)) h') ∧ ar h' (y + 1) 2560 g' ∧ (∀ j, j < nL V → g' (320 * k + j) = di V j) ∧ (∀ p, p < 320 * k ∨ 320 * k + 320 ≤ p → g' p = g0 p) ∧ fr h h' (y + 1) (y + 1) := by
      intro x hx
      unfold bX6_load_62
      rw [hx, lI_i, hdi, ← nI_iI, p1, Option.bind_some, Option.bind_some, Option.bind_some, lI_div4 hsr.1 hsr.2, tdiv_sg, hnx, ni1, nI_add]
      obtain ⟨h', g', q1, q2, q3, q4, q5⟩ := load_loop (g0 := g0) (v := v) hk hV e (i + 1) f (va_up g (320 * k + i) (di V i)) h1 (by omega) (by omega) (by omega) ((F1 _ (by omega) (by omega)).trans O) A1 (fun j hj => by
        by_cases q : j = i
        · rw [q, va_up_self]
        · rw [va_up_ne _ _ (by omega)]; exact hg1 j (by omega)) (fun p hp => by rw [va_up_ne _ _ (by omega)]; exact hg2 p hp)
      exact ⟨h', g', q1, q2, q3, q4, F1.tr q5⟩
    rw [bX6_load_20]
    rw [if_neg hne, Option.bind_some, er, e0, Option.bind_some, ei]
    by_cases hneg : v.toInt < 0
    · have es : sg v.toInt (m % 10000) = -((m % 10000 : Nat) : Int) := by unfold sg; rw [if_pos hneg]
      rw [es]
      by_cases hz : m % 10000 = 0
      · rw [if_pos (show (0 : Int64) ≤ lI (-((m % 10000 : Nat) : Int)) by rw [hz]; decide)]
        exact go _ (by rw [hz]; rfl)
      · rw [if_neg (show ¬ (0 : Int64) ≤ lI (-((m % 10000 : Nat) : Int)) from fun q => by
          rw [show (0 : Int64) = lI 0 from rfl, lI_le (by omega) (by omega) (by omega) (by omega)] at q; omega)]
        exact go _ (by rw [lI_neg, Int.neg_neg])
    · have es : sg v.toInt (m % 10000) = ((m % 10000 : Nat) : Int) := by unfold sg; rw [if_neg hneg]
      rw [es, if_pos (show (0 : Int64) ≤ lI ((m % 10000 : Nat) : Int) by
        rw [show (0 : Int64) = lI 0 from rfl, lI_le (by omega) (by omega) (by omega) (by omega)]; omega)]
      exact go _ rfl
theorem mload_eq {h : hp_H} {y n : Nat} {R : Nat → Int} {T : Nat → Nat} {t : Int32} (S : ms h y R T n t) (a : Int32) (v : Int64) : ∃ h', fX6_load y a v h = some ((sLoad R a v).1, h') ∧ ms h' y (sLoad R a v).2 T n 0 := by
  unfold fX6_load sLoad
  obtain ⟨h1, p0, S1⟩ := ms_0 S
  rw [if_pos (m3_o S), p0, Option.bind_some]
  rcases rg6 a with ⟨e1, f1⟩ | ⟨k, hk, rfl, e1, f1⟩
  · rw [f1, Option.bind_some, if_pos rfl, e1]; exact ⟨h1, rfl, S1⟩
  rw [f1, Option.bind_some, if_neg (by decide), e1]
  simp only []
  obtain ⟨c, M, -⟩ := S1
  obtain ⟨gd, gl, s, r1, r2, r3, r4⟩ := M.2.1
  have rgv := lI_rg v
  have hb : bl v.toInt.natAbs ≤ 4096 := by
    have : bl v.toInt.natAbs ≤ 64 := bl_le.mpr (by have : (2 : Nat) ^ 64 = 18446744073709551616 := rfl; omega)
    omega
  have hV : nL v.toInt.natAbs ≤ 320 := nL_le (by omega)
  have ev : v = lI (sg v.toInt (v.toInt.natAbs / 10000 ^ 0)) := by
    rw [Nat.pow_zero, Nat.div_one]
    have : sg v.toInt v.toInt.natAbs = v.toInt := by
      unfold sg
      by_cases hn : v.toInt < 0
      · rw [if_pos hn]; omega
      · rw [if_neg hn]; omega
    rw [this]; exact lI_of v
  obtain ⟨h', g', ⟨f', q1⟩, q2, q3, q4, q5⟩ := load_loop (g0 := gd) (v := v) (t := 0) (c := c) (n := n) (y := y) hk rfl (nL v.toInt.natAbs) 0 hp_n gd h1 (by omega) (by omega) (show nL v.toInt.natAbs < 1000000 by omega) M.1 r1 (fun j hj => by omega) (fun p _ => rfl)
  rw [← ev] at q1
  have q1' : bX6_load_20 y (nI k) v hp_n v (0 : Int32) h1 = bX6_load_20 y (nI k) v (f' + 1) (0 : Int64) (nI (nL v.toInt.natAbs)) h' := q1
  rw [q1', bX6_load_20]
  rw [if_pos rfl]
  have o' : mo h' y c 0 n := (q5 _ (by omega) (by omega)).trans M.1
  have e2 : hp_gr h' y 6 1 = some (y + 2) := by unfold mo at o'; simp [hp_gr, hp_gv, o']
  obtain ⟨h4, p4, A4, F4⟩ := ar_wr (ar_fr r2 q5 (by omega) (by omega)) (i := k) hk (by omega) (nL v.toInt.natAbs)
  have o4 : mo h4 y c 0 n := (F4 _ (by omega) (by omega)).trans o'
  have e3 : hp_gr h4 y 6 2 = some (y + 3) := by unfold mo at o4; simp [hp_gr, hp_gv, o4]
  obtain ⟨h5, p5, A5, F5⟩ := si_raw (b := y + 3) ((F4 _ (by omega) (by omega)).trans ((q5 _ (by omega) (by omega)).trans r3)) hk (by omega) (cmpZ v.toInt 0)
  have fin : fs h1 h5 [y + 2, y + 3, y + 1] := (q5.fs (by simp) (by simp)).tr ((F4.fs (by simp) (by simp)).tr (F5.fs (by simp) (by simp)))
  have M5 := mm_set (z := v.toInt) (gd := gd) (gl := gl) (s := s) M r4 hk hb (ar_fr (ar_fr q2 F4 (by omega) (by omega)) F5 (by omega) (by omega)) q3 q4 (ar_fr A4 F5 (by omega) (by omega)) A5 fin
  have S5 : ms h5 y (va_up R k v.toInt) T n 0 := ⟨c, M5, fun v e => (by cases e), fun v e => (by cases e), fun v e => (by cases e), fun v e => (by cases e), fun v e => (by cases e), fun v e => (by cases e)⟩
  rw [e2, Option.bind_some, p4, Option.bind_some, e3, Option.bind_some]
  have c0 : (0 : Int64) ≤ v ↔ 0 ≤ v.toInt := by rw [Int64.le_iff_toInt_le]; exact Iff.rfl
  have c1 : v ≤ (0 : Int64) ↔ v.toInt ≤ 0 := by rw [Int64.le_iff_toInt_le]; exact Iff.rfl
  have e112 : bX6_load_112 (y + 3) (nI k) (cmpZ v.toInt 0) h4 = some (1, h5) := by
    unfold bX6_load_112
    rw [p5, Option.bind_some]
  rcases cmp0 v.toInt with ⟨a1, a2⟩ | ⟨a1, a2⟩ | ⟨a1, a2⟩ <;> rw [a2] at e112
  · rw [if_neg (by rw [c0]; omega), e112]; exact ⟨h5, rfl, S5⟩
  · rw [if_pos (by rw [c0]; omega), if_pos (by rw [c1]; omega), e112]; exact ⟨h5, rfl, S5⟩
  · rw [if_pos (by rw [c0]; omega), if_neg (by rw [c1]; omega), e112]; exact ⟨h5, rfl, S5⟩
