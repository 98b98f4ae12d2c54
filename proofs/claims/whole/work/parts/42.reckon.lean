/-! WholeNumbers: sums, products, shifts, the greatest common divisor -/
theorem nres (z : Nat) : List.Nodup [z + 26, z + 27, z + 28] := by simp
theorem nsec (z : Nat) : List.Nodup [z + 29, z + 30, z + 31] := by simp
theorem rres {z k p : Nat} (hk : k < 8) (h1 : z + 2 + 3 * k ≤ p) (h2 : p < z + 5 + 3 * k) : p ∉ [z + 26, z + 27, z + 28] := by
  simp only [List.mem_cons, List.not_mem_nil, or_false]; omega
theorem rsec {z k p : Nat} (hk : k < 8) (h1 : z + 2 + 3 * k ≤ p) (h2 : p < z + 5 + 3 * k) : p ∉ [z + 29, z + 30, z + 31] := by
  simp only [List.mem_cons, List.not_mem_nil, or_false]; omega
theorem are_no {x y w : Int32} (h : rg x = none ∨ rg y = none ∨ rg w = none) : fX5_areRegisters x y w = some 0 := by
  rw [are_eq, if_neg]
  rintro ⟨h1, h2, h3⟩
  rcases h with q | q | q
  · rw [q] at h1; cases h1
  · rw [q] at h2; cases h2
  · rw [q] at h3; cases h3
theorem are_ok {x y w : Int32} {i j k : Nat} (h1 : rg x = some i) (h2 : rg y = some j) (h3 : rg w = some k) : fX5_areRegisters x y w = some 1 := by
  rw [are_eq, if_pos]
  rw [h1, h2, h3]; exact ⟨rfl, rfl, rfl⟩
def sReckon (R : Nat → Int) (op t a b : Int32) : Int32 × (Nat → Int) := match rg t, rg a, rg b with
  | some k, some i, some j => if op = 0 then sKeep R k (R i + R j) else if op = 1 then sKeep R k (R i - R j) else if op = 2 then sKeep R k (R i * R j) else (-1, R)
  | _, _, _ => (-1, R)
theorem sum_keep {h : hp_H} {z n k i j : Nat} {R : Nat → Int} {T : Nat → Nat} (C : cs h z R T n) (hk : k < 8) (hi : i < 8) (hj : j < 8) {s : Int32} (hs : s = 0 ∨ s = 1) : ∃ h2 h4, fX4_takeSum (z + 26) (z + 2 + 3 * i) (z + 2 + 3 * j) s h = some h2 ∧ fX5_keepResult z (nI k) h2 = some ((sKeep R k (R i + (if s = 0 then ((R j).natAbs : Int) else -((R j).natAbs : Int)))).1, h4) ∧ cs h4 z (sKeep R k (R i + (if s = 0 then ((R j).natAbs : Int) else -((R j).natAbs : Int)))).2 T n := by
  obtain ⟨v, W⟩ := C.2.2.1
  have Ci := C.2.1 i hi
  have Cj := C.2.1 j hj
  obtain ⟨h2, e1, W2, F2⟩ := wsum_eq W Ci.1 Cj.1 (nres z) (rres hi (by omega) (by omega)) (rres hi (by omega) (by omega)) (rres hi (by omega) (by omega)) (rres hj (by omega) (by omega)) (rres hj (by omega) (by omega)) (rres hj (by omega) (by omega)) (by omega) (by omega) hs
  obtain ⟨h4, e2, C4⟩ := keep_eq (cs_res C F2 (wz_q W2)) hk W2
  exact ⟨h2, h4, e1, e2, C4⟩
theorem reckon_eq {h : hp_H} {z n : Nat} {R : Nat → Int} {T : Nat → Nat} (C : cs h z R T n) (op t a b : Int32) : ∃ h', fX5_reckon z op t a b h = some ((sReckon R op t a b).1, h') ∧ cs h' z (sReckon R op t a b).2 T n := by
  unfold fX5_reckon sReckon
  rw [if_pos (cs_o C)]
  rcases rg_cases t with ⟨e1, -⟩ | ⟨k, hk, rfl, e1, -⟩
  · rw [are_no (Or.inl e1), Option.bind_some, if_pos rfl, e1]; exact ⟨h, rfl, C⟩
  rcases rg_cases a with ⟨e2, -⟩ | ⟨i, hi, rfl, e2, -⟩
  · rw [are_no (Or.inr (Or.inl e2)), Option.bind_some, if_pos rfl, e1, e2]; exact ⟨h, rfl, C⟩
  rcases rg_cases b with ⟨e3, -⟩ | ⟨j, hj, rfl, e3, -⟩
  · rw [are_no (Or.inr (Or.inr e3)), Option.bind_some, if_pos rfl, e1, e2, e3]; exact ⟨h, rfl, C⟩
  rw [are_ok e1 e2 e3, Option.bind_some, if_neg (by decide), e1, e2, e3, cs_0 C, Option.bind_some, cs_r C hi, Option.bind_some, Option.bind_some, cs_r C hj, Option.bind_some]
  have Ci := C.2.1 i hi
  have Cj := C.2.1 j hj
  simp only []
  by_cases h0 : op = 0
  · rw [if_pos h0, if_pos h0, cs_1 C, Option.bind_some, wz_s Cj.1, Option.bind_some]
    obtain ⟨h2, h4, q1, q2, q3⟩ := sum_keep C hk hi hj (sI_bo (R j))
    have e4 : R i + (if sI (R j) = 0 then ((R j).natAbs : Int) else -((R j).natAbs : Int)) = R i + R j := by
      by_cases hz : R j < 0
      · rw [if_neg (by rw [sI_0]; omega)]; omega
      · rw [if_pos (by rw [sI_0]; omega)]; omega
    rw [e4] at q2 q3
    rw [q1, Option.bind_some, q2, Option.bind_some]
    exact ⟨h4, rfl, q3⟩
  · rw [if_neg h0, if_neg h0]
    by_cases h1 : op = 1
    · rw [if_pos h1, if_pos h1, cs_1 C, Option.bind_some, wz_s Cj.1, Option.bind_some]
      by_cases hz : R j < 0
      · obtain ⟨h2, h4, q1, q2, q3⟩ := sum_keep C hk hi hj (s := 0) (Or.inl rfl)
        have e4 : R i + (if (0 : Int32) = 0 then ((R j).natAbs : Int) else -((R j).natAbs : Int)) = R i - R j := by rw [if_pos rfl]; omega
        rw [e4] at q2 q3
        rw [if_neg (by rw [sI_0]; omega), bX5_reckon_99, q1, Option.bind_some, q2, Option.bind_some]
        exact ⟨h4, rfl, q3⟩
      · obtain ⟨h2, h4, q1, q2, q3⟩ := sum_keep C hk hi hj (s := 1) (Or.inr rfl)
        have e4 : R i + (if (1 : Int32) = 0 then ((R j).natAbs : Int) else -((R j).natAbs : Int)) = R i - R j := by rw [if_neg (by decide)]; omega
        rw [e4] at q2 q3
        rw [if_pos (by rw [sI_0]; omega), bX5_reckon_99, q1, Option.bind_some, q2, Option.bind_some]
        exact ⟨h4, rfl, q3⟩
    · rw [if_neg h1, if_neg h1]
      by_cases h2 : op = 2
      · rw [if_pos h2, if_pos h2, cs_1 C, Option.bind_some]
        obtain ⟨v, W⟩ := C.2.2.1
        have P := wprod_eq W Ci.1 Cj.1 (nres z) (rres hi (by omega) (by omega)) (rres hi (by omega) (by omega)) (rres hi (by omega) (by omega)) (rres hj (by omega) (by omega)) (rres hj (by omega) (by omega)) (rres hj (by omega) (by omega))
        by_cases hb : bl (R i).natAbs + bl (R j).natAbs ≤ 4097
        · obtain ⟨h33, p1, W33, F33⟩ := P.1 hb
          obtain ⟨h38, p2, C38⟩ := keep_eq (cs_res C F33 (wz_q W33)) hk W33
          rw [p1, Option.bind_some]
          simp only []
          rw [if_neg (by decide), p2, Option.bind_some]
          exact ⟨h38, rfl, C38⟩
        · rw [P.2 hb, Option.bind_some]
          have hbig : ¬ bl (R i * R j).natAbs ≤ 4096 := by
            rw [bl_le, Int.natAbs_mul]
            have l1 : 0 < bl (R i).natAbs := by have := Cj.2; omega
            have l2 : 0 < bl (R j).natAbs := by have := Ci.2; omega
            have g1 : 2 ^ (bl (R i).natAbs - 1) ≤ (R i).natAbs := bl_lt.mp (by omega)
            have g2 : 2 ^ (bl (R j).natAbs - 1) ≤ (R j).natAbs := bl_lt.mp (by omega)
            have g3 := Nat.mul_le_mul g1 g2
            rw [← Nat.pow_add] at g3
            have g4 : 2 ^ 4096 ≤ 2 ^ (bl (R i).natAbs - 1 + (bl (R j).natAbs - 1)) := Nat.pow_le_pow_right (by decide) (by omega)
            exact Nat.not_lt.mpr (Nat.le_trans g4 g3)
          simp only [if_true]
          unfold sKeep
          rw [if_neg hbig]
          exact ⟨h, rfl, C⟩
      · rw [if_neg h2, if_neg h2]; exact ⟨h, rfl, C⟩
def sGcd (R : Nat → Int) (t a b : Int32) : Int32 × (Nat → Int) := match rg t, rg a, rg b with
  | some k, some i, some j => sKeep R k (Nat.gcd (R i).natAbs (R j).natAbs : Nat)
  | _, _, _ => (-1, R)
theorem neuc (z : Nat) : List.Nodup ([z + 39, z + 40, z + 41, z + 42, z + 43] ++ [z + 32, z + 33, z + 34, z + 35, z + 36, z + 37, z + 38]) := by simp
theorem neuc2 (z : Nat) : List.Nodup ([z + 39, z + 42, z + 43, z + 40, z + 41] ++ [z + 32, z + 33, z + 34, z + 35, z + 36, z + 37, z + 38]) := by simp
/-- the division and Euclid have worked -/
theorem cs_euc {h h' : hp_H} {z n : Nat} {R : Nat → Int} {T : Nat → Nat} {l : List Nat} (C : cs h z R T n) (F : fs h h' l) (h0 : ∀ p, p ∈ l → z + 33 ≤ p ∧ p < z + 44) (D : dn h' (z + 32) (z + 33) (z + 34) (z + 35) (z + 36) (z + 37) (z + 38)) (E : ce h' z) : cs h' z R T n := by
  obtain ⟨c0, c1, c2, c3, c4, c5, c6⟩ := C
  have out : ∀ p, (p < z + 33 ∨ z + 44 ≤ p) → p ∉ l := fun p hp hm => by have := h0 p hm; omega
  exact ⟨cs0_fs c0 F (out _ (by omega)) (out _ (by omega)), csr_fs c1 F (fun p q1 q2 => out p (by omega)), wq_fs' c2 F (out _ (by omega)) (out _ (by omega)) (out _ (by omega)), wq_fs' c3 F (out _ (by omega)) (out _ (by omega)) (out _ (by omega)), D, E, tx_fs c6 F (out _ (by omega)) (out _ (by omega))⟩
theorem gcdc_eq {h : hp_H} {z n : Nat} {R : Nat → Int} {T : Nat → Nat} (C : cs h z R T n) (t a b : Int32) : ∃ h', fX5_gcd z t a b h = some ((sGcd R t a b).1, h') ∧ cs h' z (sGcd R t a b).2 T n := by
  unfold fX5_gcd sGcd
  rw [if_pos (cs_o C)]
  rcases rg_cases t with ⟨e1, -⟩ | ⟨k, hk, rfl, e1, -⟩
  · rw [are_no (Or.inl e1), Option.bind_some, if_pos rfl, e1]; exact ⟨h, rfl, C⟩
  rcases rg_cases a with ⟨e2, -⟩ | ⟨i, hi, rfl, e2, -⟩
  · rw [are_no (Or.inr (Or.inl e2)), Option.bind_some, if_pos rfl, e1, e2]; exact ⟨h, rfl, C⟩
  rcases rg_cases b with ⟨e3, -⟩ | ⟨j, hj, rfl, e3, -⟩
  · rw [are_no (Or.inr (Or.inr e3)), Option.bind_some, if_pos rfl, e1, e2, e3]; exact ⟨h, rfl, C⟩
  have Ci := C.2.1 i hi
  have Cj := C.2.1 j hj
  obtain ⟨v, W⟩ := C.2.2.1
  rw [are_ok e1 e2 e3, Option.bind_some, if_neg (by decide), e1, e2, e3, cs_1 C, Option.bind_some, wq_a W, Option.bind_some, cs_4 C, Option.bind_some, cs_0 C, Option.bind_some, cs_r C hi, Option.bind_some, wq_a (wz_q Ci.1), Option.bind_some, Option.bind_some, cs_r C hj, Option.bind_some, wq_a (wz_q Cj.1), Option.bind_some, cs_3 C, Option.bind_some]
  obtain ⟨gr, gb, le, lb, a1, b1, c1, d1, wg, wl, E, G, L, hh⟩ := C.2.2.2.2.2.1
  have hN : List.Nodup ([z + 39, gr, gb, le, lb] ++ [z + 32, z + 33, z + 34, z + 35, z + 36, z + 37, z + 38]) := by
    rcases hh with ⟨rfl, rfl, rfl, rfl⟩ | ⟨rfl, rfl, rfl, rfl⟩
    · exact neuc z
    · exact neuc2 z
  have out : ∀ p, p < z + 39 → p ∉ [z + 39, gr, gb, le, lb] := fun p hp => by
    simp only [List.mem_cons, List.not_mem_nil, or_false]
    rcases hh with ⟨rfl, rfl, rfl, rfl⟩ | ⟨rfl, rfl, rfl, rfl⟩ <;> omega
  obtain ⟨h23, g2, gb2, l2, lb2, a2, b2, c2, d2, w2, q1, q2, q3, q4, q5, q6, q7⟩ := gcd_eq E C.2.2.2.2.1 G L Ci.1.2 Cj.1.2 Ci.2 Cj.2 hN (out _ (by omega)) (out _ (by omega)) (out _ (by omega)) (out _ (by omega))
  have hg2 : (g2 = z + 40 ∧ gb2 = z + 41 ∧ l2 = z + 42 ∧ lb2 = z + 43) ∨ (g2 = z + 42 ∧ gb2 = z + 43 ∧ l2 = z + 40 ∧ lb2 = z + 41) := by
    rcases hh with ⟨rfl, rfl, rfl, rfl⟩ | ⟨rfl, rfl, rfl, rfl⟩ <;> rcases q7 with ⟨rfl, rfl, rfl, rfl⟩ | ⟨rfl, rfl, rfl, rfl⟩ <;> simp
  have hl : ∀ p, p ∈ [z + 39, gr, gb, le, lb, z + 33, z + 34, z + 35, z + 36, z + 37, z + 38] → z + 33 ≤ p ∧ p < z + 44 := fun p hp => by
    simp only [List.mem_cons, List.not_mem_nil, or_false] at hp
    rcases hh with ⟨rfl, rfl, rfl, rfl⟩ | ⟨rfl, rfl, rfl, rfl⟩ <;> omega
  have C23 := cs_euc C q6 hl q3 ⟨g2, gb2, l2, lb2, a2, b2, c2, d2, _, _, q2, q4, q5, hg2⟩
  rw [q1, Option.bind_some]
  simp only []
  obtain ⟨v23, W23⟩ := C23.2.2.1
  obtain ⟨cc, gg, Tr⟩ := nv_nr W23.2
  obtain ⟨h27, r1, V27, F27⟩ := take_eq Tr q4 (by rcases hg2 with ⟨rfl, rfl, -, -⟩ | ⟨rfl, rfl, -, -⟩ <;> omega) (by rcases hg2 with ⟨rfl, rfl, -, -⟩ | ⟨rfl, rfl, -, -⟩ <;> omega) (by rcases hg2 with ⟨rfl, rfl, -, -⟩ | ⟨rfl, rfl, -, -⟩ <;> omega) (by rcases hg2 with ⟨rfl, rfl, -, -⟩ | ⟨rfl, rfl, -, -⟩ <;> omega)
  have W27 := wq_fr W23 F27 (by omega) (by omega) V27
  have F27s : fs h23 h27 [z + 26, z + 27, z + 28] := F27.fs (by simp) (by simp)
  have C27 := cs_res C23 F27s W27
  obtain ⟨h31, r2, W31, F31⟩ := takeSign_eq W27 (nres z) (s := 0) (Or.inl rfl)
  have C31 := cs_res C27 F31 (wz_q W31)
  obtain ⟨h33, r3, C33⟩ := keep_eq C31 hk W31
  rw [r1, Option.bind_some, cs_1 C27, Option.bind_some, r2, Option.bind_some, r3, Option.bind_some]
  exact ⟨h33, rfl, C33⟩
