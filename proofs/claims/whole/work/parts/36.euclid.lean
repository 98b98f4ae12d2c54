/-! Euclid: the steps taken; the greatest common divisor -/
theorem es_fr {h h' : hp_H} {e gr le p q : Nat} {a b c d : Int} (E : es h e gr le a b c d) (F : fr h h' p q) (h1 : e ≠ p) (h2 : e ≠ q) : es h' e gr le a b c d := (F e h1 h2).trans E
theorem sm_mul {a x : Int} (ha : sm a) (h0 : 0 ≤ x) (hx : x < 1073741824) : -1152921504606846976 ≤ a * x ∧ a * x ≤ 1152921504606846976 := by
  obtain ⟨h1, h2⟩ := ha
  have u := Int.mul_le_mul_of_nonneg_right h2 h0
  have l := Int.mul_le_mul_of_nonneg_right h1 h0
  omega
theorem tf_step {G G1 G2 P r x y : Nat} {a b f q : Int} (h : (G : Int) + f * (P : Int) = a * G1 + b * G2) (hr : (r : Int) + 1073741824 * q = f + (a * x + b * y)) : ((G + r * P : Nat) : Int) + q * ((P * 1073741824 : Nat) : Int) = a * ((G1 + x * P : Nat) : Int) + b * ((G2 + y * P : Nat) : Int) := by
  have e3 : ((r : Int) + 1073741824 * q) * P = (f + (a * x + b * y)) * P := by rw [hr]
  simp only [Int.natCast_add, Int.natCast_mul, Int.cast_ofNat_Int]
  grind
theorem tf_loop {e gr gb le lb cg cl size : Nat} {a b c d : Int} {g1 g2 : Nat → Nat} (sa : sm a) (sb : sm b) (sc : sm c) (sd : sm d) (N : List.Nodup [e, gr, gb, le, lb]) (hs : size ≤ 140) (hg1 : ∀ i, i < size → g1 i < 1073741824) (hg2 : ∀ i, i < size → g2 i < 1073741824) :
    ∀ (k j n : Nat) (f1 f2 : Int) (u w : Nat → Nat) (h : hp_H), size - j = k → j ≤ size → k < n → -4294967296 ≤ f1 ∧ f1 ≤ 4294967296 → -4294967296 ≤ f2 ∧ f2 ≤ 4294967296 → es h e gr le a b c d → nr h gr gb cg u → nr h le lb cl w → (∀ i, i < j → u i < 1073741824) → (∀ i, i < j → w i < 1073741824) → (∀ i, j ≤ i → u i = g1 i) → (∀ i, j ≤ i → w i = g2 i) →
    (vl 1073741824 u j : Int) + f1 * ((1073741824 ^ j : Nat) : Int) = a * vl 1073741824 g1 j + b * vl 1073741824 g2 j → (vl 1073741824 w j : Int) + f2 * ((1073741824 ^ j : Nat) : Int) = c * vl 1073741824 g1 j + d * vl 1073741824 g2 j →
    ∃ h' u' w' f1' f2', bX0_takeForeseenSteps_24 e (nI size) n (lI f1) (lI f2) (nI j) h = some h' ∧ es h' e gr le a b c d ∧ nt h' gr gb (tr u' size) u' ∧ nt h' le lb (tr w' size) w' ∧ fs h h' [gr, gb, le, lb] ∧ (∀ i, i < size → u' i < 1073741824) ∧ (∀ i, i < size → w' i < 1073741824) ∧
      (vl 1073741824 u' size : Int) + f1' * ((1073741824 ^ size : Nat) : Int) = a * vl 1073741824 g1 size + b * vl 1073741824 g2 size ∧ (vl 1073741824 w' size : Int) + f2' * ((1073741824 ^ size : Nat) : Int) = c * vl 1073741824 g1 size + d * vl 1073741824 g2 size := by
  intro k
  induction k with
  | zero =>
    intro j n f1 f2 u w h hk hj hn hf1 hf2 E G L lu lw eu ew v1 v2
    obtain ⟨m, rfl⟩ : ∃ m, n = m + 1 := ⟨n - 1, by omega⟩
    obtain rfl : j = size := by omega
    rw [bX0_takeForeseenSteps_24, if_pos ((nI_leI (by omega) (by omega)).mpr (Nat.le_refl _)), es_g E, Option.bind_some]
    obtain ⟨h5, e1, G5, F5⟩ := trim_eq G hs lu
    have E5 := es_fr E F5 (nd N 0 1) (nd N 0 1)
    have L5 := nr_fr L F5 (nd N 3 1) (nd N 3 1) (nd N 4 1) (nd N 4 1)
    obtain ⟨h9, e2, L9, F9⟩ := trim_eq L5 hs lw
    rw [e1, Option.bind_some, es_l E5, Option.bind_some, e2, Option.bind_some]
    exact ⟨h9, u, w, f1, f2, rfl, es_fr E5 F9 (nd N 0 3) (nd N 0 3), nt_fr G5 F9 (nd N 1 3) (nd N 1 3) (nd N 2 3) (nd N 2 3), L9, (F5.fs (by simp) (by simp)).tr (F9.fs (by simp) (by simp)), lu, lw, v1, v2⟩
  | succ k ih =>
    intro j n f1 f2 u w h hk hj hn hf1 hf2 E G L lu lw eu ew v1 v2
    obtain ⟨m, rfl⟩ : ∃ m, n = m + 1 := ⟨n - 1, by omega⟩
    have x1 := hg1 j (by omega)
    have y1 := hg2 j (by omega)
    have xe := eu j (Nat.le_refl _)
    have ye := ew j (Nat.le_refl _)
    rw [bX0_takeForeseenSteps_24, if_neg (fun q => by have := (nI_leI (by omega) (by omega)).mp q; omega), es_g E, Option.bind_some, nr_l G, Option.bind_some, nr_rd G (by omega), Option.bind_some, nI_l (by omega), Option.bind_some, es_l E, Option.bind_some, nr_l L, Option.bind_some, nr_rd L (by omega), Option.bind_some, nI_l (by omega), Option.bind_some, es_a E, Option.bind_some, es_b E, Option.bind_some, lN_lI, lN_lI, lI_mul, lI_mul, lI_add, lI_add, Option.bind_some, es_c E, Option.bind_some, es_d E, Option.bind_some, lI_mul, lI_mul, lI_add, lI_add, Option.bind_some, Option.bind_some, nr_l G, Option.bind_some, lI_i, iI_mask]
    have m1 := sm_mul sa (x := (u j : Int)) (by omega) (by omega)
    have m2 := sm_mul sb (x := (w j : Int)) (by omega) (by omega)
    have m3 := sm_mul sc (x := (u j : Int)) (by omega) (by omega)
    have m4 := sm_mul sd (x := (w j : Int)) (by omega) (by omega)
    obtain ⟨h42, e1, G', F1⟩ := nr_wr G (i := j) (x := ((f1 + (a * (u j : Int) + b * (w j : Int))) % 1073741824).toNat) (by omega)
    have E1 := es_fr E F1 (nd N 0 2) (nd N 0 2)
    have L1 := nr_fr L F1 (nd N 3 2) (nd N 3 2) (nd N 4 2) (nd N 4 2)
    rw [e1, Option.bind_some, es_l E1, Option.bind_some, nr_l L1, Option.bind_some, lI_i, iI_mask]
    obtain ⟨h48, e2, L', F2⟩ := nr_wr L1 (i := j) (x := ((f2 + (c * (u j : Int) + d * (w j : Int))) % 1073741824).toNat) (by omega)
    rw [e2, Option.bind_some, lI_shr _ (by omega) (by omega), Option.bind_some, lI_shr _ (by omega) (by omega), Option.bind_some, Option.bind_some, nI_1]
    have s1 := tf_step (r := ((f1 + (a * (u j : Int) + b * (w j : Int))) % 1073741824).toNat) (x := u j) (y := w j) (q := (f1 + (a * (u j : Int) + b * (w j : Int))) / 1073741824) v1 (by omega)
    have s2 := tf_step (r := ((f2 + (c * (u j : Int) + d * (w j : Int))) % 1073741824).toNat) (x := u j) (y := w j) (q := (f2 + (c * (u j : Int) + d * (w j : Int))) / 1073741824) v2 (by omega)
    obtain ⟨h', u', w', f1', f2', r1, r2, r3, r4, r5, r6⟩ := ih (j + 1) m ((f1 + (a * (u j : Int) + b * (w j : Int))) / 1073741824) ((f2 + (c * (u j : Int) + d * (w j : Int))) / 1073741824) _ _ h48 (by omega) (by omega) (by omega) (by omega) (by omega) (es_fr E1 F2 (nd N 0 4) (nd N 0 4)) (nr_fr G' F2 (nd N 1 4) (nd N 1 4) (nd N 2 4) (nd N 2 4)) L' (fun i hi => by
        by_cases hij : i = j
        · subst hij; rw [va_up_self]; omega
        · rw [va_up_ne _ _ hij]; exact lu i (by omega)) (fun i hi => by
        by_cases hij : i = j
        · subst hij; rw [va_up_self]; omega
        · rw [va_up_ne _ _ hij]; exact lw i (by omega)) (fun i hi => by rw [va_up_ne _ _ (by omega)]; exact eu i (by omega)) (fun i hi => by rw [va_up_ne _ _ (by omega)]; exact ew i (by omega)) (by
        rw [vl, vl, vl, va_up_self, vl_upd_ge (Nat.le_refl j), Nat.pow_succ, ← xe, ← ye]; exact s1) (by
        rw [vl, vl, vl, va_up_self, vl_upd_ge (Nat.le_refl j), Nat.pow_succ, ← xe, ← ye]; exact s2)
    exact ⟨h', u', w', f1', f2', r1, r2, r3, r4, ((F1.fs (l := [gr, gb, le, lb]) (by simp) (by simp)).tr (F2.fs (by simp) (by simp))).tr r5, r6⟩
theorem tf_end {G U : Nat} {f P : Int} (h0 : (G : Int) < P) (h1 : (U : Int) < P) (he : (G : Int) + f * P = U) : G = U := by
  have hP : 0 < P := by omega
  have : f = 0 := by
    rcases Int.lt_or_le f 0 with q | q
    · exfalso
      have : f * P ≤ (-1) * P := Int.mul_le_mul_of_nonneg_right (by omega) (by omega)
      omega
    · rcases Int.lt_or_le 0 f with z | z
      · exfalso
        have : 1 * P ≤ f * P := Int.mul_le_mul_of_nonneg_right (by omega) (by omega)
        omega
      · omega
  subst this
  omega
theorem foreseen_eq {h : hp_H} {e gr gb le lb X Y : Nat} {a b c d : Int} (E : es h e gr le a b c d) (G : nv h gr gb X) (L : nv h le lb Y) (hYX : Y ≤ X) (N : List.Nodup [e, gr, gb, le, lb]) (sa : sm a) (sb : sm b) (sc : sm c) (sd : sm d) (hw : fw X Y a b c d) :
    ∃ h' U V, fX0_takeForeseenSteps e h = some h' ∧ es h' e gr le a b c d ∧ nv h' gr gb U ∧ nv h' le lb V ∧ V ≤ U ∧ Nat.gcd U V = Nat.gcd X Y ∧ bl U + bl V < bl X + bl Y ∧ U ≤ X ∧ fs h h' [gr, gb, le, lb] := by
  obtain ⟨U, V, hU, hV, hVU, hg, hbl, hUX⟩ := hw
  obtain ⟨c1, g1, G, eX⟩ := G
  obtain ⟨c2, g2, L, eY⟩ := L
  have hc1 := G.2.1
  have hc2 := L.2.1
  have hcc : c2 ≤ c1 := by
    rcases Nat.lt_or_ge c1 c2 with q | q
    · have := nt_cnt_lt G L q; omega
    · exact q
  obtain ⟨h8, g3, e1, L8, F8, p1, p2⟩ := padTo_eq L.1 hc2 (size := c1) hc1
  have E8 := es_fr E F8 (nd N 0 4) (nd N 0 4)
  have G8 := nt_fr G F8 (nd N 1 4) (nd N 1 4) (nd N 2 4) (nd N 2 4)
  have eY3 : vl 1073741824 g3 c1 = Y := by
    rw [vl_up hcc (fun i h1 h2 => p2 i h1 h2), vl_congr (g' := g2) (fun i hi => p1 i hi), eY]
  obtain ⟨h', u', w', f1, f2, r1, r2, r3, r4, r5, r6, r7, r8, r9⟩ := tf_loop (cg := c1) (cl := c2) (g1 := g1) (g2 := g3) sa sb sc sd N hc1 G.2.2.1 (fun i hi => by
    by_cases h1 : i < c2
    · rw [p1 i h1]; exact L.2.2.1 i h1
    · rw [p2 i (by omega) hi]; decide) c1 0 hp_n 0 0 g1 g3 h8 (by omega) (by omega) (by unfold hp_n; omega) (by omega) (by omega) E8 G8.1 L8 (fun i hi => by omega) (fun i hi => by omega) (fun _ _ => rfl) (fun _ _ => rfl) (by simp [vl]) (by simp [vl])
  have lX := vl_lt G.2.2.1
  have l1 := vl_lt r6
  have l2 := vl_lt r7
  rw [eX, eY3, ← hU] at r8
  rw [eX, eY3, ← hV] at r9
  rw [eX] at lX
  have t1 := tf_end (P := ((1073741824 ^ c1 : Nat) : Int)) (by omega) (by omega) r8
  have t2 := tf_end (P := ((1073741824 ^ c1 : Nat) : Int)) (by omega) (by omega) r9
  refine ⟨h', U, V, ?_, r2, ⟨_, _, r3, by rw [vl_tr]; exact t1⟩, ⟨_, _, r4, by rw [vl_tr]; exact t2⟩, hVU, hg, hbl, hUX, (F8.fs (by simp) (by simp)).tr r5⟩
  unfold fX0_takeForeseenSteps
  rw [if_pos (es_o E), es_g E, Option.bind_some, nr_c G.1, Option.bind_some, es_l E, Option.bind_some, e1, Option.bind_some]
  exact r1
