/-! Natural: shifting down; a small factor, a small divisor; zeros above -/
theorem iI_max0 {z : Int} (h1 : -2147483648 ≤ z) (h2 : z < 2147483648) : hp_max (iI z) 0 = nI z.toNat := by
  unfold hp_max
  rw [show (0 : Int32) = iI 0 from rfl]
  by_cases h : z < 0
  · rw [if_pos ((iI_lt h1 h2 (by omega) (by omega)).mpr h), nI_iI]; congr 1; omega
  · rw [if_neg (fun q => h ((iI_lt h1 h2 (by omega) (by omega)).mp q)), nI_iI]; congr 1; omega
theorem shiftDown_raw {h : hp_H} {a b c x bx c1 n : Nat} {g g1 : Nat → Nat} (T : nr h a b c g) (X : nr h x bx c1 g1) (hc1 : c1 ≤ 140) (hg1 : ∀ i, i < c1 → g1 i < 1073741824) (hn : n ≤ 4200) (n1 : (x ≠ b ∧ bx ≠ b) ∨ (x = a ∧ bx = b)) :
    ∃ h', fX2_shiftDown a x (nI n) h = some h' ∧ nv h' a b (vl 1073741824 g1 c1 / 2 ^ n) ∧ fr h h' a b := by
  obtain ⟨h', g', q1, q2, q3, q4⟩ := down_loop (a := a) (b := b) (x := x) (size := c1 - n / 30) (n0 := n) (v := vl 1073741824 g1 c1) (by omega) hn (c1 - n / 30) 0 hp_n c g h (by omega) (by omega) (by unfold hp_n; omega) T (fun i hi => by omega) (fun j h1 g2 j1 j2 j3 j4 j5 => by
    rcases n1 with ⟨m1, m2⟩ | ⟨m1, m2⟩
    · exact limbFrom_raw (nr_fr X j4 m1 m1 m2 m2) hc1 hg1 (by omega)
    · subst m1; subst m2
      have ec : nI c = nI c1 := by
        have := T.2.1.symm.trans X.2.1
        simpa using this
      have eg : (fun i => nI (g i)) = fun i => nI (g1 i) := by
        have := T.2.2.symm.trans X.2.2
        simpa using this
      have T3 : nr h1 x bx c1 (fun i => if j ≤ i then g1 i else g2 i) := ⟨j3.1, by rw [j3.2.1, ec], by
        rw [j3.2.2]
        congr 4
        funext i
        by_cases hij : j ≤ i
        · show nI (g2 i) = nI (if j ≤ i then g1 i else g2 i)
          rw [if_pos hij, j5 i hij]; exact congrFun eg i
        · show nI (g2 i) = nI (if j ≤ i then g1 i else g2 i)
          rw [if_neg hij]⟩
      exact limbFrom_src (c0 := 0) (j := j) T3 hc1 hg1 rfl (fun i hi => by simp [hi]) (by omega) (by omega))
  refine ⟨h', ?_, ⟨_, g', q2, ?_⟩, q3⟩
  · unfold fX2_shiftDown
    rw [if_pos (nr_o T), nr_c X, Option.bind_some, ni30, pk_div (by omega) (by omega) (by omega), nI_iI c1, nI_iI (n / 30), iI_sub, iI_max0 (by omega) (by omega), Option.bind_some, show ((c1 : Int) - ((n / 30 : Nat) : Int)).toNat = c1 - n / 30 by omega]
    exact q1
  · rw [vl_tr, vl_congr (g' := fun i => (vl 1073741824 g1 c1 / 2 ^ n) / 1073741824 ^ i % 1073741824) (fun i hi => by
      rw [q4 i hi, Nat.div_div_eq_div_mul, p30, ← Nat.pow_add, Nat.add_comm n]), vl_of_digits]
    apply Nat.mod_eq_of_lt
    rw [Nat.div_lt_iff_lt_mul (Nat.two_pow_pos n), p30, ← Nat.pow_add]
    have h1 := vl_lt hg1
    rw [p30] at h1
    exact Nat.lt_of_lt_of_le h1 (Nat.pow_le_pow_right (by decide) (by omega))
theorem shiftDown_eq {h : hp_H} {a b c x bx v n : Nat} {g : Nat → Nat} (T : nr h a b c g) (X : nv h x bx v) (hn : n ≤ 4200) (n1 : (x ≠ b ∧ bx ≠ b) ∨ (x = a ∧ bx = b)) :
    ∃ h', fX2_shiftDown a x (nI n) h = some h' ∧ nv h' a b (v / 2 ^ n) ∧ fr h h' a b := by
  obtain ⟨c1, g1, X, rfl⟩ := X
  exact shiftDown_raw T X.1 X.2.1 X.2.2.1 hn n1
/-! times a factor, and more -/
theorem tp_step {G V P r q cy d f ad : Nat} (h : G + cy * P = f * V + ad) (hr : r + 1073741824 * q = f * d + cy) : G + r * P + q * (P * 1073741824) = f * (V + d * P) + ad := by
  have e3 : (r + 1073741824 * q) * P = (f * d + cy) * P := by rw [hr]
  grind
theorem tp_loop {a b c f ad : Nat} {g0 : Nat → Nat} (hc : c ≤ 139) (hf : f < 1073741824) (hg0 : ∀ i, i < c → g0 i < 1073741824) : ∀ (d k n cy : Nat) (g : Nat → Nat) (h : hp_H), c - k = d → k ≤ c → d < n → cy < 1073741824 → nr h a b c g → (∀ i, i < k → g i < 1073741824) → (∀ i, k ≤ i → g i = g0 i) → vl 1073741824 g k + cy * 1073741824 ^ k = f * vl 1073741824 g0 k + ad →
    ∃ h', bX2_timesPlus_6 a (nI f) n (lN cy) (nI k) h = some h' ∧ nv h' a b (f * vl 1073741824 g0 c + ad) ∧ fr h h' a b := by
  intro d
  induction d with
  | zero =>
    intro k n cy g h hd hk hn hcy T hg he hv
    obtain ⟨m, rfl⟩ : ∃ m, n = m + 1 := ⟨n - 1, by omega⟩
    obtain rfl : k = c := by omega
    rw [bX2_timesPlus_6, nr_c T, Option.bind_some, if_pos ((nI_leI (by omega) (by omega)).mpr (Nat.le_refl _)), Option.bind_some, ni140, if_neg (fun q => by have := (nI_leI (by omega) (by omega)).mp q; omega), nr_l T, Option.bind_some, Option.bind_some, lN_i]
    obtain ⟨h11, e1, T', F⟩ := nr_wr T (i := k) (x := cy) (by omega)
    rw [e1, Option.bind_some, nr_c T', Option.bind_some, nI_1]
    obtain ⟨h', e2, T2, F2⟩ := trim_eq T' (k := k + 1) (by omega) (fun i hi => by
      by_cases hik : i = k
      · subst hik; rw [va_up_self]; exact hcy
      · rw [va_up_ne _ _ hik]; exact hg i (by omega))
    rw [e2, Option.bind_some]
    refine ⟨h', rfl, ⟨_, _, T2, ?_⟩, F.r.tr F2.l⟩
    rw [vl_tr, vl, va_up_self, vl_upd_ge (Nat.le_refl _)]
    exact hv
  | succ d ih =>
    intro k n cy g h hd hk hn hcy T hg he hv
    obtain ⟨m, rfl⟩ : ∃ m, n = m + 1 := ⟨n - 1, by omega⟩
    have h1 := hg0 k (by omega)
    have h3 := he k (Nat.le_refl _)
    have h4 : f * g k ≤ 1073741823 * 1073741823 := Nat.mul_le_mul (by omega) (by omega)
    rw [bX2_timesPlus_6, nr_c T, Option.bind_some, if_neg (fun q => by have := (nI_leI (by omega) (by omega)).mp q; omega), nr_l T, Option.bind_some, nr_rd T (by omega), Option.bind_some, nI_l (by omega), nI_l (by omega), lN_mul, lN_add, Option.bind_some, Option.bind_some, lN_i, nI_mk]
    obtain ⟨h25, e1, T', F⟩ := nr_wr T (i := k) (x := (f * g k + cy) % 1073741824) (by omega)
    rw [e1, Option.bind_some, lN_us (by omega), Option.bind_some, Option.bind_some, nI_1]
    obtain ⟨h', q1, q2, q3⟩ := ih (k + 1) m ((f * g k + cy) / 1073741824) _ h25 (by omega) (by omega) (by omega) (by omega) T' (fun i hi => by
        by_cases hik : i = k
        · subst hik; rw [va_up_self]; omega
        · rw [va_up_ne _ _ hik]; exact hg i (by omega)) (fun i hi => by rw [va_up_ne _ _ (by omega)]; exact he i (by omega)) (by
        rw [vl, vl, va_up_self, vl_upd_ge (Nat.le_refl k), Nat.pow_succ]
        exact tp_step hv (by rw [h3]; omega))
    exact ⟨h', q1, q2, F.r.tr q3⟩
theorem timesPlus_eq {h : hp_H} {a b v f ad : Nat} (X : nv h a b v) (hv : bl v ≤ 4170) (hf : f < 1073741824) (had : ad < 1073741824) : ∃ h', fX2_timesPlus a (nI f) (nI ad) h = some h' ∧ nv h' a b (f * v + ad) ∧ fr h h' a b := by
  obtain ⟨c, g, X, rfl⟩ := X
  have hc := nt_cle X (k := 139) hv
  unfold fX2_timesPlus
  rw [if_pos (nr_o X.1), nI_l (by omega), Option.bind_some]
  exact tp_loop hc hf X.2.2.1 c 0 hp_n ad g h (by omega) (by omega) (by unfold hp_n; omega) had X.1 (fun i hi => by omega) (fun _ _ => rfl) (by simp [vl])
/-! by a small divisor -/
theorem lN_or30 {r x : Nat} (hr : r < 1073741824) (hx : x < 1073741824) : hp_lshl (lN r) 30 ||| lN x = lN (r * 1073741824 + x) := by
  rw [lN_sl, wb_or (by omega) (by omega)]
  congr 1
  rw [Nat.mul_comm r]
  exact (Nat.two_pow_add_eq_or_of_lt (i := 30) hx r).symm
theorem cb_step {A G dv x y r r' : Nat} (h : A = dv * G + r) (hd : r * 1073741824 + x = dv * y + r') : x + 1073741824 * A = dv * (y + 1073741824 * G) + r' := by
  subst h; grind
theorem cb_loop {a b c dv : Nat} {g0 : Nat → Nat} (hc : c ≤ 140) (hd0 : 0 < dv) (hdv : dv < 1073741824) (hg0 : ∀ i, i < c → g0 i < 1073741824) : ∀ (k n r : Nat) (g : Nat → Nat) (h : hp_H), k ≤ c → k < n → r < dv → nr h a b c g → (∀ i, i < c → g i < 1073741824) → (∀ i, i < k → g i = g0 i) → vl 1073741824 (fun i => g0 (k + i)) (c - k) = dv * vl 1073741824 (fun i => g (k + i)) (c - k) + r →
    ∃ h', bX2_cutBy_17 a (nI dv) n (lN r) (iI ((k : Int) - 1)) h = some (nI (vl 1073741824 g0 c % dv), h') ∧ nv h' a b (vl 1073741824 g0 c / dv) ∧ fr h h' a b := by
  intro k
  induction k with
  | zero =>
    intro n r g h hk hn hr T hg he hv
    obtain ⟨m, rfl⟩ : ∃ m, n = m + 1 := ⟨n - 1, by omega⟩
    simp only [Nat.zero_add, Nat.sub_zero] at hv
    rw [bX2_cutBy_17, if_pos (by decide), nr_c T, Option.bind_some]
    obtain ⟨h', e1, T', F⟩ := trim_eq T hc hg
    rw [e1, Option.bind_some, lN_i]
    have e2 : vl 1073741824 g0 c % dv = r := by rw [hv, Nat.mul_add_mod, Nat.mod_eq_of_lt hr]
    have e3 : vl 1073741824 g0 c / dv = vl 1073741824 g c := by rw [hv, Nat.mul_add_div hd0, Nat.div_eq_of_lt hr, Nat.add_zero]
    rw [e2, e3]
    exact ⟨h', rfl, ⟨_, g, T', vl_tr _ _ _⟩, F.l⟩
  | succ k ih =>
    intro n r g h hk hn hr T hg he hv
    obtain ⟨m, rfl⟩ : ∃ m, n = m + 1 := ⟨n - 1, by omega⟩
    have e1 : iI (((k + 1 : Nat) : Int) - 1) = nI k := by rw [nI_iI]; congr 1; omega
    have e9 : nI k + (-1 : Int32) = iI ((k : Int) - 1) := by rw [nI_iI, show (-1 : Int32) = iI (-1) from rfl, iI_add]; rfl
    have h1 := hg k (by omega)
    have ne : ¬ lN dv = 0 := by
      rw [show (0 : Int64) = lN 0 from rfl, pk_lEQ (by omega) (by omega)]; omega
    have hD : (r * 1073741824 + g k) / dv < 1073741824 := by
      rw [Nat.div_lt_iff_lt_mul hd0]
      have : (r + 1) * 1073741824 ≤ dv * 1073741824 := Nat.mul_le_mul_right _ hr
      rw [Nat.mul_comm 1073741824]
      omega
    rw [e1, bX2_cutBy_17, if_neg (nI_lt0 (by omega)), nr_l T, Option.bind_some, nr_rd T (by omega), Option.bind_some, nI_l (by omega), lN_or30 (by omega) h1, Option.bind_some, Option.bind_some, nI_l (by omega), if_pos ne, pk_lDiv (by omega) (by omega) (by omega), lN_i]
    obtain ⟨h15, e2, T', F⟩ := nr_wr T (i := k) (x := (r * 1073741824 + g k) / dv) (by omega)
    rw [e2, Option.bind_some, if_pos ne]
    unfold hp_lrem
    rw [pk_lRem (by omega) (by omega) (by omega), Option.bind_some, Option.bind_some, e9]
    have gk := he k (by omega)
    obtain ⟨h', q1, q2, q3⟩ := ih m ((r * 1073741824 + g k) % dv) _ h15 (by omega) (by omega) (Nat.mod_lt _ hd0) T' (fun i hi => by
        by_cases hik : i = k
        · subst hik; rw [va_up_self]; exact hD
        · rw [va_up_ne _ _ hik]; exact hg i hi) (fun i hi => by rw [va_up_ne _ _ (by omega)]; exact he i (by omega)) (by
        rw [show c - k = (c - (k + 1)) + 1 by omega, vl_head, vl_head]
        simp only [Nat.add_zero, va_up_self]
        rw [vl_congr (g := fun i => g0 (k + (i + 1))) (g' := fun i => g0 (k + 1 + i)) (fun i _ => by congr 1; omega), vl_congr (g := fun i => va_up g k ((r * 1073741824 + g k) / dv) (k + (i + 1))) (g' := fun i => g (k + 1 + i)) (fun i _ => by rw [va_up_ne _ _ (by omega)]; congr 1; omega)]
        exact cb_step hv (by rw [← gk]; exact (Nat.div_add_mod _ _).symm))
    exact ⟨h', q1, q2, F.r.tr q3⟩
theorem cutBy_eq {h : hp_H} {a b v dv : Nat} (X : nv h a b v) (hd0 : 0 < dv) (hdv : dv < 1073741824) : ∃ h', fX2_cutBy a (nI dv) h = some (nI (v % dv), h') ∧ nv h' a b (v / dv) ∧ fr h h' a b := by
  obtain ⟨c, g, X, rfl⟩ := X
  have hc := X.2.1
  unfold fX2_cutBy
  rw [if_pos (nr_o X.1), ni1, if_pos ((nI_leI (by omega) (by omega)).mpr hd0), nr_c X.1, Option.bind_some, Option.bind_some, show nI c - nI 1 = iI ((c : Int) - 1) by rw [nI_iI, nI_iI, iI_sub]; rfl]
  exact cb_loop hc hd0 hdv X.2.2.1 c hp_n 0 g h (Nat.le_refl _) (by unfold hp_n; omega) hd0 X.1 X.2.2.1 (fun _ _ => rfl) (by simp [vl])
/-! zeros above -/
theorem pad_loop {a b c size : Nat} {g0 : Nat → Nat} (hs : size ≤ 140) : ∀ (d k n : Nat) (g : Nat → Nat) (h : hp_H), size - k = d → c ≤ k → k ≤ 140 → d < n → nr h a b c g → (∀ i, i < c → g i = g0 i) → (∀ i, c ≤ i → i < k → g i = 0) →
    ∃ h' g', bX2_padTo_5 a (nI size) n (nI k) h = some h' ∧ nr h' a b c g' ∧ fr h h' b b ∧ (∀ i, i < c → g' i = g0 i) ∧ (∀ i, c ≤ i → i < size → g' i = 0) := by
  intro d
  induction d with
  | zero =>
    intro k n g h hd hck hk hn T hg hz
    obtain ⟨m, rfl⟩ : ∃ m, n = m + 1 := ⟨n - 1, by omega⟩
    rw [bX2_padTo_5, if_pos ((nI_leI (by omega) (by omega)).mpr (by omega))]
    exact ⟨h, g, rfl, T, fr.rf, hg, fun i h1 h2 => hz i h1 (by omega)⟩
  | succ d ih =>
    intro k n g h hd hck hk hn T hg hz
    obtain ⟨m, rfl⟩ : ∃ m, n = m + 1 := ⟨n - 1, by omega⟩
    rw [bX2_padTo_5, if_neg (fun q => by have := (nI_leI (by omega) (by omega)).mp q; omega), ni140, if_neg (fun q => by have := (nI_leI (by omega) (by omega)).mp q; omega), nr_l T, Option.bind_some]
    obtain ⟨h5, e1, T', F⟩ := nr_wr T (i := k) (x := 0) (by omega)
    rw [ni0, e1, Option.bind_some, Option.bind_some, nI_1]
    obtain ⟨h', g', q1, q2, q3, q4, q5⟩ := ih (k + 1) m _ h5 (by omega) (by omega) (by omega) (by omega) T' (fun i hi => by rw [va_up_ne _ _ (by omega)]; exact hg i hi) (fun i h1 h2 => by
      by_cases hik : i = k
      · subst hik; rw [va_up_self]
      · rw [va_up_ne _ _ hik]; exact hz i h1 (by omega))
    exact ⟨h', g', q1, q2, F.tr q3, q4, q5⟩
theorem padTo_eq {h : hp_H} {a b c size : Nat} {g : Nat → Nat} (T : nr h a b c g) (hc : c ≤ 140) (hs : size ≤ 140) : ∃ h' g', fX2_padTo a (nI size) h = some h' ∧ nr h' a b c g' ∧ fr h h' b b ∧ (∀ i, i < c → g' i = g i) ∧ (∀ i, c ≤ i → i < size → g' i = 0) := by
  unfold fX2_padTo
  rw [if_pos (nr_o T), nr_c T, Option.bind_some]
  exact pad_loop hs (size - c) c hp_n g h rfl (Nat.le_refl _) hc (by unfold hp_n; omega) T (fun _ _ => rfl) (fun i h1 h2 => by omega)
