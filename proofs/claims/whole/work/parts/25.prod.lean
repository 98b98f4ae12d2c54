/-! Natural: longs; products -/
theorem nI_mk (s : Nat) : nI s &&& 1073741823 = nI (s % 1073741824) := by
  rw [nI_iI s, iI_mask]
  congr 1
theorem lN_us {s : Nat} (h : s < 18446744073709551616) : hp_lushr (lN s) 30 = lN (s / 1073741824) := wb_shr (n := s) (k := 30) h (by decide)
theorem lN_us60 {s : Nat} (h : s < 18446744073709551616) : hp_lushr (lN s) 60 = lN (s / 1152921504606846976) := wb_shr (n := s) (k := 60) h (by decide)
theorem lN_sl (s : Nat) : hp_lshl (lN s) 30 = lN (s * 1073741824) := wb_shl s (k := 30) (by decide)
theorem lN_sl60 (s : Nat) : hp_lshl (lN s) 60 = lN (s * 1152921504606846976) := wb_shl s (k := 60) (by decide)
theorem takeUnsigned_eq {h : hp_H} {a b c : Nat} {g : Nat → Nat} (T : nr h a b c g) {u : Nat} (hu : u < 18446744073709551616) : ∃ h', fX2_takeUnsigned a (lN u) h = some h' ∧ nv h' a b u ∧ fr h h' a b := by
  unfold fX2_takeUnsigned
  obtain ⟨h3, e1, T1, F1⟩ := nr_wr T (i := 0) (x := u % 1073741824) (by omega)
  obtain ⟨h7, e2, T2, F2⟩ := nr_wr T1 (i := 1) (x := u / 1073741824 % 1073741824) (by omega)
  obtain ⟨h11, e3, T3, F3⟩ := nr_wr T2 (i := 2) (x := u / 1152921504606846976) (by omega)
  have v0 : ∀ g : Nat → Nat, ∀ x y z : Nat, va_up (va_up (va_up g 0 x) 1 y) 2 z 0 = x := fun g x y z => by simp [va_up]
  have v1 : ∀ g : Nat → Nat, ∀ x y z : Nat, va_up (va_up (va_up g 0 x) 1 y) 2 z 1 = y := fun g x y z => by simp [va_up]
  have v2 : ∀ g : Nat → Nat, ∀ x y z : Nat, va_up (va_up (va_up g 0 x) 1 y) 2 z 2 = z := fun g x y z => by simp [va_up]
  obtain ⟨h', e4, T4, F4⟩ := trim_eq T3 (k := 3) (by omega) (fun i hi => by
    rcases (show i = 0 ∨ i = 1 ∨ i = 2 by omega) with rfl | rfl | rfl
    · rw [v0]; omega
    · rw [v1]; omega
    · rw [v2]; omega)
  refine ⟨h', ?_, ⟨_, _, T4, ?_⟩, ((F1.r.tr F2.r).tr F3.r).tr F4.l⟩
  · rw [if_pos (nr_o T), nr_l T, Option.bind_some, lN_i, nI_mk, ni0, e1, Option.bind_some, nr_l T1, Option.bind_some, lN_us hu, lN_i, nI_mk, ni1, e2, Option.bind_some, nr_l T2, Option.bind_some, lN_us60 hu, lN_i, ni2, e3, Option.bind_some, show (3 : Int32) = nI 3 from rfl, e4, Option.bind_some]
  · rw [vl_tr]
    simp only [vl, v0, v1, v2, Nat.pow_zero, Nat.pow_one, Nat.zero_add, Nat.mul_one]
    omega
theorem lowestLong_eq {h : hp_H} {a b v : Nat} (H : nv h a b v) : fX2_lowestLong a h = some (lN (v % 18446744073709551616)) := by
  obtain ⟨c, g, H, rfl⟩ := H
  unfold fX2_lowestLong
  have h0 := dg_lt H.2.2.1 0
  have h1 := dg_lt H.2.2.1 1
  have h2 := dg_lt H.2.2.1 2
  rw [if_pos (nr_o H.1), ni0, limb_eq H.1 H.2.1 (by omega), Option.bind_some, ni1, limb_eq H.1 H.2.1 (by omega), Option.bind_some, ni2, limb_eq H.1 H.2.1 (by omega), Option.bind_some]
  rw [nI_l (by omega), nI_l (by omega), nI_l (by omega), lN_sl, lN_sl60, wb_mod (dg c g 2 * 1152921504606846976)]
  have ex : vl 1073741824 g c = dg c g 0 + dg c g 1 * 1073741824 + dg c g 2 * 1152921504606846976 + 1237940039285380274899124224 * vl 1073741824 (fun i => dg c g (3 + i)) c := by
    rw [← vl_dg 1073741824 c g (n := 3 + c) (by omega), vl_add]
    simp only [vl, Nat.pow_zero, Nat.pow_one, Nat.zero_add, Nat.mul_one]
  rw [ex]
  generalize vl 1073741824 (fun i => dg c g (3 + i)) c = U
  generalize dg c g 0 = x at *
  generalize dg c g 1 = y at *
  generalize dg c g 2 = z at *
  rw [wb_or (by omega) (by omega), wb_or (by
      have : x ||| y * 1073741824 < 2 ^ 60 := Nat.or_lt_two_pow (by omega) (by omega)
      omega) (by omega)]
  congr 2
  have e1 : x ||| y * 1073741824 = y * 1073741824 + x := by
    rw [Nat.or_comm, Nat.mul_comm]
    exact (Nat.two_pow_add_eq_or_of_lt (i := 30) (b := x) h0 y).symm
  have e2 : z * 1152921504606846976 % 2 ^ 64 = 2 ^ 60 * (z % 16) := by omega
  rw [e1, e2, Nat.or_comm, ← Nat.two_pow_add_eq_or_of_lt (i := 60) (by omega)]
  omega
/-! a row of a product -/
theorem row_step {G G0 V P r q cy d f e : Nat} (h : G + cy * P = G0 + f * V) (hr : r + 1073741824 * q = f * d + e + cy) : G + r * P + q * (P * 1073741824) = G0 + e * P + f * (V + d * P) := by
  have e3 : (r + 1073741824 * q) * P = (f * d + e + cy) * P := by rw [hr]
  grind
theorem addRow_loop {a b y b2 cy f i : Nat} {gy g0 : Nat → Nat} (hf : f < 1073741824) (hi : i + cy ≤ 140) (hg0 : ∀ j, j < cy → g0 (i + j) < 1073741824) (n1 : y ≠ b) (n2 : b2 ≠ b) : ∀ (d j n ca c : Nat) (g : Nat → Nat) (h : hp_H), cy - j = d → j ≤ cy → d < n → ca < 1073741824 → nr h a b c g → nt h y b2 cy gy → (∀ k, k < i ∨ i + j ≤ k → g k = g0 k) → (∀ k, k < j → g (i + k) < 1073741824) →
    vl 1073741824 (fun k => g (i + k)) j + ca * 1073741824 ^ j = vl 1073741824 (fun k => g0 (i + k)) j + f * vl 1073741824 gy j →
    ∃ h' g' ca', bX2_addRow_6 a y (lN f) (nI i) n (lN ca) (nI j) h = some (nI ca', h') ∧ ca' < 1073741824 ∧ nr h' a b c g' ∧ fr h h' b b ∧ (∀ k, k < i ∨ i + cy ≤ k → g' k = g0 k) ∧ (∀ k, k < cy → g' (i + k) < 1073741824) ∧
      vl 1073741824 (fun k => g' (i + k)) cy + ca' * 1073741824 ^ cy = vl 1073741824 (fun k => g0 (i + k)) cy + f * vl 1073741824 gy cy := by
  intro d
  induction d with
  | zero =>
    intro j n ca c g h hd hj hn hca T Y hg hl hv
    obtain ⟨m, rfl⟩ : ∃ m, n = m + 1 := ⟨n - 1, by omega⟩
    obtain rfl : j = cy := by omega
    rw [bX2_addRow_6, nr_c Y.1, Option.bind_some, if_pos ((nI_leI (by omega) (by omega)).mpr (Nat.le_refl _)), lN_i]
    exact ⟨h, g, ca, rfl, hca, T, fr.rf, hg, hl, hv⟩
  | succ d ih =>
    intro j n ca c g h hd hj hn hca T Y hg hl hv
    obtain ⟨m, rfl⟩ : ∃ m, n = m + 1 := ⟨n - 1, by omega⟩
    have h1 := Y.2.2.1 j (by omega)
    have h2 := hg0 j (by omega)
    have h3 := hg (i + j) (by omega)
    have h4 : f * gy j ≤ 1073741823 * 1073741823 := Nat.mul_le_mul (by omega) (by omega)
    rw [bX2_addRow_6, nr_c Y.1, Option.bind_some, if_neg (fun q => by have := (nI_leI (by omega) (by omega)).mp q; omega), nr_l Y.1, Option.bind_some, nr_rd Y.1 (by omega), Option.bind_some, nr_l T, Option.bind_some, nI_add, nr_rd T (by omega), Option.bind_some, nI_l (by omega), nI_l (by omega), lN_mul, lN_add, lN_add, Option.bind_some, Option.bind_some, lN_i, nI_mk]
    obtain ⟨h16, e1, T', F⟩ := nr_wr T (i := i + j) (x := (f * gy j + g (i + j) + ca) % 1073741824) (by omega)
    rw [e1, Option.bind_some, lN_us (by omega), Option.bind_some, Option.bind_some, nI_1]
    obtain ⟨h', g', ca', q1, q2, q3, q4, q5, q6, q7⟩ := ih (j + 1) m ((f * gy j + g (i + j) + ca) / 1073741824) c _ h16 (by omega) (by omega) (by omega) (by omega) T' (nt_fr Y F n1 n1 n2 n2) (fun k hk => by
        rw [va_up_ne _ _ (by omega)]; exact hg k (by omega)) (fun k hk => by
        by_cases hkj : k = j
        · subst hkj; rw [va_up_self]; omega
        · rw [va_up_ne _ _ (by omega)]; exact hl k (by omega)) (by
        rw [vl, vl, vl, va_up_self, Nat.pow_succ]
        rw [vl_congr (g := fun k => va_up g (i + j) ((f * gy j + g (i + j) + ca) % 1073741824) (i + k)) (g' := fun k => g (i + k)) (fun k hk => va_up_ne _ _ (by omega))]
        exact row_step hv (by rw [h3]; omega))
    exact ⟨h', g', ca', q1, q2, q3, F.tr q4, q5, q6, q7⟩
theorem addRow_eq {h : hp_H} {a b c y b2 cy f i : Nat} {g gy : Nat → Nat} (T : nr h a b c g) (Y : nt h y b2 cy gy) (hf : f < 1073741824) (hi : i + cy ≤ 140) (hg : ∀ j, j < cy → g (i + j) < 1073741824) (n1 : y ≠ b) (n2 : b2 ≠ b) :
    ∃ h' g' ca, fX2_addRow a y (lN f) (nI i) h = some (nI ca, h') ∧ ca < 1073741824 ∧ nr h' a b c g' ∧ fr h h' b b ∧ (∀ k, k < i ∨ i + cy ≤ k → g' k = g k) ∧ (∀ k, k < cy → g' (i + k) < 1073741824) ∧
      vl 1073741824 (fun k => g' (i + k)) cy + ca * 1073741824 ^ cy = vl 1073741824 (fun k => g (i + k)) cy + f * vl 1073741824 gy cy := by
  unfold fX2_addRow
  rw [if_pos (nr_o T)]
  exact addRow_loop hf hi hg n1 n2 cy 0 hp_n 0 c g h (by omega) (by omega) (by have := Y.2.1; unfold hp_n; omega) (by omega) T Y (fun _ _ => rfl) (fun k hk => by omega) (by simp [vl])
theorem zero_loop {a b x y size : Nat} (hs : size ≤ 140) : ∀ (d k n c : Nat) (g : Nat → Nat) (h : hp_H), size - k = d → k ≤ size → d < n → nr h a b c g → (∀ i, i < k → g i = 0) →
    ∃ h' g', bX2_takeProduct_19 a x y (nI size) n (nI k) h = bX2_takeProduct_42 a x y (nI size) hp_n 0 h' ∧ nr h' a b c g' ∧ fr h h' b b ∧ (∀ i, i < size → g' i = 0) := by
  intro d
  induction d with
  | zero =>
    intro k n c g h hd hk hn T hg
    obtain ⟨m, rfl⟩ : ∃ m, n = m + 1 := ⟨n - 1, by omega⟩
    obtain rfl : k = size := by omega
    rw [bX2_takeProduct_19, if_pos ((nI_leI (by omega) (by omega)).mpr (Nat.le_refl _))]
    exact ⟨h, g, rfl, T, fr.rf, hg⟩
  | succ d ih =>
    intro k n c g h hd hk hn T hg
    obtain ⟨m, rfl⟩ : ∃ m, n = m + 1 := ⟨n - 1, by omega⟩
    rw [bX2_takeProduct_19, if_neg (fun q => by have := (nI_leI (by omega) (by omega)).mp q; omega), nr_l T, Option.bind_some]
    obtain ⟨h4, e1, T', F⟩ := nr_wr T (i := k) (x := 0) (by omega)
    rw [ni0, e1, Option.bind_some, Option.bind_some, nI_1]
    obtain ⟨h', g', q1, q2, q3, q4⟩ := ih (k + 1) m c _ h4 (by omega) (by omega) (by omega) T' (fun i hi => by
      by_cases hik : i = k
      · subst hik; rw [va_up_self]
      · rw [va_up_ne _ _ hik]; exact hg i (by omega))
    exact ⟨h', g', q1, q2, F.tr q3, q4⟩
theorem prod_step {L R ca P Q U V W f : Nat} (h1 : L + P * R = U * V) (h2 : W + ca * Q = R + f * V) : L + P * (W + ca * Q) = (U + f * P) * V := by
  rw [h2]; grind
theorem prod_loop {a b x bx y b2 cx cy : Nat} {gx gy : Nat → Nat} (hs : cx + cy ≤ 140) (n1 : x ≠ b) (n2 : bx ≠ b) (n3 : y ≠ b) (n4 : b2 ≠ b) : ∀ (d i n c : Nat) (g : Nat → Nat) (h : hp_H), cx - i = d → i ≤ cx → d < n → nr h a b c g → nt h x bx cx gx → nt h y b2 cy gy → (∀ k, k < i + cy → g k < 1073741824) → (∀ k, i + cy ≤ k → k < cx + cy → g k = 0) → vl 1073741824 g (i + cy) = vl 1073741824 gx i * vl 1073741824 gy cy →
    ∃ h' g', bX2_takeProduct_42 a x y (nI (cx + cy)) n (nI i) h = some h' ∧ nt h' a b (tr g' (cx + cy)) g' ∧ fr h h' a b ∧ vl 1073741824 g' (cx + cy) = vl 1073741824 gx cx * vl 1073741824 gy cy := by
  intro d
  induction d with
  | zero =>
    intro i n c g h hd hi hn T X Y hg hz hv
    obtain ⟨m, rfl⟩ : ∃ m, n = m + 1 := ⟨n - 1, by omega⟩
    obtain rfl : i = cx := by omega
    rw [bX2_takeProduct_42, nr_c X.1, Option.bind_some, if_pos ((nI_leI (by omega) (by omega)).mpr (Nat.le_refl _)), bX2_takeProduct_97]
    obtain ⟨h', e1, T', F⟩ := trim_eq T hs hg
    rw [e1, Option.bind_some]
    exact ⟨h', g, rfl, T', F.l, hv⟩
  | succ d ih =>
    intro i n c g h hd hi hn T X Y hg hz hv
    obtain ⟨m, rfl⟩ : ∃ m, n = m + 1 := ⟨n - 1, by omega⟩
    have h1 := X.2.2.1 i (by omega)
    rw [bX2_takeProduct_42, nr_c X.1, Option.bind_some, if_neg (fun q => by have := (nI_leI (by omega) (by omega)).mp q; omega), nr_c Y.1, Option.bind_some, nI_add, ni140, if_neg (fun q => by have := (nI_leI (by omega) (by omega)).mp q; omega), nr_l T, Option.bind_some, Option.bind_some, nr_l X.1, Option.bind_some, nr_rd X.1 (by omega), Option.bind_some, nI_l (by omega)]
    obtain ⟨h16, g1, ca, q1, q2, T1, F1, q3, q4, q5⟩ := addRow_eq T Y h1 (i := i) (by omega) (fun j hj => hg (i + j) (by omega)) n3 n4
    rw [q1, Option.bind_some]
    obtain ⟨h19, e2, T2, F2⟩ := nr_wr T1 (i := i + cy) (x := ca) (by omega)
    simp only []
    rw [nI_add, e2, Option.bind_some, Option.bind_some, nI_1]
    have F12 := F1.tr F2
    obtain ⟨h', g', r1, r2, r3, r4⟩ := ih (i + 1) m c _ h19 (by omega) (by omega) (by omega) T2 (nt_fr X F12 n1 n1 n2 n2) (nt_fr Y F12 n3 n3 n4 n4) (fun k hk => by
        by_cases hkj : k = i + cy
        · subst hkj; rw [va_up_self]; exact q2
        · rw [va_up_ne _ _ hkj]
          by_cases hki : k < i
          · rw [q3 k (Or.inl hki)]; exact hg k (by omega)
          · have := q4 (k - i) (by omega)
            rw [show i + (k - i) = k by omega] at this; exact this) (fun k h1 h2 => by
        rw [va_up_ne _ _ (by omega), q3 k (Or.inr (by omega))]; exact hz k (by omega) h2) (by
        rw [show i + 1 + cy = i + (cy + 1) by omega, vl_add, vl_congr (g := va_up g1 (i + cy) ca) (g' := g) (n := i) (fun k hk => by rw [va_up_ne _ _ (by omega), q3 k (Or.inl hk)])]
        rw [vl, vl_congr (g := fun k => va_up g1 (i + cy) ca (i + k)) (g' := fun k => g1 (i + k)) (n := cy) (fun k hk => va_up_ne _ _ (by omega)), va_up_self, vl]
        rw [vl_add] at hv
        exact prod_step hv q5)
    exact ⟨h', g', r1, r2, F12.r.tr r3, r4⟩
theorem takeProduct_eq {h : hp_H} {a b c x bx y b2 v w : Nat} {g : Nat → Nat} (T : nr h a b c g) (X : nv h x bx v) (Y : nv h y b2 w) (hvw : bl v + bl w ≤ 4097) (n1 : x ≠ b) (n2 : bx ≠ b) (n3 : y ≠ b) (n4 : b2 ≠ b) :
    ∃ h', fX2_takeProduct a x y h = some h' ∧ nv h' a b (v * w) ∧ fr h h' a b := by
  obtain ⟨c1, g1, X, rfl⟩ := X
  obtain ⟨c2, g2, Y, rfl⟩ := Y
  have k1 := nt_cle X (k := (bl (vl 1073741824 g1 c1) + 29) / 30) (by omega)
  have k2 := nt_cle Y (k := (bl (vl 1073741824 g2 c2) + 29) / 30) (by omega)
  have hs : c1 + c2 ≤ 140 := by omega
  obtain ⟨h1, g3, e1, T1, F1, z1⟩ := zero_loop (a := a) (b := b) (x := x) (y := y) hs (c1 + c2) 0 hp_n c g h (by omega) (by omega) (by unfold hp_n; omega) T (fun i hi => by omega)
  obtain ⟨h', g', r1, r2, r3, r4⟩ := prod_loop (a := a) (b := b) hs n1 n2 n3 n4 c1 0 hp_n c g3 h1 (by omega) (by omega) (by unfold hp_n; omega) T1 (nt_fr X F1 n1 n1 n2 n2) (nt_fr Y F1 n3 n3 n4 n4) (fun k hk => by rw [z1 k (by omega)]; decide) (fun k h1 h2 => z1 k h2) (by rw [vl_zero (fun i hi => z1 i (by omega))]; simp [vl])
  refine ⟨h', ?_, ⟨_, g', r2, by rw [vl_tr]; exact r4⟩, F1.r.tr r3⟩
  unfold fX2_takeProduct
  rw [if_pos (nr_o T), nr_c X.1, Option.bind_some, nr_c Y.1, Option.bind_some, nI_add, ni140, nI_min (by omega) (by omega), Nat.min_eq_left hs, Option.bind_some]
  exact e1.trans r1
