/-! Natural: shifts; a small factor, a small divisor; zeros above -/
theorem nI_rem {a d : Nat} (ha : a < 2147483648) (h0 : 0 < d) (hd : d < 2147483648) : hp_irem (nI a) (nI d) = nI (a % d) := pk_rem ha h0 hd
/-- limb k of x times 2^(30 p + w) -/
def su (D : Nat → Nat) (p w k : Nat) : Nat := if k < p then 0 else (D (k - p) * 2 ^ w % 1073741824) + (if k = p then 0 else D (k - p - 1) / 2 ^ (30 - w))
theorem su_lt {D : Nat → Nat} (hD : ∀ i, D i < 1073741824) {p w : Nat} (hw : w < 30) (k : Nat) : su D p w k < 1073741824 := by
  unfold su
  split
  · decide
  · have e2 : (1073741824 : Nat) = 2 ^ w * 2 ^ (30 - w) := by rw [← Nat.pow_add, show w + (30 - w) = 30 by omega]
    have h1 : D (k - p) * 2 ^ w % 1073741824 + 2 ^ w ≤ 1073741824 := by
      rw [e2, Nat.mul_comm (D (k - p)), Nat.mul_mod_mul_left]
      have := Nat.mod_lt (D (k - p)) (Nat.two_pow_pos (30 - w))
      have : 2 ^ w * (D (k - p) % 2 ^ (30 - w) + 1) ≤ 2 ^ w * 2 ^ (30 - w) := Nat.mul_le_mul_left _ this
      rw [Nat.mul_add, Nat.mul_one] at this
      exact this
    have h2 : (if k = p then 0 else D (k - p - 1) / 2 ^ (30 - w)) < 2 ^ w := by
      split
      · exact Nat.two_pow_pos w
      · rw [Nat.div_lt_iff_lt_mul (Nat.two_pow_pos _), ← e2]; exact hD _
    omega
theorem su_alg {S y P N V M r q d : Nat} (ih : S + y * (P * N) = V * (P * M)) (e3 : r + 1073741824 * q = d * M) : S + (r + y) * (P * N) + q * (P * N * 1073741824) = (V + d * N) * (P * M) := by
  have e6 : (r + 1073741824 * q) * (P * N) = d * M * (P * N) := by rw [e3]
  grind
theorem vl_su {D : Nat → Nat} {p w : Nat} (hw : w < 30) : ∀ n : Nat, vl 1073741824 (su D p w) (p + n) + (if n = 0 then 0 else D (n - 1) / 2 ^ (30 - w)) * 1073741824 ^ (p + n) = vl 1073741824 D n * 2 ^ (30 * p + w) := by
  have e2 : (1073741824 : Nat) = 2 ^ (30 - w) * 2 ^ w := by rw [← Nat.pow_add, show 30 - w + w = 30 by omega]
  intro n
  induction n with
  | zero =>
    rw [Nat.add_zero, vl_zero (fun i hi => by simp [su, hi])]
    simp [vl]
  | succ n ih =>
    have h0 : ¬ p + n < p := by omega
    have e1 : su D p w (p + n) = D n * 2 ^ w % 1073741824 + (if n = 0 then 0 else D (n - 1) / 2 ^ (30 - w)) := by
      unfold su
      rw [if_neg h0, show p + n - p = n by omega]
      congr 1
      by_cases hn : n = 0
      · subst hn; simp
      · rw [if_neg (by omega), if_neg hn]
    have e3 : D n * 2 ^ w % 1073741824 + 1073741824 * (D n / 2 ^ (30 - w)) = D n * 2 ^ w := by
      have h1 : D n * 2 ^ w / 1073741824 = D n / 2 ^ (30 - w) := by
        rw [e2]; exact Nat.mul_div_mul_right _ _ (Nat.two_pow_pos w)
      rw [← h1]; omega
    rw [← Nat.add_assoc, vl, e1, vl, if_neg (show ¬ n + 1 = 0 by omega), Nat.add_sub_cancel, Nat.pow_succ]
    have e4 : (1073741824 : Nat) ^ (p + n) = 1073741824 ^ p * 1073741824 ^ n := Nat.pow_add _ _ _
    have e5 : (2 : Nat) ^ (30 * p + w) = 1073741824 ^ p * 2 ^ w := by rw [Nat.pow_add, p30]
    rw [e5, e4] at ih
    rw [e5, e4]
    exact su_alg ih e3

/-- the limb that shiftUp writes -/
theorem su_val {D : Nat → Nat} (hD : ∀ i, D i < 1073741824) {w x y : Nat} (hw : w < 30) (hx : x < 1073741824) (hy : y < 1073741824) : (hp_ishl (nI x) (nI w) ||| hp_iushr (nI y) ((30 : Int32) - nI w)) &&& 1073741823 = nI (x * 2 ^ w % 1073741824 + y / 2 ^ (30 - w)) := by
  have e2 : (1073741824 : Nat) = 2 ^ w * 2 ^ (30 - w) := by rw [← Nat.pow_add, show w + (30 - w) = 30 by omega]
  have hyl : y / 2 ^ (30 - w) < 2 ^ w := by rw [Nat.div_lt_iff_lt_mul (Nat.two_pow_pos _), ← e2]; exact hy
  rw [ni30, pk_sub (by omega), nI_shl (by omega) (by omega), nI_ushr (by omega) (by omega), nI_or]
  have e5 : (4294967296 : Nat) = 2 ^ w * 2 ^ (32 - w) := by rw [← Nat.pow_add, show w + (32 - w) = 32 by omega]
  have hor : x * 2 ^ w % 4294967296 ||| y / 2 ^ (30 - w) = x * 2 ^ w % 4294967296 + y / 2 ^ (30 - w) := by
    rw [e5, Nat.mul_comm x, Nat.mul_mod_mul_left, ← Nat.two_pow_add_eq_or_of_lt hyl]
  rw [hor, nI_mk]
  congr 1
  have h1 : x * 2 ^ w % 1073741824 + 2 ^ w ≤ 1073741824 := by
    rw [e2, Nat.mul_comm x, Nat.mul_mod_mul_left]
    have := Nat.mod_lt x (Nat.two_pow_pos (30 - w))
    have : 2 ^ w * (x % 2 ^ (30 - w) + 1) ≤ 2 ^ w * 2 ^ (30 - w) := Nat.mul_le_mul_left _ this
    rw [Nat.mul_add, Nat.mul_one] at this
    exact this
  clear hor e5 e2
  generalize x * 2 ^ w = z at *
  generalize y / 2 ^ (30 - w) = q at *
  generalize 2 ^ w = M at *
  omega
theorem up_loop {a b x p w size : Nat} {D : Nat → Nat} (hs : size ≤ 140) (hp : p ≤ 140) (hw : w < 30) (hD : ∀ i, D i < 1073741824) (hN : ∀ (h : hp_H) (y : Int32), src h a b x D (fun _ => False) → y < 0 → fX2_limb x y h = some (nI 0)) : ∀ (k n c : Nat) (g : Nat → Nat) (h : hp_H), k ≤ size → k < n → nr h a b c g → (∀ i, k ≤ i → i < size → g i = su D p w i) → src h a b x D (fun i => i < k) →
    ∃ h' g', bX2_shiftUp_33 a x (nI p) (nI w) (nI size) n (iI ((k : Int) - 1)) h = some h' ∧ nt h' a b (tr g' size) g' ∧ fr h h' a b ∧ (∀ i, i < size → g' i = su D p w i) := by
  intro k
  induction k with
  | zero =>
    intro n c g h hk hn T hg S
    obtain ⟨m, rfl⟩ : ∃ m, n = m + 1 := ⟨n - 1, by omega⟩
    rw [bX2_shiftUp_33, if_pos (by decide)]
    obtain ⟨h', e1, T', F⟩ := trim_eq T hs (fun i hi => by rw [hg i (by omega) hi]; exact su_lt hD hw i)
    rw [e1, Option.bind_some]
    exact ⟨h', g, rfl, T', F.l, fun i hi => hg i (by omega) hi⟩
  | succ k ih =>
    intro n c g h hk hn T hg S
    obtain ⟨m, rfl⟩ : ∃ m, n = m + 1 := ⟨n - 1, by omega⟩
    have S0 : src h a b x D (fun _ => False) := by
      rcases S with S | ⟨q, c', g', gc, q1, q2, q3, q4⟩
      · exact Or.inl S
      · exact Or.inr ⟨q, c', g', gc, q1, q2, fun _ z => z.elim, q4⟩
    have e1 : iI (((k + 1 : Nat) : Int) - 1) = nI k := by rw [nI_iI]; congr 1; omega
    have e9 : nI k + (-1 : Int32) = iI ((k : Int) - 1) := by rw [nI_iI, show (-1 : Int32) = iI (-1) from rfl, iI_add]; rfl
    rw [e1, bX2_shiftUp_33, if_neg (nI_lt0 (by omega)), Option.bind_some, nr_l T, Option.bind_some]
    obtain ⟨u, v, hu, hv, el, er, eq⟩ : ∃ u v, u < 1073741824 ∧ v < 1073741824 ∧ fX2_limb x (nI k - nI p) h = some (nI u) ∧ fX2_limb x (nI k - nI p - 1) h = some (nI v) ∧ u * 2 ^ w % 1073741824 + v / 2 ^ (30 - w) = su D p w k := by
      have e0 : nI k - nI p = iI ((k : Int) - p) := by rw [nI_iI, nI_iI, iI_sub]
      have e01 : nI k - nI p - 1 = iI ((k : Int) - p - 1) := by rw [e0, show (1 : Int32) = iI 1 from rfl, iI_sub]
      have lt0 : ∀ z : Int, -1000 ≤ z → z < 0 → iI z < 0 := fun z z1 z2 => (iI_lt (a := z) (b := 0) (by omega) (by omega) (by omega) (by omega)).mpr z2
      by_cases h1 : k < p
      · refine ⟨0, 0, by decide, by decide, ?_, ?_, by simp [su, h1]⟩
        · rw [e0]; exact hN h _ S0 (lt0 _ (by omega) (by omega))
        · rw [e01]; exact hN h _ S0 (lt0 _ (by omega) (by omega))
      · by_cases h2 : k = p
        · subst h2
          refine ⟨D 0, 0, hD 0, by decide, ?_, ?_, by simp [su]⟩
          · rw [pk_sub (Nat.le_refl k), Nat.sub_self]; exact src_rd S (by omega) (by omega)
          · rw [e01]; exact hN h _ S0 (lt0 _ (by omega) (by omega))
        · refine ⟨D (k - p), D (k - p - 1), hD _, hD _, ?_, ?_, by simp [su, h1, h2]⟩
          · rw [pk_sub (by omega)]; exact src_rd S (by omega) (by omega)
          · rw [pk_sub (by omega), ni1, pk_sub (by omega)]; exact src_rd S (by omega) (by omega)
    rw [el, Option.bind_some, er, Option.bind_some, su_val hD hw hu hv, eq]
    obtain ⟨h12, e2, T', F⟩ := nr_wr T (i := k) (x := su D p w k) (by omega)
    rw [e2, Option.bind_some, Option.bind_some, e9]
    obtain ⟨h', g', q1, q2, q3, q4⟩ := ih m c _ h12 (by omega) (by omega) T' (fun i h1 h2 => by
      by_cases hik : i = k
      · subst hik; rw [va_up_self]
      · rw [va_up_ne _ _ hik]; exact hg i (by omega) h2) (src_wr S T T' F (fun i hi => ⟨by omega, by omega⟩))
    exact ⟨h', g', q1, q2, F.r.tr q3, q4⟩
theorem src_neg {h : hp_H} {a b x : Nat} {D : Nat → Nat} {P : Nat → Prop} {y : Int32} (S : src h a b x D P) (hy : y < 0) : fX2_limb x y h = some (nI 0) := by
  rcases S with ⟨bx, c, g, H, -⟩ | ⟨rfl, c, g, gc, H, -⟩
  · exact limb_neg H hy
  · exact limb_neg H hy
/-- x times 2^n; x may be the very number that is written -/
theorem shiftUp_eq {h : hp_H} {a b c x bx v n : Nat} {g : Nat → Nat} (T : nr h a b c g) (X : nv h x bx v) (hn : n ≤ 4200) (hv : bl v + n ≤ 4170) (n1 : (x ≠ b ∧ bx ≠ b) ∨ (x = a ∧ bx = b)) :
    ∃ h', fX2_shiftUp a x (nI n) h = some h' ∧ nv h' a b (v * 2 ^ n) ∧ fr h h' a b := by
  obtain ⟨c1, g1, X, rfl⟩ := X
  obtain ⟨p, w, hw, rfl⟩ : ∃ p w, w < 30 ∧ n = 30 * p + w := ⟨n / 30, n % 30, Nat.mod_lt _ (by decide), by omega⟩
  have hc1 := nt_cle X (k := (bl (vl 1073741824 g1 c1) + 29) / 30) (by omega)
  have hs : c1 + p + 1 ≤ 140 := by omega
  have hp : p ≤ 139 := by omega
  have S : src h a b x (dg c1 g1) (fun i => i < c1 + p + 1) := by
    rcases n1 with ⟨m1, m2⟩ | ⟨m1, m2⟩
    · exact src_of X m1 m2 _
    · subst m1; subst m2; exact src_self X _
  obtain ⟨h', g', q1, q2, q3, q4⟩ := up_loop (a := a) (b := b) (x := x) (p := p) (w := w) (size := c1 + p + 1) (D := dg c1 g1) hs (by omega) hw (dg_lt X.2.2.1) (fun _ _ S hy => src_neg S hy) (c1 + p + 1) hp_n c g h (Nat.le_refl _) (by unfold hp_n; omega) T (fun i h1 h2 => by omega) S
  refine ⟨h', ?_, ⟨_, g', q2, ?_⟩, q3⟩
  · unfold fX2_shiftUp
    rw [if_pos (nr_o T), Option.bind_some, ni30, nI_rem (by omega) (by omega) (by omega), pk_div (by omega) (by omega) (by omega), show (30 * p + w) / 30 = p by omega, Option.bind_some, show (30 * p + w) % 30 = w by omega, nr_c X.1, Option.bind_some, nI_add, nI_1, ni140, nI_min (by omega) (by omega), Nat.min_eq_left hs, Option.bind_some, Option.bind_some]
    rw [show nI (c1 + p + 1) - 1 = iI (((c1 + p + 1 : Nat) : Int) - 1) by rw [nI_iI, show (1 : Int32) = iI 1 from rfl, iI_sub]]
    exact q1
  · rw [vl_tr, vl_congr q4]
    have e := vl_su (D := dg c1 g1) (p := p) hw (c1 + 1)
    rw [if_neg (by omega), Nat.add_sub_cancel, show dg c1 g1 c1 = 0 by simp [dg], vl_dg _ _ _ (by omega), Nat.zero_div, Nat.zero_mul, Nat.add_zero, show p + (c1 + 1) = c1 + p + 1 by omega] at e
    exact e

/-! shifting down -/
theorem down_loop {a b x size n0 v : Nat} (hs : size ≤ 140) (hn0 : n0 ≤ 4200) : ∀ (d k n c : Nat) (g : Nat → Nat) (h : hp_H), size - k = d → k ≤ size → d < n → nr h a b c g → (∀ i, i < k → g i = v / 2 ^ (30 * i + n0) % 1073741824) →
    (∀ (j : Nat) (h1 : hp_H) (g1 : Nat → Nat), k ≤ j → j < size → nr h1 a b c g1 → fr h h1 b b → (∀ i, j ≤ i → g1 i = g i) → fX2_limbFrom x (nI (30 * j + n0)) h1 = some (nI (v / 2 ^ (30 * j + n0) % 1073741824))) →
    ∃ h' g', bX2_shiftDown_17 a x (nI n0) (nI size) n (nI k) h = some h' ∧ nt h' a b (tr g' size) g' ∧ fr h h' a b ∧ (∀ i, i < size → g' i = v / 2 ^ (30 * i + n0) % 1073741824) := by
  intro d
  induction d with
  | zero =>
    intro k n c g h hd hk hn T hg _
    obtain ⟨m, rfl⟩ : ∃ m, n = m + 1 := ⟨n - 1, by omega⟩
    obtain rfl : k = size := by omega
    rw [bX2_shiftDown_17, if_pos ((nI_leI (by omega) (by omega)).mpr (Nat.le_refl _))]
    obtain ⟨h', e1, T', F⟩ := trim_eq T hs (fun i hi => by rw [hg i hi]; exact Nat.mod_lt _ (by decide))
    rw [e1, Option.bind_some]
    exact ⟨h', g, rfl, T', F.l, hg⟩
  | succ d ih =>
    intro k n c g h hd hk hn T hg hL
    obtain ⟨m, rfl⟩ : ∃ m, n = m + 1 := ⟨n - 1, by omega⟩
    rw [bX2_shiftDown_17, if_neg (fun q => by have := (nI_leI (by omega) (by omega)).mp q; omega), nr_l T, Option.bind_some, ni30, pk_mul, nI_add, show k * 30 + n0 = 30 * k + n0 by omega, hL k h g (Nat.le_refl _) (by omega) T fr.rf (fun _ _ => rfl), Option.bind_some]
    obtain ⟨h8, e1, T', F⟩ := nr_wr T (i := k) (x := v / 2 ^ (30 * k + n0) % 1073741824) (by omega)
    rw [e1, Option.bind_some, Option.bind_some, nI_1]
    obtain ⟨h', g', q1, q2, q3, q4⟩ := ih (k + 1) m c _ h8 (by omega) (by omega) (by omega) T' (fun i hi => by
      by_cases hik : i = k
      · subst hik; rw [va_up_self]
      · rw [va_up_ne _ _ hik]; exact hg i (by omega)) (fun j h1 g1 j1 j2 j3 j4 j5 => hL j h1 g1 (by omega) j2 j3 (F.tr j4) (fun i hi => by rw [j5 i hi, va_up_ne _ _ (by omega)]))
    exact ⟨h', g', q1, q2, F.r.tr q3, q4⟩
theorem vl_of_digits (u : Nat) : ∀ n : Nat, vl 1073741824 (fun i => u / 1073741824 ^ i % 1073741824) n = u % 1073741824 ^ n := by
  intro n
  induction n with
  | zero => simp [vl, Nat.mod_one]
  | succ n ih =>
    rw [vl, ih, Nat.pow_succ, Nat.mod_mul]
    exact congrArg _ (Nat.mul_comm _ _)
/-- limbFrom, of a number that is being written below place j -/
theorem limbFrom_src {h : hp_H} {a b c v c0 j i : Nat} {g g0 : Nat → Nat} (T : nr h a b c g) (hc : c ≤ 140) (hg0 : ∀ i, i < c → g0 i < 1073741824) (hv : vl 1073741824 g0 c = v) (he : ∀ i, j ≤ i → g i = g0 i) (hi : 30 * j ≤ i) (hi2 : i < 2147483648) : fX2_limbFrom a (nI i) h = some (nI (v / 2 ^ i % 1073741824)) := by
  obtain ⟨h2, q1⟩ : ∃ h2 : hp_H, h2 = va_up (va_up (fun _ => none) a (some (.inr (.inr (.inr (2, [.ref b, .int (nI c)])))))) b (some (.inl (0, 140, fun i => nI (g0 i)))) := ⟨_, rfl⟩
  have T2 : nr h2 a b c g0 := ⟨T.1, by rw [q1, va_up_ne _ _ T.1, va_up_self], by rw [q1, va_up_self]⟩
  have key : ∀ p : Nat, j ≤ p → p < 2147483648 → fX2_limb a (nI p) h = fX2_limb a (nI p) h2 := by
    intro p hp hp2
    rw [limb_eq T hc hp2, limb_eq T2 hc hp2]
    simp only [dg]
    split
    · rw [he p hp]
    · rfl
  subst hv
  have e : fX2_limbFrom a (nI i) h = fX2_limbFrom a (nI i) h2 := by
    unfold fX2_limbFrom
    rw [if_pos (nr_o T), if_pos (nr_o T2), Option.bind_some, Option.bind_some, Option.bind_some, Option.bind_some, ni30, pk_div hi2 (by omega) (by omega), key _ (by omega) (by omega), nI_1, key _ (by omega) (by omega)]
  rw [e]
  exact limbFrom_raw T2 hc hg0 hi2
