/-! Euclid with Lehmer's steps: the numbers -/
theorem lh_low {u v ex ey P : Int} (hu : 0 ≤ u) (hv : v ≤ 0) (h1 : 0 ≤ ex) (h2 : ey ≤ P) : v * P ≤ u * ex + v * ey := by
  have a1 := Int.mul_nonneg hu h1
  have a2 : v * P ≤ v * ey := Int.mul_le_mul_of_nonpos_left hv h2
  omega
theorem lh_sq {n y z : Int} (h1 : n < y) (h0 : 0 ≤ n) (h2 : n * y ≤ z) (hz : z < 1152921504606846976) : n < 1073741824 := by
  rcases Int.lt_or_le n 1073741824 with q | q
  · exact q
  · exfalso
    have : (1073741824 : Int) * 1073741824 ≤ n * y := Int.mul_le_mul q (by omega) (by omega) (by omega)
    omega
theorem lh_i1 {x y a b c d q x0 y0 : Int} (hx : x = a * x0 + b * y0) (hy : y = c * x0 + d * y0) (det : a * d - b * c = 1) : (q * d - b) * y + d * (x - q * y) = x0 := by
  have e : (a * d - b * c) * x0 = 1 * x0 := by rw [det]
  subst hx hy
  grind
theorem lh_i2 {x y a b c d q x0 y0 : Int} (hx : x = a * x0 + b * y0) (hy : y = c * x0 + d * y0) (det : a * d - b * c = 1) : (a - q * c) * y + (-c) * (x - q * y) = y0 := by
  have e : (a * d - b * c) * y0 = 1 * y0 := by rw [det]
  subst hx hy
  grind
theorem lh_i3 {x y a b c d q x0 y0 X Y P ex ey : Int} (hx : x = a * x0 + b * y0) (hy : y = c * x0 + d * y0) (hX : X = x0 * P + ex) (hY : Y = y0 * P + ey) : (a - q * c) * X + (b - q * d) * Y = (x - q * y) * P + ((a - q * c) * ex + (b - q * d) * ey) := by
  subst hx hy hX hY
  grind
theorem lh_i4 {x y a b c d q x0 y0 X Y P ex ey : Int} (hx : x = a * x0 + b * y0) (hy : y = c * x0 + d * y0) (hX : X = x0 * P + ex) (hY : Y = y0 * P + ey) : (c * X + d * Y) - ((a - q * c) * X + (b - q * d) * Y) = (y - (x - q * y)) * P + ((d - (b - q * d)) * ey + (c - (a - q * c)) * ex) := by
  subst hx hy hX hY
  grind
/-- one step, foreseen from the heads: signs as in a, d ≥ 0 ≥ b, c -/
theorem lh_step {x y a b c d q x0 y0 X Y P ex ey : Int} (ha : 0 ≤ a) (hb : b ≤ 0) (hc : c ≤ 0) (hd : 0 ≤ d) (hx : x = a * x0 + b * y0) (hy : y = c * x0 + d * y0) (det : a * d - b * c = 1) (hX : X = x0 * P + ex) (hY : Y = y0 * P + ey) (e1 : 0 ≤ ex) (e2 : ex ≤ P) (e3 : 0 ≤ ey) (e4 : ey ≤ P) (hP : 0 < P) (hx0 : x0 < 1152921504606846976) (hy0 : y0 < 1152921504606846976) (hq : 1 ≤ q)
    (q1 : q * (y + c) ≤ x + a) (q2 : x + a < (q + 1) * (y + c)) (q3 : q * (y + d) ≤ x + b) (q4 : x + b < (q + 1) * (y + d)) :
    0 ≤ a - q * c ∧ b - q * d ≤ -d ∧ 0 ≤ x - q * y ∧ x - q * y < y ∧ a - q * c < 1073741824 ∧ -1073741824 < b - q * d ∧ 0 ≤ (a - q * c) * X + (b - q * d) * Y ∧ (a - q * c) * X + (b - q * d) * Y < c * X + d * Y := by
  have i1 := lh_i1 (q := q) hx hy det
  have i2 := lh_i2 (q := q) hx hy det
  have i3 := lh_i3 (q := q) hx hy hX hY
  have i4 := lh_i4 (q := q) hx hy hX hY
  have A : q * c ≤ 0 := by
    have := Int.mul_nonneg (show 0 ≤ q by omega) (show 0 ≤ -c by omega)
    rw [Int.mul_neg] at this; omega
  have Dq : d ≤ q * d := by
    have := Int.mul_le_mul_of_nonneg_right hq hd
    omega
  rw [Int.mul_add] at q1 q3
  rw [Int.add_mul, Int.mul_add, Int.one_mul] at q2 q4
  have n1 : 0 ≤ a - q * c := by omega
  have n2 : b - q * d ≤ -d := by omega
  have n3 : 0 ≤ x - q * y := by omega
  have n4 : x - q * y < y := by omega
  refine ⟨n1, n2, n3, n4, ?_, ?_, ?_, ?_⟩
  · have h1 := Int.mul_nonneg (show 0 ≤ -c by omega) n3
    exact lh_sq (y := y) (z := y0) (by omega) n1 (by omega) hy0
  · have h1 := Int.mul_nonneg hd n3
    have := lh_sq (n := q * d - b) (y := y) (z := x0) (by omega) (by omega) (by omega) hx0
    omega
  · rw [i3]
    have h1 := lh_low (u := a - q * c) (v := b - q * d) n1 (by omega) e1 e4
    have h2 := Int.mul_nonneg (show 0 ≤ (x - q * y) + (b - q * d) by omega) (Int.le_of_lt hP)
    rw [Int.add_mul] at h2
    omega
  · have h1 := lh_low (u := d - (b - q * d)) (v := c - (a - q * c)) (by omega) (by omega) e3 e2
    have h2 : 0 < ((y - (x - q * y)) + (c - (a - q * c))) * P := Int.mul_pos (by omega) hP
    rw [Int.add_mul] at h2
    omega
/-- the greatest common divisor stays; the bits become fewer -/
theorem gcd_sub {X Y R q : Nat} (h : X = q * Y + R) : Nat.gcd Y R = Nat.gcd X Y := by
  subst h
  rw [Nat.gcd_comm (q * Y + R) Y, Nat.add_comm, Nat.mul_comm]
  exact (Nat.gcd_add_mul_left_right Y R q).symm
theorem bl_step {X Y R q : Nat} (h : X = q * Y + R) (hR : R < Y) (hq : 1 ≤ q) : bl Y + bl R < bl X + bl Y := by
  have h1 : 1 * Y ≤ q * Y := Nat.mul_le_mul_right _ hq
  have hX : X ≠ 0 := by omega
  have h2 : bl R ≤ bl (X / 2 ^ 1) := bl_mono (by omega)
  rw [bl_div] at h2
  have := bl_pos hX
  omega
