/-! NUMBERS BY THEIR DIGITS: vl B g n = the sum of g i * B^i over i < n -/
def vl (B : Nat) (g : Nat → Nat) : Nat → Nat
  | 0 => 0
  | n + 1 => vl B g n + g n * B ^ n
theorem vl_congr {B : Nat} {g g' : Nat → Nat} {n : Nat} (h : ∀ i, i < n → g i = g' i) : vl B g n = vl B g' n := by
  induction n with
  | zero => rfl
  | succ n ih => rw [vl, vl, ih (fun i hi => h i (by omega)), h n (by omega)]
theorem vl_lt {B : Nat} {g : Nat → Nat} {n : Nat} (h : ∀ i, i < n → g i < B) : vl B g n < B ^ n := by
  induction n with
  | zero => exact Nat.one_pos
  | succ n ih =>
    have h1 := ih (fun i hi => h i (by omega))
    have h2 : g n + 1 ≤ B := h n (by omega)
    have h3 : (g n + 1) * B ^ n ≤ B * B ^ n := Nat.mul_le_mul_right _ h2
    rw [vl, Nat.pow_succ, Nat.mul_comm (B ^ n) B]
    rw [Nat.add_mul, Nat.one_mul] at h3
    omega
theorem vl_add (B : Nat) (g : Nat → Nat) (n m : Nat) : vl B g (n + m) = vl B g n + B ^ n * vl B (fun i => g (n + i)) m := by
  induction m with
  | zero => simp [vl]
  | succ m ih =>
    rw [← Nat.add_assoc, vl, ih, vl, Nat.mul_add, Nat.pow_add, ← Nat.add_assoc]
    congr 1
    rw [Nat.mul_comm (g (n + m)), Nat.mul_assoc, Nat.mul_comm (B ^ m)]
theorem vl_zero {B : Nat} {g : Nat → Nat} {n : Nat} (h : ∀ i, i < n → g i = 0) : vl B g n = 0 := by
  induction n with
  | zero => rfl
  | succ n ih => rw [vl, ih (fun i hi => h i (by omega)), h n (by omega)]; simp
/-- higher zeros change nothing -/
theorem vl_up {B : Nat} {g : Nat → Nat} {n m : Nat} (hnm : n ≤ m) (h : ∀ i, n ≤ i → i < m → g i = 0) : vl B g m = vl B g n := by
  obtain ⟨k, rfl⟩ := Nat.le.dest hnm
  rw [vl_add, vl_zero (fun i hi => h (n + i) (by omega) (by omega))]
  simp
theorem vl_ge {B : Nat} {g : Nat → Nat} {n : Nat} (hg : g n ≠ 0) : B ^ n ≤ vl B g (n + 1) := by
  rw [vl]
  have : 1 * B ^ n ≤ g n * B ^ n := Nat.mul_le_mul_right _ (by omega)
  omega
/-- which of two numbers is the greater, by the highest place where they differ -/
theorem vl_cmp {B : Nat} {g g' : Nat → Nat} {n k : Nat} (hk : k < n) (hg : ∀ i, i < n → g i < B) (he : ∀ i, k < i → i < n → g i = g' i) (hl : g k < g' k) : vl B g n < vl B g' n := by
  obtain ⟨m, rfl⟩ : ∃ m, n = k + 1 + m := ⟨n - (k + 1), by omega⟩
  rw [vl_add, vl_add B g', vl_congr (g := fun i => g (k + 1 + i)) (g' := fun i => g' (k + 1 + i)) (fun i hi => he _ (by omega) (by omega))]
  have h1 : vl B g k < B ^ k := vl_lt (fun i hi => hg i (by omega))
  have h2 : (g k + 1) * B ^ k ≤ g' k * B ^ k := Nat.mul_le_mul_right _ hl
  rw [Nat.add_mul, Nat.one_mul] at h2
  rw [vl, vl]
  omega
theorem vl_mod {B : Nat} {g : Nat → Nat} {n m : Nat} (hnm : n ≤ m) (h : ∀ i, i < n → g i < B) : vl B g m % B ^ n = vl B g n := by
  obtain ⟨k, rfl⟩ := Nat.le.dest hnm
  rw [vl_add, Nat.add_mul_mod_self_left]
  exact Nat.mod_eq_of_lt (vl_lt h)
theorem vl_div {B : Nat} {g : Nat → Nat} {n m : Nat} (hB : 0 < B) (hnm : n ≤ m) (h : ∀ i, i < n → g i < B) : vl B g m / B ^ n = vl B (fun i => g (n + i)) (m - n) := by
  obtain ⟨k, rfl⟩ := Nat.le.dest hnm
  rw [vl_add, Nat.add_mul_div_left _ _ (Nat.pow_pos hB), Nat.div_eq_of_lt (vl_lt h), Nat.zero_add, Nat.add_sub_cancel_left]
theorem vl_digit {B : Nat} {g : Nat → Nat} {n i : Nat} (hi : i < n) (h : ∀ i, i < n → g i < B) : vl B g n / B ^ i % B = g i := by
  have hB : 0 < B := by have := h i hi; omega
  rw [vl_div hB (Nat.le_of_lt hi) (fun j hj => h j (by omega))]
  obtain ⟨k, hk⟩ : ∃ k, n - i = 1 + k := ⟨n - i - 1, by omega⟩
  rw [hk, vl_add]
  simp only [vl, Nat.pow_zero, Nat.pow_one, Nat.zero_add, Nat.mul_one, Nat.add_zero]
  rw [Nat.add_mul_mod_self_left]
  exact Nat.mod_eq_of_lt (h i hi)
theorem vl_head (B : Nat) (g : Nat → Nat) (n : Nat) : vl B g (n + 1) = g 0 + B * vl B (fun i => g (i + 1)) n := by
  rw [Nat.add_comm n 1, vl_add]
  simp [vl, Nat.add_comm]
theorem vl_upd_ge {B : Nat} {g : Nat → Nat} {n k v : Nat} (h : n ≤ k) : vl B (va_up g k v) n = vl B g n := vl_congr (fun i hi => va_up_ne _ _ (by omega))
