/-! INTS AND LONGS BY WHOLE NUMBERS: iI and lI are homomorphisms; what they answer is read where the number fits -/
def iI (z : Int) : Int32 := Int32.ofInt z
def lI (z : Int) : Int64 := Int64.ofInt z
theorem nI_iI (n : Nat) : nI n = iI n := Int32.ofInt_eq_ofNat.symm
theorem lN_lI (n : Nat) : lN n = lI n := Int64.ofInt_eq_ofNat.symm
theorem iI_add (a b : Int) : iI a + iI b = iI (a + b) := (Int32.ofInt_add a b).symm
theorem iI_sub (a b : Int) : iI a - iI b = iI (a - b) := (Int32.ofInt_sub a b).symm
theorem iI_mul (a b : Int) : iI a * iI b = iI (a * b) := (Int32.ofInt_mul a b).symm
theorem iI_neg (a : Int) : -iI a = iI (-a) := (Int32.ofInt_neg a).symm
theorem lI_add (a b : Int) : lI a + lI b = lI (a + b) := (Int64.ofInt_add a b).symm
theorem lI_sub (a b : Int) : lI a - lI b = lI (a - b) := (Int64.ofInt_sub a b).symm
theorem lI_mul (a b : Int) : lI a * lI b = lI (a * b) := (Int64.ofInt_mul a b).symm
theorem lI_neg (a : Int) : -lI a = lI (-a) := (Int64.ofInt_neg a).symm
theorem iI_ti {z : Int} (h1 : -2147483648 ≤ z) (h2 : z < 2147483648) : (iI z).toInt = z := Int32.toInt_ofInt_of_le h1 h2
theorem lI_ti {z : Int} (h1 : -9223372036854775808 ≤ z) (h2 : z < 9223372036854775808) : (lI z).toInt = z := Int64.toInt_ofInt_of_le h1 h2
theorem iI_of (x : Int32) : x = iI x.toInt := (Int32.ofInt_toInt x).symm
theorem lI_of (x : Int64) : x = lI x.toInt := (Int64.ofInt_toInt x).symm
theorem lI_rg (x : Int64) : -9223372036854775808 ≤ x.toInt ∧ x.toInt < 9223372036854775808 := ⟨Int64.le_toInt x, Int64.toInt_lt x⟩
theorem iI_rg (x : Int32) : -2147483648 ≤ x.toInt ∧ x.toInt < 2147483648 := ⟨Int32.le_toInt x, Int32.toInt_lt x⟩
theorem iI_l {z : Int} (h1 : -2147483648 ≤ z) (h2 : z < 2147483648) : (iI z).toInt64 = lI z := by
  apply Int64.toInt_inj.mp
  rw [Int32.toInt_toInt64, iI_ti h1 h2, lI_ti (by omega) (by omega)]
theorem lI_i (z : Int) : (lI z).toInt32 = iI z := Int64.toInt32_ofInt
theorem lI_lt {a b : Int} (h1 : -9223372036854775808 ≤ a) (h2 : a < 9223372036854775808) (h3 : -9223372036854775808 ≤ b) (h4 : b < 9223372036854775808) : lI a < lI b ↔ a < b := by
  rw [Int64.lt_iff_toInt_lt, lI_ti h1 h2, lI_ti h3 h4]
theorem lI_le {a b : Int} (h1 : -9223372036854775808 ≤ a) (h2 : a < 9223372036854775808) (h3 : -9223372036854775808 ≤ b) (h4 : b < 9223372036854775808) : lI a ≤ lI b ↔ a ≤ b := by
  rw [Int64.le_iff_toInt_le, lI_ti h1 h2, lI_ti h3 h4]
theorem lI_eq {a b : Int} (h1 : -9223372036854775808 ≤ a) (h2 : a < 9223372036854775808) (h3 : -9223372036854775808 ≤ b) (h4 : b < 9223372036854775808) : lI a = lI b ↔ a = b := by
  rw [← Int64.toInt_inj, lI_ti h1 h2, lI_ti h3 h4]
theorem iI_lt {a b : Int} (h1 : -2147483648 ≤ a) (h2 : a < 2147483648) (h3 : -2147483648 ≤ b) (h4 : b < 2147483648) : iI a < iI b ↔ a < b := by
  rw [Int32.lt_iff_toInt_lt, iI_ti h1 h2, iI_ti h3 h4]
theorem iI_le {a b : Int} (h1 : -2147483648 ≤ a) (h2 : a < 2147483648) (h3 : -2147483648 ≤ b) (h4 : b < 2147483648) : iI a ≤ iI b ↔ a ≤ b := by
  rw [Int32.le_iff_toInt_le, iI_ti h1 h2, iI_ti h3 h4]
theorem iI_eq {a b : Int} (h1 : -2147483648 ≤ a) (h2 : a < 2147483648) (h3 : -2147483648 ≤ b) (h4 : b < 2147483648) : iI a = iI b ↔ a = b := by
  rw [← Int32.toInt_inj, iI_ti h1 h2, iI_ti h3 h4]
theorem iI_tn (z : Int) : (iI z).toBitVec.toNat = (z % 4294967296).toNat := by
  show (BitVec.ofInt 32 z).toNat = _
  rw [BitVec.toNat_ofInt]; rfl
theorem lI_tn (z : Int) : (lI z).toBitVec.toNat = (z % 18446744073709551616).toNat := by
  show (BitVec.ofInt 64 z).toNat = _
  rw [BitVec.toNat_ofInt]; rfl
theorem iI_mask (z : Int) : iI z &&& 1073741823 = nI (z % 1073741824).toNat := by
  rw [pk_and (iI z) (m := 1073741823) 30 rfl, iI_tn]
  congr 1
  omega
theorem lI_shr (z : Int) (h1 : -9223372036854775808 ≤ z) (h2 : z < 9223372036854775808) : hp_lshr (lI z) 30 = lI (z / 1073741824) := by
  apply Int64.toInt_inj.mp
  have hD : ((((30 : Int32).toInt64 &&& 63) : Int64).toBitVec.smod 64).toNat = 30 := by decide
  have e : (hp_lshr (lI z) 30).toInt = (lI z).toInt >>> 30 := by
    rw [← hD]
    exact BitVec.toInt_sshiftRight ..
  rw [e, Int.shiftRight_eq_div_pow, lI_ti h1 h2, lI_ti (by omega) (by omega)]
  rfl
theorem iI_shr (z : Int) (h1 : -2147483648 ≤ z) (h2 : z < 2147483648) : hp_ishr (iI z) 30 = iI (z / 1073741824) := by
  apply Int32.toInt_inj.mp
  have e : (hp_ishr (iI z) 30).toInt = (iI z).toInt >>> 30 := pk_shr (iI z) ((30 : Int32) &&& 31) 30 (by decide)
  rw [e, Int.shiftRight_eq_div_pow, iI_ti h1 h2, iI_ti (by omega) (by omega)]
  rfl
theorem sl_l : ∀ l, l < 32 → (((nI l).toUInt32 &&& Int32.toUInt32 31).toBitVec % 32).toNat = l := by decide +kernel
theorem sl_s : ∀ l, l < 32 → ((nI l &&& 31).toBitVec.smod 32).toNat = l := by decide +kernel
theorem nI_ushr {n k : Nat} (hn : n < 4294967296) (hk : k < 32) : hp_iushr (nI n) (nI k) = nI (n / 2 ^ k) := pk_ushrN hn (nI k) k (sl_l k hk)
theorem nI_shl {n k : Nat} (hn : n < 4294967296) (hk : k < 32) : hp_ishl (nI n) (nI k) = nI (n * 2 ^ k % 4294967296) := by
  apply Int32.toBitVec_inj.mp
  apply BitVec.eq_of_toNat_eq
  show ((nI n) <<< (nI k &&& 31)).toBitVec.toNat = _
  rw [pk_shl _ _ k (sl_s k hk), pk_tn hn, pk_tn (Nat.mod_lt _ (by decide))]
theorem nI_or (a b : Nat) : nI a ||| nI b = nI (a ||| b) := by
  apply Int32.toBitVec_inj.1
  show BitVec.ofNat 32 a ||| BitVec.ofNat 32 b = BitVec.ofNat 32 (a ||| b)
  apply BitVec.eq_of_getLsbD_eq
  intro i hi
  simp [hi]
theorem nI_and (a b : Nat) : nI a &&& nI b = nI (a &&& b) := by
  apply Int32.toBitVec_inj.1
  show BitVec.ofNat 32 a &&& BitVec.ofNat 32 b = BitVec.ofNat 32 (a &&& b)
  apply BitVec.eq_of_getLsbD_eq
  intro i hi
  simp [hi]
theorem nI_mask {n : Nat} (h : n < 4294967296) : nI n &&& 1073741823 = nI (n % 1073741824) := pk_andN h 30 rfl
theorem nI_m {k j : Nat} (h : j ≤ k) : nI k + -nI j = nI (k - j) := by
  rw [nI_iI, nI_iI, iI_neg, iI_add, nI_iI]
  congr 1
  omega
/-! the bits of a number -/
def bl (n : Nat) : Nat := if n = 0 then 0 else n.log2 + 1
theorem bl_le {n k : Nat} : bl n ≤ k ↔ n < 2 ^ k := by
  unfold bl
  by_cases h : n = 0
  · subst h; simp [Nat.two_pow_pos]
  · rw [if_neg h, ← Nat.log2_lt h]; omega
theorem bl_lt {n k : Nat} : k < bl n ↔ 2 ^ k ≤ n := by
  have := bl_le (n := n) (k := k); omega
theorem bl_0 : bl 0 = 0 := rfl
theorem bl_pos {n : Nat} (h : n ≠ 0) : 0 < bl n := bl_lt.mpr (by simp; omega)
theorem bl_self (n : Nat) : n < 2 ^ bl n := bl_le.mp (Nat.le_refl _)
theorem bl_eq {n k : Nat} (h1 : 2 ^ k ≤ n) (h2 : n < 2 ^ (k + 1)) : bl n = k + 1 := by
  have := bl_lt.mpr h1; have := bl_le.mpr h2; omega
theorem bl_mono {a b : Nat} (h : a ≤ b) : bl a ≤ bl b := bl_le.mpr (Nat.lt_of_le_of_lt h (bl_self b))
theorem bl_div (x j : Nat) : bl (x / 2 ^ j) = bl x - j := by
  apply Nat.le_antisymm
  · rw [bl_le, Nat.div_lt_iff_lt_mul (Nat.two_pow_pos j), ← Nat.pow_add]
    exact Nat.lt_of_lt_of_le (bl_self x) (Nat.pow_le_pow_right (by decide) (by omega))
  · have h := bl_self (x / 2 ^ j)
    rw [Nat.div_lt_iff_lt_mul (Nat.two_pow_pos j), ← Nat.pow_add] at h
    have := bl_le.mpr h
    omega
theorem bl_add {lo t k : Nat} (ht : t ≠ 0) (hl : lo < 2 ^ k) : bl (lo + t * 2 ^ k) = k + bl t := by
  have e := bl_div (lo + t * 2 ^ k) k
  rw [Nat.add_mul_div_right _ _ (Nat.two_pow_pos k), Nat.div_eq_of_lt hl, Nat.zero_add] at e
  have := bl_pos ht
  omega
