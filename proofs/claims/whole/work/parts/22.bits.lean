/-! Natural: its bits -/
theorem nlz_73 {x k : Nat} (h0 : 0 < x) (h : x < 4) (hk : 1 ≤ k) : bJ6_numberOfLeadingZeros_0f7a4_73 (nI x) (nI k) = some (nI (k + 1 - bl x)) := by
  unfold bJ6_numberOfLeadingZeros_0f7a4_73
  rw [ni1, nI_ushr (by omega) (by omega), pk_sub (by omega)]
  have : x / 2 ^ 1 + 1 = bl x := by
    rcases (show x = 1 ∨ x = 2 ∨ x = 3 by omega) with rfl | rfl | rfl <;> decide
  congr 2
  omega
theorem nlz_st {x k j : Nat} (hx : 2 ^ j ≤ x) : k - j + 1 - bl (x / 2 ^ j) = k + 1 - bl x ∨ k < j := by
  have := bl_lt.mpr hx
  rw [bl_div]
  omega
theorem nlz_61 {x k : Nat} (h0 : 0 < x) (h : x < 16) (hk : 3 ≤ k) : bJ6_numberOfLeadingZeros_0f7a4_61 (nI x) (nI k) = some (nI (k + 1 - bl x)) := by
  unfold bJ6_numberOfLeadingZeros_0f7a4_61
  rw [show (4 : Int32) = nI 4 from rfl]
  by_cases h4 : x < 4
  · rw [if_pos ((nI_ltI (by omega) (by omega)).mpr h4)]
    exact nlz_73 h0 h4 (by omega)
  · rw [if_neg (fun q => h4 ((nI_ltI (by omega) (by omega)).mp q)), Option.bind_some, show (-2 : Int32) = -nI 2 from rfl, nI_m (by omega), Option.bind_some, ni2, nI_ushr (by omega) (by omega), nlz_73 (by omega) (by omega) (by omega)]
    have := nlz_st (x := x) (k := k) (j := 2) (by omega)
    congr 2
    omega
theorem nlz_48 {x k : Nat} (h0 : 0 < x) (h : x < 256) (hk : 7 ≤ k) : bJ6_numberOfLeadingZeros_0f7a4_48 (nI x) (nI k) = some (nI (k + 1 - bl x)) := by
  unfold bJ6_numberOfLeadingZeros_0f7a4_48
  rw [show (16 : Int32) = nI 16 from rfl]
  by_cases h4 : x < 16
  · rw [if_pos ((nI_ltI (by omega) (by omega)).mpr h4)]
    exact nlz_61 h0 h4 (by omega)
  · rw [if_neg (fun q => h4 ((nI_ltI (by omega) (by omega)).mp q)), Option.bind_some, show (-4 : Int32) = -nI 4 from rfl, nI_m (by omega), Option.bind_some, show (4 : Int32) = nI 4 from rfl, nI_ushr (by omega) (by omega), nlz_61 (by omega) (by omega) (by omega)]
    have := nlz_st (x := x) (k := k) (j := 4) (by omega)
    congr 2
    omega
theorem nlz_33 {x k : Nat} (h0 : 0 < x) (h : x < 65536) (hk : 15 ≤ k) (hk2 : k < 32) : bJ6_numberOfLeadingZeros_0f7a4_33 (nI x) (nI k) = some (nI (k + 1 - bl x)) := by
  unfold bJ6_numberOfLeadingZeros_0f7a4_33
  rw [show (256 : Int32) = nI 256 from rfl]
  by_cases h4 : x < 256
  · rw [if_pos ((nI_ltI (by omega) (by omega)).mpr h4)]
    exact nlz_48 h0 h4 (by omega)
  · rw [if_neg (fun q => h4 ((nI_ltI (by omega) (by omega)).mp q)), Option.bind_some, show (-8 : Int32) = -nI 8 from rfl, nI_m (by omega), Option.bind_some, show (8 : Int32) = nI 8 from rfl, nI_ushr (by omega) (by omega), nlz_48 (by omega) (by omega) (by omega)]
    have := nlz_st (x := x) (k := k) (j := 8) (by omega)
    congr 2
    omega
theorem nlz_eq {x : Nat} (h0 : 0 < x) (h : x < 2147483648) : fJ6_numberOfLeadingZeros_0f7a4 (nI x) = some (nI (32 - bl x)) := by
  unfold fJ6_numberOfLeadingZeros_0f7a4
  rw [ni0, if_pos ((nI_ltI (by omega) (by omega)).mpr h0), show (65536 : Int32) = nI 65536 from rfl]
  by_cases h4 : x < 65536
  · rw [if_pos ((nI_ltI (by omega) (by omega)).mpr h4)]
    exact nlz_33 (k := 31) h0 h4 (by omega) (by omega)
  · rw [if_neg (fun q => h4 ((nI_ltI (by omega) (by omega)).mp q)), Option.bind_some, show (31 : Int32) = nI 31 from rfl, show (-16 : Int32) = -nI 16 from rfl, nI_m (by omega), Option.bind_some, show (16 : Int32) = nI 16 from rfl, nI_ushr (by omega) (by omega), nlz_33 (by omega) (by omega) (by omega) (by omega)]
    have := nlz_st (x := x) (k := 31) (j := 16) (by omega)
    congr 2
    omega
/-- the number that a Natural in order tells -/
def nv (h : hp_H) (a b v : Nat) : Prop := ∃ c g, nt h a b c g ∧ vl 1073741824 g c = v
theorem p30 (n : Nat) : 1073741824 ^ n = 2 ^ (30 * n) := by rw [Nat.pow_mul]
theorem nt_bl {h : hp_H} {a b c : Nat} {g : Nat → Nat} (H : nt h a b (c + 1) g) : bl (vl 1073741824 g (c + 1)) = 30 * c + bl (g c) := by
  obtain ⟨H, hc, hg, ht⟩ := H
  have h1 := vl_lt (B := 1073741824) (n := c) (fun i hi => hg i (by omega))
  rw [vl, p30]
  rw [p30] at h1
  exact bl_add (ht (by omega)) h1
theorem spareBits_eq {h : hp_H} {a b c : Nat} {g : Nat → Nat} (H : nt h a b c g) : fX2_spareBits a h = some (nI (30 * c - bl (vl 1073741824 g c))) := by
  unfold fX2_spareBits
  rw [if_pos (nr_o H.1), nr_c H.1, Option.bind_some]
  cases c with
  | zero => rfl
  | succ c =>
    have h2 : g c < 1073741824 := H.2.2.1 c (by omega)
    have h3 : g c ≠ 0 := H.2.2.2 (by omega)
    have hc := H.2.1
    have h4 : bl (g c) ≤ 30 := bl_le.mpr h2
    rw [if_neg (nI_ne0 (by omega) (by omega)), Option.bind_some, nI_pred, limb_eq H.1 hc (by omega), Option.bind_some]
    rw [show dg (c + 1) g c = g c by simp [dg], nlz_eq (by omega) (by omega), Option.bind_some, ni2, pk_sub (by omega), nt_bl H]
    congr 2
    omega
theorem bitLength_eq {h : hp_H} {a b v : Nat} (H : nv h a b v) : fX2_bitLength a h = some (nI (bl v)) := by
  obtain ⟨c, g, H, rfl⟩ := H
  unfold fX2_bitLength
  rw [if_pos (nr_o H.1), nr_c H.1, Option.bind_some, spareBits_eq H, Option.bind_some, ni30, pk_mul, pk_sub (by omega)]
  have : bl (vl 1073741824 g c) ≤ 30 * c := bl_le.mpr (by rw [← p30]; exact vl_lt H.2.2.1)
  congr 2
  omega
theorem nv_lt {h : hp_H} {a b v : Nat} (H : nv h a b v) : bl v ≤ 4200 := by
  obtain ⟨c, g, H, rfl⟩ := H
  have h1 : bl (vl 1073741824 g c) ≤ 30 * c := bl_le.mpr (by rw [← p30]; exact vl_lt H.2.2.1)
  have := H.2.1
  omega
theorem isZero_v {h : hp_H} {a b v : Nat} (H : nv h a b v) : fX2_isZero a h = some (if v = 0 then 1 else 0) := by
  obtain ⟨c, g, H, rfl⟩ := H
  rw [isZero_eq H.1 H.2.1]
  congr 1
  by_cases h0 : c = 0
  · subst h0; rfl
  · rw [if_neg h0, if_neg]
    obtain ⟨m, rfl⟩ : ∃ m, c = m + 1 := ⟨c - 1, by omega⟩
    have := vl_ge (B := 1073741824) (H.2.2.2 (by omega) : g (m + 1 - 1) ≠ 0)
    have h2 : 0 < 1073741824 ^ m := Nat.pow_pos (by decide)
    simp only [Nat.add_sub_cancel] at this
    omega
/-- bits i to i + 29 -/
theorem limbFrom_raw {h : hp_H} {a b c : Nat} {g : Nat → Nat} (H : nr h a b c g) (hc : c ≤ 140) (hgl : ∀ i, i < c → g i < 1073741824) {i : Nat} (hi : i < 2147483648) : fX2_limbFrom a (nI i) h = some (nI (vl 1073741824 g c / 2 ^ i % 1073741824)) := by
  obtain ⟨p, w, hw, rfl⟩ : ∃ p w, w < 30 ∧ i = 30 * p + w := ⟨i / 30, i % 30, Nat.mod_lt _ (by decide), by omega⟩
  have hp : (30 * p + w) / 30 = p := by omega
  have hq : (30 * p + w) % 30 = w := by omega
  unfold fX2_limbFrom
  rw [if_pos (nr_o H), Option.bind_some, ni30, pk_div (by omega) (by omega) (by omega), hp]
  rw [Option.bind_some]
  unfold hp_irem
  rw [pk_rem (by omega) (by omega) (by omega), hq, limb_eq H hc (by omega), Option.bind_some, nI_1, limb_eq H hc (by omega), Option.bind_some]
  have hx := dg_lt hgl p
  have hy := dg_lt hgl (p + 1)
  rw [nI_ushr (by omega) (by omega), pk_sub (by omega), nI_shl (by omega) (by omega), nI_or]
  have ex : vl 1073741824 g c / 2 ^ (30 * p + w) = (vl 1073741824 (dg c g) (c + p + 2) / 1073741824 ^ p) / 2 ^ w := by
    rw [vl_dg _ _ _ (by omega), Nat.pow_add, ← p30, Nat.div_div_eq_div_mul]
  rw [vl_div (by decide) (by omega) (fun i _ => dg_lt hgl i), show c + p + 2 - p = 2 + c by omega, vl_add] at ex
  generalize vl 1073741824 (fun i => dg c g (p + (2 + i))) c = U at ex
  simp only [vl, Nat.pow_zero, Nat.pow_one, Nat.add_zero, Nat.zero_add, Nat.mul_one] at ex
  generalize dg c g p = x at *
  generalize dg c g (p + 1) = y at *
  rw [ex]
  have e2 : (2 : Nat) ^ 30 = 2 ^ w * 2 ^ (30 - w) := by rw [← Nat.pow_add]; congr 1; omega
  have e3 : (2 : Nat) ^ (30 - w) * 2 ^ w = 1073741824 := by rw [Nat.mul_comm, ← e2]
  have hpos : 0 < 2 ^ w := Nat.two_pow_pos w
  have e4 : (x + y * 1073741824 + 1073741824 ^ 2 * U) / 2 ^ w = x / 2 ^ w + (y + 1073741824 * U) * 2 ^ (30 - w) := by
    rw [← e3]
    rw [show x + y * (2 ^ (30 - w) * 2 ^ w) + (2 ^ (30 - w) * 2 ^ w) ^ 2 * U = x + ((y + (2 ^ (30 - w) * 2 ^ w) * U) * 2 ^ (30 - w)) * 2 ^ w by grind]
    rw [Nat.add_mul_div_right _ _ hpos]
  rw [e4]
  have hxl : x / 2 ^ w < 2 ^ (30 - w) := by
    rw [Nat.div_lt_iff_lt_mul hpos, e3]; exact hx
  have hor : x / 2 ^ w ||| y * 2 ^ (30 - w) % 4294967296 = x / 2 ^ w + y * 2 ^ (30 - w) % 4294967296 := by
    have e5 : (4294967296 : Nat) = 2 ^ (30 - w) * 2 ^ (w + 2) := by rw [← Nat.pow_add, show 30 - w + (w + 2) = 32 by omega]
    rw [e5, Nat.mul_comm y, Nat.mul_mod_mul_left, Nat.or_comm, ← Nat.two_pow_add_eq_or_of_lt hxl]
    exact Nat.add_comm _ _
  have hl2 : x / 2 ^ w < 1073741824 := Nat.lt_of_le_of_lt (Nat.div_le_self _ _) hx
  rw [hor, nI_iI, iI_mask]
  congr 2
  have e6 : (y + 1073741824 * U) * 2 ^ (30 - w) = y * 2 ^ (30 - w) + 1073741824 * (U * 2 ^ (30 - w)) := by grind
  rw [e6]
  generalize y * 2 ^ (30 - w) = Y
  generalize U * 2 ^ (30 - w) = Z
  omega
theorem limbFrom_eq {h : hp_H} {a b v : Nat} (H : nv h a b v) {i : Nat} (hi : i < 2147483648) : fX2_limbFrom a (nI i) h = some (nI (v / 2 ^ i % 1073741824)) := by
  obtain ⟨c, g, H, rfl⟩ := H
  exact limbFrom_raw H.1 H.2.1 H.2.2.1 hi
