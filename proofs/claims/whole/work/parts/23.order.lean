/-! Natural: comparing; are there bits below -/
def cmpI (x y : Nat) : Int32 := if x < y then -1 else if x = y then 0 else 1
theorem order_loop {h : hp_H} {a b a' b' c : Nat} {g g' : Nat → Nat} (H : nt h a b c g) (H' : nt h a' b' c g') : ∀ (j n : Nat), j ≤ c → j < n → (∀ i, j ≤ i → i < c → g i = g' i) → bX2_order_35 a a' h n (iI ((j : Int) - 1)) = some (cmpI (vl 1073741824 g c) (vl 1073741824 g' c)) := by
  have hc := H.2.1
  intro j
  induction j with
  | zero =>
    intro n _ hn he
    obtain ⟨m, rfl⟩ : ∃ m, n = m + 1 := ⟨n - 1, by omega⟩
    rw [bX2_order_35, if_pos (by decide), cmpI, vl_congr (g := g) (g' := g') (fun i hi => he i (by omega) hi)]
    simp
  | succ j ih =>
    intro n hj hn he
    obtain ⟨m, rfl⟩ : ∃ m, n = m + 1 := ⟨n - 1, by omega⟩
    have e1 : iI (((j + 1 : Nat) : Int) - 1) = nI j := by rw [nI_iI]; congr 1; omega
    have hg := H.2.2.1 j (by omega)
    have hg' := H'.2.2.1 j (by omega)
    rw [e1, bX2_order_35, if_neg (nI_lt0 (by omega)), nr_l H.1, Option.bind_some, nr_rd H.1 (by omega), Option.bind_some, nr_l H'.1, Option.bind_some, nr_rd H'.1 (by omega), Option.bind_some]
    by_cases e : g j = g' j
    · rw [if_pos (by rw [e]), Option.bind_some, show nI j + (-1 : Int32) = iI ((j : Int) - 1) by rw [nI_iI, show (-1 : Int32) = iI (-1) from rfl, iI_add]; rfl]
      exact ih m (by omega) (by omega) (fun i h1 h2 => by
        by_cases hij : i = j
        · subst hij; exact e
        · exact he i (by omega) h2)
    · rw [if_neg (fun q => e ((nI_eq (by omega) (by omega)).mp q)), Option.bind_some, nr_rd H.1 (by omega), Option.bind_some, Option.bind_some, nr_rd H'.1 (by omega), Option.bind_some]
      by_cases hl : g' j ≤ g j
      · rw [if_pos ((nI_leI (by omega) (by omega)).mpr hl), cmpI]
        have := vl_cmp (B := 1073741824) (g := g') (g' := g) (n := c) (k := j) (by omega) H'.2.2.1 (fun i h1 h2 => (he i (by omega) h2).symm) (by omega)
        rw [if_neg (by omega), if_neg (by omega)]
      · rw [if_neg (fun q => hl ((nI_leI (by omega) (by omega)).mp q)), cmpI]
        have := vl_cmp (B := 1073741824) (g := g) (g' := g') (n := c) (k := j) (by omega) H.2.2.1 (fun i h1 h2 => he i (by omega) h2) (by omega)
        rw [if_pos (by omega)]
theorem nt_cnt_lt {h h' : hp_H} {a b a' b' c c' : Nat} {g g' : Nat → Nat} (H : nt h a b c g) (H' : nt h' a' b' c' g') (hl : c < c') : vl 1073741824 g c < vl 1073741824 g' c' := by
  have h1 := vl_lt H.2.2.1
  obtain ⟨m, rfl⟩ : ∃ m, c' = m + 1 := ⟨c' - 1, by omega⟩
  have h2 := vl_ge (B := 1073741824) (H'.2.2.2 (by omega) : g' (m + 1 - 1) ≠ 0)
  simp only [Nat.add_sub_cancel] at h2
  have h3 : 1073741824 ^ c ≤ 1073741824 ^ m := Nat.pow_le_pow_right (by decide) (by omega)
  omega
theorem order_eq {h : hp_H} {a b a' b' v v' : Nat} (H : nv h a b v) (H' : nv h a' b' v') : fX2_order a a' h = some (cmpI v v') := by
  obtain ⟨c, g, H, rfl⟩ := H
  obtain ⟨c', g', H', rfl⟩ := H'
  have hc := H.2.1
  have hc' := H'.2.1
  unfold fX2_order
  rw [if_pos (nr_o H.1), nr_c H.1, Option.bind_some, nr_c H'.1, Option.bind_some]
  by_cases e : c = c'
  · subst e
    rw [if_pos rfl, Option.bind_some, Option.bind_some, show nI c - (1 : Int32) = iI ((c : Int) - 1) by rw [nI_iI, show (1 : Int32) = iI 1 from rfl, iI_sub]]
    exact order_loop H H' c hp_n (Nat.le_refl _) (by unfold hp_n; omega) (fun i h1 h2 => by omega)
  · rw [if_neg (fun q => e ((nI_eq (by omega) (by omega)).mp q)), Option.bind_some, Option.bind_some]
    by_cases hl : c' ≤ c
    · have := nt_cnt_lt H' H (by omega)
      rw [if_pos ((nI_leI (by omega) (by omega)).mpr hl), cmpI, if_neg (by omega), if_neg (by omega)]
    · have := nt_cnt_lt H H' (by omega)
      rw [if_neg (fun q => hl ((nI_leI (by omega) (by omega)).mp q)), cmpI, if_pos (by omega)]
/-- one of the lowest n bits -/
theorem any_37 {h : hp_H} {a b c : Nat} {g : Nat → Nat} (H : nt h a b c g) {p w : Nat} (hw : w < 30) (hp : 30 * p + w < 2147483648) (hz : ∀ i, i < p → dg c g i = 0) : bX2_anyBitBelow_37 a (nI (30 * p + w)) (nI p) h = some (if vl 1073741824 g c % 2 ^ (30 * p + w) = 0 then 0 else 1) := by
  unfold bX2_anyBitBelow_37 hp_irem
  have hx := dg_lt H.2.2.1 p
  have h2 : 2 ^ w ≤ 2 ^ 29 := Nat.pow_le_pow_right (by decide) (by omega)
  rw [limb_eq H.1 H.2.1 (by omega), Option.bind_some, ni30, pk_rem (by omega) (by omega) (by omega), show (30 * p + w) % 30 = w by omega, ni1, nI_shl (by omega) (by omega), Nat.one_mul, Nat.mod_eq_of_lt (by omega), pk_sub (Nat.two_pow_pos w), nI_and, Nat.and_two_pow_sub_one_eq_mod]
  have e : vl 1073741824 g c % 2 ^ (30 * p + w) = 1073741824 ^ p * (dg c g p % 2 ^ w) := by
    rw [← vl_dg 1073741824 c g (n := p + (1 + c)) (by omega), vl_add, vl_zero hz, Nat.zero_add, Nat.pow_add, ← p30, Nat.mul_mod_mul_left]
    congr 1
    rw [vl_add]
    simp only [vl, Nat.pow_zero, Nat.pow_one, Nat.add_zero, Nat.zero_add, Nat.mul_one]
    rw [show (1073741824 : Nat) = 2 ^ w * 2 ^ (30 - w) by rw [← Nat.pow_add, show w + (30 - w) = 30 by omega], Nat.mul_assoc, Nat.add_mul_mod_self_left]
  have hpos : 0 < 1073741824 ^ p := Nat.pow_pos (by decide)
  have hm : dg c g p % 2 ^ w < 4294967296 := by
    have := Nat.mod_le (dg c g p) (2 ^ w)
    omega
  rw [e]
  by_cases h0 : dg c g p % 2 ^ w = 0
  · rw [if_pos ((nI_zero hm).mpr h0), h0, Nat.mul_zero, if_pos rfl]
  · rw [if_neg (fun q => h0 ((nI_zero hm).mp q)), if_neg]
    intro q
    rcases Nat.mul_eq_zero.mp q with q | q
    · omega
    · exact h0 q
theorem any_loop {h : hp_H} {a b c : Nat} {g : Nat → Nat} (H : nt h a b c g) {p w : Nat} (hw : w < 30) (hp : 30 * p + w < 2147483648) : ∀ (d k n : Nat), c - k ≤ d → k ≤ p → d < n → (∀ i, i < k → dg c g i = 0) → bX2_anyBitBelow_7 a (nI (30 * p + w)) (nI p) h n (nI k) = some (if vl 1073741824 g c % 2 ^ (30 * p + w) = 0 then 0 else 1) := by
  have hc := H.2.1
  intro d
  induction d with
  | zero =>
    intro k n hd hk hn hz
    obtain ⟨m, rfl⟩ : ∃ m, n = m + 1 := ⟨n - 1, by omega⟩
    have e37 := any_37 H hw hp (fun i hi => by
      by_cases hik : i < k
      · exact hz i hik
      · simp [dg]; omega)
    rw [bX2_anyBitBelow_7]
    by_cases hkp : p ≤ k
    · rw [if_pos ((nI_leI (by omega) (by omega)).mpr hkp)]; exact e37
    · rw [if_neg (fun q => hkp ((nI_leI (by omega) (by omega)).mp q)), nr_c H.1, Option.bind_some, if_pos ((nI_leI (by omega) (by omega)).mpr (by omega))]; exact e37
  | succ d ih =>
    intro k n hd hk hn hz
    obtain ⟨m, rfl⟩ : ∃ m, n = m + 1 := ⟨n - 1, by omega⟩
    rw [bX2_anyBitBelow_7]
    by_cases hkp : p ≤ k
    · rw [if_pos ((nI_leI (by omega) (by omega)).mpr hkp)]
      exact any_37 H hw hp (fun i hi => hz i (by omega))
    · rw [if_neg (fun q => hkp ((nI_leI (by omega) (by omega)).mp q)), nr_c H.1, Option.bind_some]
      by_cases hkc : c ≤ k
      · rw [if_pos ((nI_leI (by omega) (by omega)).mpr hkc)]
        exact any_37 H hw hp (fun i hi => by
          by_cases hik : i < k
          · exact hz i hik
          · simp [dg]; omega)
      · have hg := H.2.2.1 k (by omega)
        rw [if_neg (fun q => hkc ((nI_leI (by omega) (by omega)).mp q)), nr_l H.1, Option.bind_some, nr_rd H.1 (by omega), Option.bind_some]
        by_cases h0 : g k = 0
        · rw [if_pos ((nI_zero (by omega)).mpr h0), Option.bind_some, nI_1]
          exact ih (k + 1) m (by omega) (by omega) (by omega) (fun i hi => by
            by_cases hik : i = k
            · subst hik; simp [dg, h0]
            · exact hz i (by omega))
        · rw [if_neg (fun q => h0 ((nI_zero (by omega)).mp q)), if_neg]
          intro q
          have e : vl 1073741824 g c % 1073741824 ^ (k + 1) = 0 := by
            have hd : (1073741824 ^ (k + 1)) ∣ 2 ^ (30 * p + w) := by
              rw [p30]; exact Nat.pow_dvd_pow 2 (by omega)
            exact Nat.mod_eq_zero_of_dvd (Nat.dvd_trans hd (Nat.dvd_of_mod_eq_zero q))
          rw [vl_mod (by omega) (fun i hi => H.2.2.1 i (by omega)), vl] at e
          have : 0 < g k * 1073741824 ^ k := Nat.mul_pos (by omega) (Nat.pow_pos (by decide))
          omega
theorem anyBitBelow_eq {h : hp_H} {a b v : Nat} (H : nv h a b v) {n : Nat} (hn : n < 2147483648) : fX2_anyBitBelow a (nI n) h = some (if v % 2 ^ n = 0 then 0 else 1) := by
  obtain ⟨c, g, H, rfl⟩ := H
  have hc := H.2.1
  unfold fX2_anyBitBelow
  rw [if_pos (nr_o H.1), Option.bind_some, ni30, pk_div (by omega) (by omega) (by omega), ni0]
  have := any_loop H (p := n / 30) (w := n % 30) (Nat.mod_lt _ (by decide)) (by omega) c 0 hp_n (by omega) (by omega) (by unfold hp_n; omega) (fun i hi => by omega)
  rw [show 30 * (n / 30) + n % 30 = n by omega] at this
  exact this
