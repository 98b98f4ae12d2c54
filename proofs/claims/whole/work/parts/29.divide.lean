/-! Long division -/
def ds (h : hp_H) (d q r v : Nat) : Prop := h d = some (.inr (.inr (.inr (1, [.ref q, .ref r, .ref v]))))
theorem ds_o {h : hp_H} {d q r v : Nat} (D : ds h d q r v) : hp_o h d 1 = true := by unfold ds at D; simp [hp_o, D]
theorem ds_q {h : hp_H} {d q r v : Nat} (D : ds h d q r v) : hp_gr h d 1 0 = some q := by unfold ds at D; simp [hp_gr, hp_gv, D]
theorem ds_r {h : hp_H} {d q r v : Nat} (D : ds h d q r v) : hp_gr h d 1 1 = some r := by unfold ds at D; simp [hp_gr, hp_gv, D]
theorem ds_v {h : hp_H} {d q r v : Nat} (D : ds h d q r v) : hp_gr h d 1 2 = some v := by unfold ds at D; simp [hp_gr, hp_gv, D]
theorem ds_fr {h h' : hp_H} {d q r v a b : Nat} (D : ds h d q r v) (F : fr h h' a b) (h1 : d ≠ a) (h2 : d ≠ b) : ds h' d q r v := (F d h1 h2).trans D
theorem lN_hd {x y : Nat} (hx : x < 1073741824) (hy : y < 1073741824) : hp_lshl (Int32.toInt64 (nI x)) 30 ||| Int32.toInt64 (nI y) = lN (x * 1073741824 + y) := by
  rw [nI_l (by omega), nI_l (by omega), lN_or30 hx hy]
theorem guess_58 {h : hp_H} {d q r v vb cv : Nat} {gv : Nat → Nat} (D : ds h d q r v) (Vn : nt h v vb cv gv) {V R P lead next lo head below rl : Nat} (hc : 1 ≤ cv) (el : gv (cv - 1) = lead) (en : (if cv = 1 then 0 else gv (cv - 2)) = next) (hV : V = (lead * 1073741824 + next) * P + lo) (hlo : lo < P) (hR : R = (head * 1073741824 + below) * P + rl) (hrl : rl < P) (hb : below < 1073741824) (hq : R < 1073741824 * V) (hl1 : 536870912 ≤ lead) :
    ∃ q, bX1_guessDigit_58 d (lN head) (lN below) h = some (nI q) ∧ q < 1073741824 ∧ R < (q + 1) * V ∧ q * V < R + V := by
  have hcv := Vn.2.1
  have hl2 : lead < 1073741824 := by rw [← el]; exact Vn.2.2.1 _ (by omega)
  have hn : next < 1073741824 := by
    rw [← en]; split
    · decide
    · exact Vn.2.2.1 _ (by omega)
  have hhd := kn_head hV hlo hn hR hq
  have hh2 : head < 1152921504606846976 := by
    have : (lead + 1) * 1073741824 ≤ 1073741824 * 1073741824 := Nat.mul_le_mul_right _ hl2
    omega
  have e2 : fX2_limb v (nI cv - (2 : Int32)) h = some (nI next) := by
    by_cases h1 : cv = 1
    · subst h1
      rw [if_pos rfl] at en
      subst en
      exact limb_neg Vn.1 (by decide)
    · rw [if_neg h1] at en
      rw [ni2, pk_sub (by omega), limb_eq Vn.1 hcv (by omega)]
      simp only [dg]
      rw [if_pos (by omega), en]
  have e1 : fX2_limb v (nI cv - (1 : Int32)) h = some (nI lead) := by
    rw [ni1, pk_sub (by omega), limb_eq Vn.1 hcv (by omega)]
    simp only [dg]
    rw [if_pos (by omega), el]
  unfold bX1_guessDigit_58
  have ne : ¬ lN lead = (0 : Int64) := by
    rw [show (0 : Int64) = lN 0 from rfl, pk_lEQ (by omega) (by omega)]; omega
  rw [ds_v D, Option.bind_some, Option.bind_some, nr_c Vn.1, Option.bind_some, e1, Option.bind_some, nI_l (by omega), Option.bind_some, Option.bind_some, Option.bind_some, nr_c Vn.1, Option.bind_some, e2, Option.bind_some, nI_l (by omega), Option.bind_some, if_neg ne, if_pos ne, pk_lDiv (by omega) (by omega) (by omega), Option.bind_some, if_pos ne]
  unfold hp_lrem
  rw [pk_lRem (by omega) (by omega) (by omega), Option.bind_some]
  have dm := Nat.div_add_mod head lead
  have ml := Nat.mod_lt head (show 0 < lead by omega)
  have dl : head / lead < 4294967296 := by
    rw [Nat.div_lt_iff_lt_mul (by omega)]
    have : 4294967296 * 536870912 ≤ 4294967296 * lead := Nat.mul_le_mul_left _ hl1
    omega
  refine guess_loop hV hlo hn hR hrl hb hq hl1 hl2 2 0 hp_n (head / lead) (head % lead) (by omega) (by omega) (by unfold hp_n; omega) (by rw [Nat.mul_comm]; exact dm) (by omega) (by omega) dl ?_
  -- the quotient's digit is not above head / lead
  rcases Nat.lt_or_ge R ((head / lead + 1) * V) with z | z
  · exact z
  · exfalso
    have hlt : head < (head / lead + 1) * lead := by
      have : (head / lead + 1) * lead = lead * (head / lead) + lead := by grind
      omega
    have h1 : (head + 1) * (1073741824 * P) ≤ (head / lead + 1) * lead * (1073741824 * P) := Nat.mul_le_mul_right _ hlt
    have h2 : (head / lead + 1) * lead * (1073741824 * P) ≤ (head / lead + 1) * V := by
      rw [Nat.mul_assoc]
      apply Nat.mul_le_mul_left
      rw [hV]
      have : (lead * 1073741824 + next) * P = lead * (1073741824 * P) + next * P := by grind
      omega
    have h3 : R < (head + 1) * (1073741824 * P) := by
      rw [hR]
      have h4 : (below + 1) * P ≤ 1073741824 * P := Nat.mul_le_mul_right _ hb
      have h5 : (head * 1073741824 + below) * P + P = head * (1073741824 * P) + (below + 1) * P := by grind
      have h6 : (head + 1) * (1073741824 * P) = head * (1073741824 * P) + 1073741824 * P := by grind
      omega
    omega
theorem g1_lo {X L q below : Nat} (h : (X * 1073741824 + below) * 1 + 0 < (q + 1) * ((L * 1073741824 + 0) * 1 + 0)) : X < (q + 1) * L := by
  have : (q + 1) * ((L * 1073741824 + 0) * 1 + 0) = (q + 1) * L * 1073741824 := by grind
  omega
theorem g1_hi {X L q below : Nat} (hb : below < 1073741824) (h : q * ((L * 1073741824 + 0) * 1 + 0) < (X * 1073741824 + below) * 1 + 0 + ((L * 1073741824 + 0) * 1 + 0)) : q * L ≤ X + L := by
  have : q * ((L * 1073741824 + 0) * 1 + 0) = q * L * 1073741824 := by grind
  omega
theorem guess_eq {h : hp_H} {d q r rb cr v vb cv p : Nat} {g gv : Nat → Nat} (D : ds h d q r v) (Rn : nr h r rb cr g) (Vn : nt h v vb cv gv) (hc : 1 ≤ cv) (hl1 : 536870912 ≤ gv (cv - 1)) (hp : p + cv < 140) (hg : ∀ i, i ≤ p + cv → g i < 1073741824) (hq : vl 1073741824 (fun i => g (p + i)) (cv + 1) < 1073741824 * vl 1073741824 gv cv) :
    ∃ q, fX1_guessDigit d (nI p) h = some (nI q) ∧ q < 1073741824 ∧ vl 1073741824 (fun i => g (p + i)) (cv + 1) < (q + 1) * vl 1073741824 gv cv ∧ q * vl 1073741824 gv cv ≤ vl 1073741824 (fun i => g (p + i)) (cv + 1) + vl 1073741824 gv cv := by
  have g1 := hg (p + cv) (Nat.le_refl _)
  have g2 := hg (p + cv - 1) (by omega)
  unfold fX1_guessDigit
  rw [if_pos (ds_o D), ds_v D, Option.bind_some, nr_c Vn.1, Option.bind_some, nI_add, Option.bind_some, ds_r D, Option.bind_some, nr_l Rn, Option.bind_some, nr_rd Rn hp, Option.bind_some, Option.bind_some, nr_l Rn, Option.bind_some, ni1, pk_sub (by omega), nr_rd Rn (by omega), Option.bind_some, lN_hd g1 g2, Option.bind_some]
  by_cases h1 : cv = 1
  · subst h1
    have ex : vl 1073741824 (fun i => g (p + i)) (1 + 1) = g (p + 1) * 1073741824 + g p := by simp [vl]; omega
    have ey : vl 1073741824 gv 1 = gv 0 := by simp [vl]
    rw [ex, ey] at hq ⊢
    obtain ⟨below, hb, e3⟩ : ∃ below, below < 1073741824 ∧ (if nI (p + 1) < (2 : Int32) then bX1_guessDigit_58 d (lN (g (p + 1) * 1073741824 + g (p + 1 - 1))) (0 : Int64) h
        else (some r).bind fun v22 => (hp_gr h v22 2 0).bind fun v24 => (hp_ai h 0 v24 (nI (p + 1) - (2 : Int32))).bind fun v26 => bX1_guessDigit_58 d (lN (g (p + 1) * 1073741824 + g (p + 1 - 1))) (Int32.toInt64 v26) h) = bX1_guessDigit_58 d (lN (g (p + 1) * 1073741824 + g p)) (lN below) h := by
      by_cases hp0 : p = 0
      · subst hp0
        exact ⟨0, by decide, by rw [if_pos (by decide)]; rfl⟩
      · refine ⟨g (p - 1), hg _ (by omega), ?_⟩
        have gb := hg (p - 1) (by omega)
        rw [ni2, if_neg (fun q => by have := (nI_ltI (by omega) (by omega)).mp q; omega), Option.bind_some, nr_l Rn, Option.bind_some, pk_sub (by omega), nr_rd Rn (by omega), Option.bind_some, show p + 1 - 2 = p - 1 by omega, nI_l (by omega), Nat.add_sub_cancel]
    rw [e3]
    obtain ⟨q, q1, q2, q3, q4⟩ := guess_58 D Vn (V := (gv 0 * 1073741824 + 0) * 1 + 0) (R := ((g (p + 1) * 1073741824 + g p) * 1073741824 + below) * 1 + 0) (P := 1) (lead := gv 0) (next := 0) (lo := 0) (head := g (p + 1) * 1073741824 + g p) (below := below) (rl := 0) (by omega) rfl (if_pos rfl) rfl (by omega) rfl (by omega) hb (by omega) (by simpa using hl1)
    refine ⟨q, q1, q2, ?_, ?_⟩
    · exact g1_lo q3
    · exact g1_hi hb q4
  · obtain ⟨e, rfl⟩ : ∃ e, cv = e + 2 := ⟨cv - 2, by omega⟩
    have gb := hg (p + e) (by omega)
    rw [ni2, if_neg (fun q => by have := (nI_ltI (by omega) (by omega)).mp q; omega), Option.bind_some, nr_l Rn, Option.bind_some, pk_sub (by omega), nr_rd Rn (by omega), Option.bind_some, show p + (e + 2) - 2 = p + e by omega, nI_l (by omega)]
    have lo1 : vl 1073741824 gv e < 1073741824 ^ e := vl_lt (fun i hi => Vn.2.2.1 i (by omega))
    have rl1 : vl 1073741824 (fun i => g (p + i)) e < 1073741824 ^ e := vl_lt (fun i hi => hg (p + i) (by omega))
    have eV : vl 1073741824 gv (e + 2) = (gv (e + 1) * 1073741824 + gv e) * 1073741824 ^ e + vl 1073741824 gv e := by
      rw [vl, vl, Nat.pow_succ]; grind
    have eR : vl 1073741824 (fun i => g (p + i)) (e + 2 + 1) = ((g (p + (e + 2)) * 1073741824 + g (p + (e + 2) - 1)) * 1073741824 + g (p + e)) * 1073741824 ^ e + vl 1073741824 (fun i => g (p + i)) e := by
      rw [vl, vl, vl, Nat.pow_succ, Nat.pow_succ, show p + (e + 2) - 1 = p + (e + 1) by omega]; grind
    obtain ⟨q, q1, q2, q3, q4⟩ := guess_58 D Vn (V := vl 1073741824 gv (e + 2)) (R := vl 1073741824 (fun i => g (p + i)) (e + 2 + 1)) (P := 1073741824 ^ e) (lead := gv (e + 1)) (next := gv e) (lo := vl 1073741824 gv e) (head := g (p + (e + 2)) * 1073741824 + g (p + (e + 2) - 1)) (below := g (p + e)) (rl := vl 1073741824 (fun i => g (p + i)) e) (by omega) rfl (by rw [if_neg (by omega)]; rfl) eV lo1 eR rl1 gb hq (by simpa using hl1)
    exact ⟨q, q1, q2, q3, by omega⟩
/-! subtracting, adding back -/
theorem sb_step {G G0 V P r d e f : Nat} {q bw : Int} (h : (G : Int) + bw * (P : Int) = (G0 : Int) - f * V) (hr : (r : Int) + 1073741824 * q = (e : Int) - f * d + bw) : ((G + r * P : Nat) : Int) + q * ((P * 1073741824 : Nat) : Int) = ((G0 + e * P : Nat) : Int) - f * ((V + d * P : Nat) : Int) := by
  have e3 : ((r : Int) + 1073741824 * q) * P = ((e : Int) - f * d + bw) * P := by rw [hr]
  simp only [Int.natCast_add, Int.natCast_mul, Int.cast_ofNat_Int]
  grind
theorem sub_loop {d q r rb cr v vb cv p f : Nat} {g0 gv : Nat → Nat} (hf : f < 1073741824) (hp : p + cv < 140) (hg0 : ∀ i, i ≤ p + cv → g0 i < 1073741824) (n1 : d ≠ rb) (n2 : v ≠ rb) (n3 : vb ≠ rb) : ∀ (k j n : Nat) (bw : Int) (g : Nat → Nat) (h : hp_H), cv - j = k → j ≤ cv → k < n → -1073741824 < bw → bw ≤ 0 → ds h d q r v → nr h r rb cr g → nt h v vb cv gv → (∀ i, i < p ∨ p + j ≤ i → g i = g0 i) → (∀ i, i < j → g (p + i) < 1073741824) →
    (vl 1073741824 (fun i => g (p + i)) j : Int) + bw * ((1073741824 ^ j : Nat) : Int) = (vl 1073741824 (fun i => g0 (p + i)) j : Int) - f * vl 1073741824 gv j →
    ∃ h' g' tp, bX1_subtractAt_15 d (nI p) (lN f) (nI cv) n (lI bw) (nI j) h = some (if (0 : Int) ≤ tp then 0 else 1, h') ∧ nr h' r rb cr g' ∧ fr h h' rb rb ∧ (∀ i, i < p ∨ p + cv < i → g' i = g0 i) ∧ (∀ i, i ≤ cv → g' (p + i) < 1073741824) ∧ (g' (p + cv) : Int) = tp % 1073741824 ∧ tp < 1073741824 ∧
      (vl 1073741824 (fun i => g' (p + i)) cv : Int) + tp * ((1073741824 ^ cv : Nat) : Int) = (vl 1073741824 (fun i => g0 (p + i)) (cv + 1) : Int) - f * vl 1073741824 gv cv := by
  intro k
  induction k with
  | zero =>
    intro j n bw g h hk hj hn hb1 hb2 D Rn Vn hg hl hv
    obtain ⟨m, rfl⟩ : ∃ m, n = m + 1 := ⟨n - 1, by omega⟩
    obtain rfl : j = cv := by omega
    have h3 := hg (p + j) (by omega)
    have h4 := hg0 (p + j) (by omega)
    rw [bX1_subtractAt_15, if_pos ((nI_leI (by omega) (by omega)).mpr (Nat.le_refl _)), ds_r D, Option.bind_some, nr_l Rn, Option.bind_some, nI_add, nr_rd Rn (by omega), Option.bind_some, nI_l (by omega), lN_lI, lI_add, Option.bind_some, Option.bind_some, nr_l Rn, Option.bind_some, lI_i, iI_mask]
    obtain ⟨h14, e1, T', F⟩ := nr_wr Rn (i := p + j) (x := (((g (p + j) : Int) + bw) % 1073741824).toNat) (by omega)
    rw [e1, Option.bind_some]
    refine ⟨h14, _, (g (p + j) : Int) + bw, ?_, T', F, fun i hi => by rw [va_up_ne _ _ (by omega)]; exact hg i (by omega), fun i hi => ?_, ?_, by omega, ?_⟩
    · rw [show (0 : Int64) = lI 0 from rfl]
      by_cases h0 : (0 : Int) ≤ (g (p + j) : Int) + bw
      · rw [if_pos ((lI_le (by omega) (by omega) (by omega) (by omega)).mpr h0), if_pos h0]
      · rw [if_neg (fun q => h0 ((lI_le (by omega) (by omega) (by omega) (by omega)).mp q)), if_neg h0]
    · by_cases hij : i = j
      · subst hij; rw [va_up_self]; omega
      · rw [va_up_ne _ _ (by omega)]; exact hl i (by omega)
    · rw [va_up_self]; omega
    · rw [vl_congr (g := fun i => va_up g (p + j) (((g (p + j) : Int) + bw) % 1073741824).toNat (p + i)) (g' := fun i => g (p + i)) (fun i hi => va_up_ne _ _ (by omega)), vl, h3]
      simp only [Int.natCast_add, Int.natCast_mul]
      generalize ((1073741824 ^ j : Nat) : Int) = PP at *
      generalize (g0 (p + j) : Int) = z at *
      have : (z + bw) * PP = z * PP + bw * PP := by grind
      omega
  | succ k ih =>
    intro j n bw g h hk hj hn hb1 hb2 D Rn Vn hg hl hv
    obtain ⟨m, rfl⟩ : ∃ m, n = m + 1 := ⟨n - 1, by omega⟩
    have h1 := Vn.2.2.1 j (by omega)
    have hcv := Vn.2.1
    have h3 := hg (p + j) (by omega)
    have h4 := hg0 (p + j) (by omega)
    have h5 : f * gv j ≤ 1073741823 * 1073741823 := Nat.mul_le_mul (by omega) (by omega)
    rw [bX1_subtractAt_15, if_neg (fun q => by have := (nI_leI (by omega) (by omega)).mp q; omega), ds_r D, Option.bind_some, nr_l Rn, Option.bind_some, nI_add, nr_rd Rn (by omega), Option.bind_some, ds_v D, Option.bind_some, nr_l Vn.1, Option.bind_some, nr_rd Vn.1 (by omega), Option.bind_some, nI_l (by omega), nI_l (by omega), lN_mul, lN_lI, lN_lI, lI_sub, lI_add, Option.bind_some, Option.bind_some, nr_l Rn, Option.bind_some, lI_i, iI_mask]
    obtain ⟨h35, e1, T', F⟩ := nr_wr Rn (i := p + j) (x := (((g (p + j) : Int) - ((f * gv j : Nat) : Int) + bw) % 1073741824).toNat) (by omega)
    rw [e1, Option.bind_some, lI_shr _ (by omega) (by omega), Option.bind_some, Option.bind_some, nI_1]
    obtain ⟨h', g', tp, q1, q2, q3, q4⟩ := ih (j + 1) m (((g (p + j) : Int) - ((f * gv j : Nat) : Int) + bw) / 1073741824) _ h35 (by omega) (by omega) (by omega) (by omega) (by omega) (ds_fr D F n1 n1) T' (nt_fr Vn F n2 n2 n3 n3) (fun i hi => by rw [va_up_ne _ _ (by omega)]; exact hg i (by omega)) (fun i hi => by
        by_cases hij : i = j
        · subst hij; rw [va_up_self]; omega
        · rw [va_up_ne _ _ (by omega)]; exact hl i (by omega)) (by
        rw [vl, vl, vl, va_up_self, Nat.pow_succ]
        rw [vl_congr (g := fun i => va_up g (p + j) (((g (p + j) : Int) - ((f * gv j : Nat) : Int) + bw) % 1073741824).toNat (p + i)) (g' := fun i => g (p + i)) (fun i hi => va_up_ne _ _ (by omega))]
        exact sb_step hv (by rw [h3]; simp only [Int.natCast_mul]; omega))
    exact ⟨h', g', tp, q1, q2, F.tr q3, q4⟩
