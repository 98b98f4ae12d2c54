/-! Natural: taking another, a long, a sum, a difference -/
theorem nt_cle {h : hp_H} {a b c k : Nat} {g : Nat → Nat} (H : nt h a b c g) (hv : bl (vl 1073741824 g c) ≤ 30 * k) : c ≤ k := by
  cases c with
  | zero => omega
  | succ c =>
    rw [nt_bl H] at hv
    have := bl_pos (H.2.2.2 (by omega) : g (c + 1 - 1) ≠ 0)
    simp only [Nat.add_sub_cancel] at this
    omega
theorem nt_nv {h : hp_H} {a b c : Nat} {g : Nat → Nat} (H : nt h a b c g) : nv h a b (vl 1073741824 g c) := ⟨c, g, H, rfl⟩
theorem nv_fr {h h' : hp_H} {a b v p q : Nat} (H : nv h a b v) (F : fr h h' p q) (h1 : a ≠ p) (h2 : a ≠ q) (h3 : b ≠ p) (h4 : b ≠ q) : nv h' a b v := by
  obtain ⟨c, g, H, e⟩ := H
  exact ⟨c, g, nt_fr H F h1 h2 h3 h4, e⟩
theorem take_eq {h : hp_H} {a b c a1 b1 v : Nat} {g : Nat → Nat} (T : nr h a b c g) (X : nv h a1 b1 v) (h1 : a1 ≠ a) (h2 : a1 ≠ b) (h3 : b1 ≠ a) (h4 : b1 ≠ b) : ∃ h', fX2_take a a1 h = some h' ∧ nv h' a b v ∧ fr h h' a b := by
  obtain ⟨c1, g1, X, rfl⟩ := X
  have hc := X.2.1
  have e1 : hp_cp h b1 b (nI c1) = some (va_up h b (some (.inl (0, 140, va_cpy (fun i => nI (g1 i)) (fun i => nI (g i)) 0 0 c1)))) := by
    have z1 : ¬ nI c1 < 0 := nI_lt0 (by omega)
    have z2 : (nI c1).toNatClampNeg = c1 := nI_cl (by omega)
    simp [hp_cp, X.1.2.2, T.2.2, h4, z1, z2, hc]
  have e2 : va_cpy (fun i => nI (g1 i)) (fun i => nI (g i)) 0 0 c1 = fun i => nI (if i < c1 then g1 i else g i) := by
    funext i
    simp only [va_cpy, Nat.zero_le, true_and, Nat.zero_add, Nat.sub_zero]
    split <;> rfl
  have T2 : nr (va_up h b (some (.inl (0, 140, fun i => nI (if i < c1 then g1 i else g i))))) a b c (fun i => if i < c1 then g1 i else g i) := ⟨T.1, by rw [va_up_ne _ _ T.1]; exact T.2.1, va_up_self _ _ _⟩
  have F2 : fr h (va_up h b (some (.inl (0, 140, fun i => nI (if i < c1 then g1 i else g i))))) b b := fun q hq _ => va_up_ne _ _ hq
  have X2 := nr_fr X.1 F2 h2 h2 h4 h4
  obtain ⟨h', e3, T3, F3⟩ := nr_pc T2 c1
  refine ⟨h', ?_, ⟨c1, _, ⟨T3, hc, fun i hi => ?_, fun h0 => ?_⟩, ?_⟩, F2.r.tr F3.l⟩
  · unfold fX2_take
    rw [if_pos (nr_o T), nr_l X.1, Option.bind_some, nr_l T, Option.bind_some, nr_c X.1, Option.bind_some, e1, e2, Option.bind_some, nr_c X2, Option.bind_some, e3, Option.bind_some]
  · simp only [hi, if_true]; exact X.2.2.1 i hi
  · have : c1 - 1 < c1 := by omega
    simp only [this, if_true]; exact X.2.2.2 h0
  · exact vl_congr (fun i hi => by simp [hi])
/-- a row of limbs that is read while another, or itself, is written: D i at every i of P -/
def src (h : hp_H) (a b x : Nat) (D : Nat → Nat) (P : Nat → Prop) : Prop :=
  (∃ bx c g, nr h x bx c g ∧ c ≤ 140 ∧ x ≠ b ∧ bx ≠ b ∧ D = dg c g) ∨ (x = a ∧ ∃ c g gc, nr h a b c gc ∧ c ≤ 140 ∧ (∀ i, P i → gc i = g i) ∧ D = dg c g)
theorem src_rd {h : hp_H} {a b x : Nat} {D : Nat → Nat} {P : Nat → Prop} (S : src h a b x D P) {i : Nat} (hi : P i) (hl : i < 2147483648) : fX2_limb x (nI i) h = some (nI (D i)) := by
  rcases S with ⟨bx, c, g, H, hc, -, -, rfl⟩ | ⟨rfl, c, g, gc, H, hc, he, rfl⟩
  · exact limb_eq H hc hl
  · rw [limb_eq H hc hl]
    simp only [dg]
    split
    · rw [he i hi]
    · rfl
theorem src_wr {h h' : hp_H} {a b x c1 j v : Nat} {g1 D : Nat → Nat} {P P' : Nat → Prop} (S : src h a b x D P) (T : nr h a b c1 g1) (T' : nr h' a b c1 (va_up g1 j v)) (F : fr h h' b b) (hP : ∀ i, P' i → P i ∧ i ≠ j) : src h' a b x D P' := by
  rcases S with ⟨bx, c, g, H, hc, n1, n2, rfl⟩ | ⟨rfl, c, g, gc, H, hc, he, rfl⟩
  · exact Or.inl ⟨bx, c, g, nr_fr H F n1 n1 n2 n2, hc, n1, n2, rfl⟩
  · refine Or.inr ⟨rfl, c, g, va_up gc j v, ⟨T'.1, ?_, ?_⟩, hc, fun i hi => ?_, rfl⟩
    · rw [F x T.1 T.1]; exact H.2.1
    · have e1 : (fun i => nI (gc i)) = fun i => nI (g1 i) := by
        have := H.2.2.symm.trans T.2.2
        simpa using this
      rw [T'.2.2]
      congr 4
      funext i
      by_cases hij : i = j
      · subst hij; simp [va_up]
      · simp only [va_up, hij, if_false]
        exact (congrFun e1 i).symm
    · obtain ⟨p1, p2⟩ := hP i hi
      rw [va_up_ne _ _ p2]; exact he i p1
theorem src_of {h : hp_H} {a b c x bx : Nat} {g : Nat → Nat} (H : nt h x bx c g) (n1 : x ≠ b) (n2 : bx ≠ b) (P : Nat → Prop) : src h a b x (dg c g) P := Or.inl ⟨bx, c, g, H.1, H.2.1, n1, n2, rfl⟩
theorem src_self {h : hp_H} {a b c : Nat} {g : Nat → Nat} (H : nt h a b c g) (P : Nat → Prop) : src h a b a (dg c g) P := Or.inr ⟨rfl, c, g, g, H.1, H.2.1, fun _ _ => rfl, rfl⟩
theorem sum_step {G V1 V2 P r q cy d1 d2 : Nat} (h : G + cy * P = V1 + V2) (e : r + 1073741824 * q = d1 + d2 + cy) : G + r * P + q * (P * 1073741824) = V1 + d1 * P + (V2 + d2 * P) := by
  have e3 : (r + 1073741824 * q) * P = (d1 + d2 + cy) * P := by rw [e]
  grind
theorem dif_step {G V1 V2 P r d1 d2 : Nat} {q bw : Int} (h : (G : Int) + bw * (P : Int) = (V1 : Int) - V2) (e : (r : Int) + 1073741824 * q = (d1 : Int) - d2 + bw) : ((G + r * P : Nat) : Int) + q * ((P * 1073741824 : Nat) : Int) = ((V1 + d1 * P : Nat) : Int) - ((V2 + d2 * P : Nat) : Int) := by
  have e3 : ((r : Int) + 1073741824 * q) * P = ((d1 : Int) - d2 + bw) * P := by rw [e]
  simp only [Int.natCast_add, Int.natCast_mul, Int.cast_ofNat_Int]
  grind
theorem sum_loop {a b x y size : Nat} {D1 D2 : Nat → Nat} (hs : size ≤ 140) (hD1 : ∀ i, D1 i < 1073741824) (hD2 : ∀ i, D2 i < 1073741824) : ∀ (d k n cy c : Nat) (g : Nat → Nat) (h : hp_H), size - k = d → k ≤ size → d < n → cy ≤ 1 → nr h a b c g → (∀ i, i < k → g i < 1073741824) → vl 1073741824 g k + cy * 1073741824 ^ k = vl 1073741824 D1 k + vl 1073741824 D2 k →
    src h a b x D1 (fun i => k ≤ i) → src h a b y D2 (fun i => k ≤ i) →
    ∃ h' g' cy', bX2_takeSum_26 a x y (nI size) n (nI cy) (nI k) h = some h' ∧ nt h' a b (tr g' size) g' ∧ fr h h' a b ∧ (∀ i, i < size → g' i < 1073741824) ∧ vl 1073741824 g' size + cy' * 1073741824 ^ size = vl 1073741824 D1 size + vl 1073741824 D2 size := by
  intro d
  induction d with
  | zero =>
    intro k n cy c g h hd hk hn hcy T hg hv _ _
    obtain ⟨m, rfl⟩ : ∃ m, n = m + 1 := ⟨n - 1, by omega⟩
    obtain rfl : k = size := by omega
    rw [bX2_takeSum_26, if_pos ((nI_leI (by omega) (by omega)).mpr (Nat.le_refl _))]
    obtain ⟨h', e1, T', F⟩ := trim_eq T hs hg
    rw [e1]
    exact ⟨h', g, cy, rfl, T', F.l, hg, hv⟩
  | succ d ih =>
    intro k n cy c g h hd hk hn hcy T hg hv S1 S2
    obtain ⟨m, rfl⟩ : ∃ m, n = m + 1 := ⟨n - 1, by omega⟩
    have h1 := hD1 k
    have h2 := hD2 k
    rw [bX2_takeSum_26, if_neg (fun q => by have := (nI_leI (by omega) (by omega)).mp q; omega), src_rd S1 (Nat.le_refl k) (by omega), Option.bind_some, src_rd S2 (Nat.le_refl k) (by omega), Option.bind_some, nI_add, nI_add, Option.bind_some, nr_l T, Option.bind_some, nI_mask (by omega)]
    obtain ⟨h12, e1, T', F⟩ := nr_wr T (i := k) (x := (D1 k + D2 k + cy) % 1073741824) (by omega)
    rw [e1, Option.bind_some, Option.bind_some, ni30, nI_ushr (by omega) (by omega), Option.bind_some, nI_1]
    obtain ⟨h', g', cy', q1, q2, q3, q4, q5⟩ := ih (k + 1) m ((D1 k + D2 k + cy) / 2 ^ 30) c _ h12 (by omega) (by omega) (by omega) (by omega) T' (fun i hi => by
        by_cases hik : i = k
        · subst hik; rw [va_up_self]; omega
        · rw [va_up_ne _ _ hik]; exact hg i (by omega)) (by
        rw [vl, vl, vl, va_up_self, vl_upd_ge (Nat.le_refl k), Nat.pow_succ]
        have e2 : (D1 k + D2 k + cy) % 1073741824 + 1073741824 * ((D1 k + D2 k + cy) / 2 ^ 30) = D1 k + D2 k + cy := by omega
        exact sum_step hv e2)
      (src_wr S1 T T' F (fun i hi => ⟨by omega, by omega⟩)) (src_wr S2 T T' F (fun i hi => ⟨by omega, by omega⟩))
    exact ⟨h', g', cy', q1, q2, F.r.tr q3, q4, q5⟩
theorem takeSum_eq {h : hp_H} {a b c x bx y b2 v w : Nat} {g : Nat → Nat} (T : nr h a b c g) (X : nv h x bx v) (Y : nv h y b2 w) (hv : bl v ≤ 4170) (hw : bl w ≤ 4170) (n1 : x ≠ b) (n2 : bx ≠ b) (n3 : y ≠ b) (n4 : b2 ≠ b) :
    ∃ h', fX2_takeSum a x y h = some h' ∧ nv h' a b (v + w) ∧ fr h h' a b := by
  obtain ⟨c1, g1, X, rfl⟩ := X
  obtain ⟨c2, g2, Y, rfl⟩ := Y
  have hc1 := nt_cle X (k := 139) hv
  have hc2 := nt_cle Y (k := 139) hw
  have hmx : max c1 c2 ≤ 139 := by omega
  obtain ⟨h', g', cy', q1, q2, q3, q4, q5⟩ := sum_loop (a := a) (b := b) (x := x) (y := y) (size := max c1 c2 + 1) (D1 := dg c1 g1) (D2 := dg c2 g2) (by omega) (dg_lt X.2.2.1) (dg_lt Y.2.2.1) (max c1 c2 + 1) 0 hp_n 0 c g h (by omega) (by omega) (by unfold hp_n; omega) (by omega) T (fun i hi => by omega) (by simp [vl]) (src_of X n1 n2 _) (src_of Y n3 n4 _)
  refine ⟨h', ?_, ⟨_, g', q2, ?_⟩, q3⟩
  · unfold fX2_takeSum
    rw [if_pos (nr_o T), nr_c X.1, Option.bind_some, nr_c Y.1, Option.bind_some, nI_max (by omega) (by omega), nI_1, ni140, nI_min (by omega) (by omega), Nat.min_eq_left (by omega), Option.bind_some, ni0]
    exact q1
  · rw [vl_tr]
    rw [vl_dg _ _ _ (by omega), vl_dg _ _ _ (by omega)] at q5
    have l1 := vl_lt X.2.2.1
    have l2 := vl_lt Y.2.2.1
    have l3 : 1073741824 ^ c1 ≤ 1073741824 ^ (max c1 c2) := Nat.pow_le_pow_right (by decide) (by omega)
    have l4 : 1073741824 ^ c2 ≤ 1073741824 ^ (max c1 c2) := Nat.pow_le_pow_right (by decide) (by omega)
    rw [Nat.pow_succ] at q5
    have : cy' = 0 := by
      rcases Nat.eq_zero_or_pos cy' with z | z
      · exact z
      · have : 1 * (1073741824 ^ (max c1 c2) * 1073741824) ≤ cy' * (1073741824 ^ (max c1 c2) * 1073741824) := Nat.mul_le_mul_right _ z
        omega
    subst this
    omega
theorem dif_loop {a b x y size : Nat} {D1 D2 : Nat → Nat} (hs : size ≤ 140) (hD1 : ∀ i, D1 i < 1073741824) (hD2 : ∀ i, D2 i < 1073741824) : ∀ (d k n c : Nat) (bw : Int) (g : Nat → Nat) (h : hp_H), size - k = d → k ≤ size → d < n → (bw = 0 ∨ bw = -1) → nr h a b c g → (∀ i, i < k → g i < 1073741824) → (vl 1073741824 g k : Int) + bw * ((1073741824 ^ k : Nat) : Int) = vl 1073741824 D1 k - vl 1073741824 D2 k →
    src h a b x D1 (fun i => k ≤ i) → src h a b y D2 (fun i => k ≤ i) →
    ∃ h' g' bw', bX2_takeDifference_11 a x y (nI size) n (iI bw) (nI k) h = some h' ∧ nt h' a b (tr g' size) g' ∧ fr h h' a b ∧ (∀ i, i < size → g' i < 1073741824) ∧ (bw' = 0 ∨ bw' = -1) ∧ (vl 1073741824 g' size : Int) + bw' * ((1073741824 ^ size : Nat) : Int) = vl 1073741824 D1 size - vl 1073741824 D2 size := by
  intro d
  induction d with
  | zero =>
    intro k n c bw g h hd hk hn hbw T hg hv _ _
    obtain ⟨m, rfl⟩ : ∃ m, n = m + 1 := ⟨n - 1, by omega⟩
    obtain rfl : k = size := by omega
    rw [bX2_takeDifference_11, if_pos ((nI_leI (by omega) (by omega)).mpr (Nat.le_refl _))]
    obtain ⟨h', e1, T', F⟩ := trim_eq T hs hg
    rw [e1]
    exact ⟨h', g, bw, rfl, T', F.l, hg, hbw, hv⟩
  | succ d ih =>
    intro k n c bw g h hd hk hn hbw T hg hv S1 S2
    obtain ⟨m, rfl⟩ : ∃ m, n = m + 1 := ⟨n - 1, by omega⟩
    have h1 := hD1 k
    have h2 := hD2 k
    rw [bX2_takeDifference_11, if_neg (fun q => by have := (nI_leI (by omega) (by omega)).mp q; omega), src_rd S1 (Nat.le_refl k) (by omega), Option.bind_some, src_rd S2 (Nat.le_refl k) (by omega), Option.bind_some, nI_iI (D1 k), nI_iI (D2 k), iI_sub, iI_add, Option.bind_some, nr_l T, Option.bind_some, iI_mask]
    obtain ⟨h12, e1, T', F⟩ := nr_wr T (i := k) (x := (((D1 k : Int) - D2 k + bw) % 1073741824).toNat) (by omega)
    rw [e1, Option.bind_some, Option.bind_some, iI_shr _ (by omega) (by omega), Option.bind_some, nI_1]
    obtain ⟨h', g', cy', q1, q2, q3, q4, q5, q6⟩ := ih (k + 1) m c (((D1 k : Int) - D2 k + bw) / 1073741824) _ h12 (by omega) (by omega) (by omega) (by omega) T' (fun i hi => by
        by_cases hik : i = k
        · subst hik; rw [va_up_self]; omega
        · rw [va_up_ne _ _ hik]; exact hg i (by omega)) (by
        rw [vl, vl, vl, va_up_self, vl_upd_ge (Nat.le_refl k), Nat.pow_succ]
        have e2 : ((((D1 k : Int) - D2 k + bw) % 1073741824).toNat : Int) + 1073741824 * (((D1 k : Int) - D2 k + bw) / 1073741824) = (D1 k : Int) - D2 k + bw := by omega
        exact dif_step hv e2)
      (src_wr S1 T T' F (fun i hi => ⟨by omega, by omega⟩)) (src_wr S2 T T' F (fun i hi => ⟨by omega, by omega⟩))
    exact ⟨h', g', cy', q1, q2, F.r.tr q3, q4, q5, q6⟩
/-- x less y, where y may be the very number that is written -/
theorem takeDifference_eq {h : hp_H} {a b c x bx y b2 v w : Nat} {g : Nat → Nat} (T : nr h a b c g) (X : nv h x bx v) (Y : nv h y b2 w) (hvw : w ≤ v) (n1 : x ≠ b) (n2 : bx ≠ b) (n3 : (y ≠ b ∧ b2 ≠ b) ∨ (y = a ∧ b2 = b)) :
    ∃ h', fX2_takeDifference a x y h = some h' ∧ nv h' a b (v - w) ∧ fr h h' a b := by
  obtain ⟨c1, g1, X, rfl⟩ := X
  obtain ⟨c2, g2, Y, rfl⟩ := Y
  have hc1 := X.2.1
  have hc : c2 ≤ c1 := by
    rcases Nat.lt_or_ge c1 c2 with q | q
    · have := nt_cnt_lt X Y q; omega
    · exact q
  have S2 : src h a b y (dg c2 g2) (fun i => 0 ≤ i) := by
    rcases n3 with ⟨m1, m2⟩ | ⟨m1, m2⟩
    · exact src_of Y m1 m2 _
    · subst m1; subst m2; exact src_self Y _
  obtain ⟨h', g', bw', q1, q2, q3, q4, q5, q6⟩ := dif_loop (a := a) (b := b) (x := x) (y := y) (size := c1) (D1 := dg c1 g1) (D2 := dg c2 g2) hc1 (dg_lt X.2.2.1) (dg_lt Y.2.2.1) c1 0 hp_n c 0 g h (by omega) (by omega) (by unfold hp_n; omega) (Or.inl rfl) T (fun i hi => by omega) (by simp [vl]) (src_of X n1 n2 _) S2
  refine ⟨h', ?_, ⟨_, g', q2, ?_⟩, q3⟩
  · unfold fX2_takeDifference
    rw [if_pos (nr_o T), nr_c X.1, Option.bind_some]
    exact q1
  · rw [vl_tr]
    rw [vl_dg _ _ _ (by omega), vl_dg _ _ _ (by omega)] at q6
    have l1 := vl_lt q4
    rcases q5 with rfl | rfl <;> omega
