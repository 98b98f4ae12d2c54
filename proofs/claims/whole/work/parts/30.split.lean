/-! Long division: a digit, the whole -/
/-- what came out, as a number: negative by one wrap -/
theorem sub_end {G X f V tp P g : Int} (hG : 0 ≤ G) (hGP : G < P) (hV : V < P) (hX : f * V ≤ X + V) (htp : tp < 1073741824) (he : G + tp * P = X - f * V) (hg : g = tp % 1073741824) : (0 ≤ tp → f * V ≤ X ∧ G + g * P = X - f * V) ∧ (¬ 0 ≤ tp → X < f * V ∧ G + g * P = X - f * V + P * 1073741824) := by
  constructor
  · intro h0
    have e : g = tp := by omega
    subst e
    have : 0 ≤ g * P := Int.mul_nonneg h0 (by omega)
    omega
  · intro h0
    have h1 : tp = -1 := by
      by_cases q : tp < -1
      · exfalso
        have : tp * P ≤ (-2) * P := Int.mul_le_mul_of_nonneg_right (by omega) (by omega)
        omega
      · omega
    subst h1
    have e : g = 1073741823 := by omega
    subst e
    omega
theorem subtractAt_eq {h : hp_H} {d q r rb cr v vb cv p f : Nat} {g gv : Nat → Nat} (D : ds h d q r v) (Rn : nr h r rb cr g) (Vn : nt h v vb cv gv) (hf : f < 1073741824) (hp : p + cv < 140) (hg : ∀ i, i ≤ p + cv → g i < 1073741824) (n1 : d ≠ rb) (n2 : v ≠ rb) (n3 : vb ≠ rb) (hX : f * vl 1073741824 gv cv ≤ vl 1073741824 (fun i => g (p + i)) (cv + 1) + vl 1073741824 gv cv) :
    ∃ h' g' fl, fX1_subtractAt d (nI p) (lN f) h = some (fl, h') ∧ nr h' r rb cr g' ∧ fr h h' rb rb ∧ (∀ i, i < p ∨ p + cv < i → g' i = g i) ∧ (∀ i, i ≤ cv → g' (p + i) < 1073741824) ∧
      ((fl = 0 ∧ f * vl 1073741824 gv cv ≤ vl 1073741824 (fun i => g (p + i)) (cv + 1) ∧ vl 1073741824 (fun i => g' (p + i)) (cv + 1) + f * vl 1073741824 gv cv = vl 1073741824 (fun i => g (p + i)) (cv + 1)) ∨
       (fl = 1 ∧ vl 1073741824 (fun i => g (p + i)) (cv + 1) < f * vl 1073741824 gv cv ∧ vl 1073741824 (fun i => g' (p + i)) (cv + 1) + f * vl 1073741824 gv cv = vl 1073741824 (fun i => g (p + i)) (cv + 1) + 1073741824 ^ cv * 1073741824)) := by
  have hcv := Vn.2.1
  obtain ⟨h', g', tp, q1, q2, q3, q4, q5, q6, q7, q8⟩ := sub_loop (cr := cr) (gv := gv) hf hp hg n1 n2 n3 cv 0 hp_n 0 g h (by omega) (by omega) (by unfold hp_n; omega) (by omega) (by omega) D Rn Vn (fun _ _ => rfl) (fun i hi => by omega) (by simp [vl])
  refine ⟨h', g', (if (0 : Int) ≤ tp then 0 else 1), ?_, q2, q3, q4, q5, ?_⟩
  · unfold fX1_subtractAt
    rw [if_pos (ds_o D), ds_v D, Option.bind_some, nr_c Vn.1, Option.bind_some]
    exact q1
  · have l1 := vl_lt (B := 1073741824) (g := fun i => g' (p + i)) (n := cv) (fun i hi => q5 i (by omega))
    have l2 := vl_lt Vn.2.2.1
    have E := sub_end (G := (vl 1073741824 (fun i => g' (p + i)) cv : Int)) (X := (vl 1073741824 (fun i => g (p + i)) (cv + 1) : Int)) (f := f) (V := (vl 1073741824 gv cv : Int)) (tp := tp) (P := ((1073741824 ^ cv : Nat) : Int)) (g := (g' (p + cv) : Int)) (by omega) (by omega) (by omega) (by rw [← Int.natCast_mul, ← Int.natCast_add]; exact Int.ofNat_le.mpr hX) q7 q8 q6
    have e1 : (vl 1073741824 (fun i => g' (p + i)) (cv + 1) : Int) = (vl 1073741824 (fun i => g' (p + i)) cv : Int) + (g' (p + cv) : Int) * ((1073741824 ^ cv : Nat) : Int) := by
      rw [vl]; simp only [Int.natCast_add, Int.natCast_mul]
    rw [← e1, ← Int.natCast_mul] at E
    by_cases h0 : (0 : Int) ≤ tp
    · obtain ⟨E1, E2⟩ := E.1 h0
      exact Or.inl ⟨if_pos h0, by omega, by omega⟩
    · obtain ⟨E1, E2⟩ := E.2 h0
      have e2 : ((1073741824 ^ cv : Nat) : Int) * 1073741824 = ((1073741824 ^ cv * 1073741824 : Nat) : Int) := by simp only [Int.natCast_mul, Int.cast_ofNat_Int]
      rw [e2] at E2
      exact Or.inr ⟨if_neg h0, by omega, by omega⟩
theorem ab_step {G V G0 P r q cy d e : Nat} (h : G + cy * P = G0 + V) (hr : r + 1073741824 * q = e + d + cy) : G + r * P + q * (P * 1073741824) = G0 + e * P + (V + d * P) := by
  have e3 : (r + 1073741824 * q) * P = (e + d + cy) * P := by rw [hr]
  grind
theorem add_loop {d q r rb cr v vb cv p : Nat} {g0 gv : Nat → Nat} (hp : p + cv < 140) (hg0 : ∀ i, i ≤ p + cv → g0 i < 1073741824) (n1 : d ≠ rb) (n2 : v ≠ rb) (n3 : vb ≠ rb) : ∀ (k j n cy : Nat) (g : Nat → Nat) (h : hp_H), cv - j = k → j ≤ cv → k < n → cy ≤ 1 → ds h d q r v → nr h r rb cr g → nt h v vb cv gv → (∀ i, i < p ∨ p + j ≤ i → g i = g0 i) → (∀ i, i < j → g (p + i) < 1073741824) →
    vl 1073741824 (fun i => g (p + i)) j + cy * 1073741824 ^ j = vl 1073741824 (fun i => g0 (p + i)) j + vl 1073741824 gv j →
    ∃ h' g' cy', bX1_addBackAt_13 d (nI p) (nI cv) n (nI cy) (nI j) h = some h' ∧ nr h' r rb cr g' ∧ fr h h' rb rb ∧ (∀ i, i < p ∨ p + cv < i → g' i = g0 i) ∧ (∀ i, i ≤ cv → g' (p + i) < 1073741824) ∧ cy' ≤ 1 ∧ g' (p + cv) = (g0 (p + cv) + cy') % 1073741824 ∧
      vl 1073741824 (fun i => g' (p + i)) cv + cy' * 1073741824 ^ cv = vl 1073741824 (fun i => g0 (p + i)) cv + vl 1073741824 gv cv := by
  intro k
  induction k with
  | zero =>
    intro j n cy g h hk hj hn hcy D Rn Vn hg hl hv
    obtain ⟨m, rfl⟩ : ∃ m, n = m + 1 := ⟨n - 1, by omega⟩
    obtain rfl : j = cv := by omega
    have h3 := hg (p + j) (by omega)
    have h4 := hg0 (p + j) (by omega)
    rw [bX1_addBackAt_13, if_pos ((nI_leI (by omega) (by omega)).mpr (Nat.le_refl _)), ds_r D, Option.bind_some, nr_l Rn, Option.bind_some, Option.bind_some, nr_l Rn, Option.bind_some, nI_add, nr_rd Rn (by omega), Option.bind_some, nI_add, nI_mk]
    obtain ⟨h12, e1, T', F⟩ := nr_wr Rn (i := p + j) (x := (g (p + j) + cy) % 1073741824) (by omega)
    rw [e1, Option.bind_some]
    refine ⟨h12, _, cy, rfl, T', F, fun i hi => by rw [va_up_ne _ _ (by omega)]; exact hg i (by omega), fun i hi => ?_, hcy, by rw [va_up_self, h3], ?_⟩
    · by_cases hij : i = j
      · subst hij; rw [va_up_self]; omega
      · rw [va_up_ne _ _ (by omega)]; exact hl i (by omega)
    · rw [vl_congr (g := fun i => va_up g (p + j) ((g (p + j) + cy) % 1073741824) (p + i)) (g' := fun i => g (p + i)) (fun i hi => va_up_ne _ _ (by omega))]
      exact hv
  | succ k ih =>
    intro j n cy g h hk hj hn hcy D Rn Vn hg hl hv
    obtain ⟨m, rfl⟩ : ∃ m, n = m + 1 := ⟨n - 1, by omega⟩
    have h1 := Vn.2.2.1 j (by omega)
    have hcv := Vn.2.1
    have h3 := hg (p + j) (by omega)
    have h4 := hg0 (p + j) (by omega)
    rw [bX1_addBackAt_13, if_neg (fun q => by have := (nI_leI (by omega) (by omega)).mp q; omega), ds_r D, Option.bind_some, nr_l Rn, Option.bind_some, nI_add, nr_rd Rn (by omega), Option.bind_some, ds_v D, Option.bind_some, nr_l Vn.1, Option.bind_some, nr_rd Vn.1 (by omega), Option.bind_some, nI_add, nI_add, Option.bind_some, Option.bind_some, nr_l Rn, Option.bind_some, nI_mk]
    obtain ⟨h32, e1, T', F⟩ := nr_wr Rn (i := p + j) (x := (g (p + j) + gv j + cy) % 1073741824) (by omega)
    rw [e1, Option.bind_some, ni30, nI_ushr (by omega) (by omega), Option.bind_some, Option.bind_some, nI_1]
    obtain ⟨h', g', cy', q1, q2, q3, q4⟩ := ih (j + 1) m ((g (p + j) + gv j + cy) / 2 ^ 30) _ h32 (by omega) (by omega) (by omega) (by omega) (ds_fr D F n1 n1) T' (nt_fr Vn F n2 n2 n3 n3) (fun i hi => by rw [va_up_ne _ _ (by omega)]; exact hg i (by omega)) (fun i hi => by
        by_cases hij : i = j
        · subst hij; rw [va_up_self]; omega
        · rw [va_up_ne _ _ (by omega)]; exact hl i (by omega)) (by
        rw [vl, vl, vl, va_up_self, Nat.pow_succ]
        rw [vl_congr (g := fun i => va_up g (p + j) ((g (p + j) + gv j + cy) % 1073741824) (p + i)) (g' := fun i => g (p + i)) (fun i hi => va_up_ne _ _ (by omega))]
        exact ab_step hv (by rw [h3]; omega))
    exact ⟨h', g', cy', q1, q2, F.tr q3, q4⟩
theorem ad_end {G G0 V P g g0 cy : Nat} (hG : G < P) (hg : g = (g0 + cy) % 1073741824) (hg0 : g0 < 1073741824) (hcy : cy ≤ 1) (he : G + cy * P = G0 + V) (hw : P * 1073741824 ≤ G0 + g0 * P + V) : G + g * P + P * 1073741824 = G0 + g0 * P + V := by
  have h1 : G0 + g0 * P + V = G + (g0 + cy) * P := by grind
  have h2 : 1073741824 ≤ g0 + cy := by
    rcases Nat.lt_or_ge (g0 + cy) 1073741824 with q | q
    · exfalso
      have : (g0 + cy + 1) * P ≤ 1073741824 * P := Nat.mul_le_mul_right _ q
      have : (g0 + cy + 1) * P = (g0 + cy) * P + P := by grind
      have : P * 1073741824 = 1073741824 * P := Nat.mul_comm _ _
      omega
    · exact q
  have h3 : g0 + cy = 1073741824 := by omega
  rw [h1, h3]
  have : g = 0 := by omega
  subst this
  grind
/-- a digit of the quotient; what remains -/
theorem takeDigit_eq {h : hp_H} {d q r rb cr v vb cv p : Nat} {g gv : Nat → Nat} (D : ds h d q r v) (Rn : nr h r rb cr g) (Vn : nt h v vb cv gv) (hc : 1 ≤ cv) (hl1 : 536870912 ≤ gv (cv - 1)) (hp : p + cv < 140) (hg : ∀ i, i ≤ p + cv → g i < 1073741824) (n1 : d ≠ rb) (n2 : v ≠ rb) (n3 : vb ≠ rb) (hq : vl 1073741824 (fun i => g (p + i)) (cv + 1) < 1073741824 * vl 1073741824 gv cv) :
    ∃ h' g' qd, fX1_takeDigit d (nI p) h = some (nI qd, h') ∧ qd < 1073741824 ∧ nr h' r rb cr g' ∧ fr h h' rb rb ∧ (∀ i, i < p ∨ p + cv < i → g' i = g i) ∧ (∀ i, i ≤ cv → g' (p + i) < 1073741824) ∧
      vl 1073741824 (fun i => g' (p + i)) (cv + 1) + qd * vl 1073741824 gv cv = vl 1073741824 (fun i => g (p + i)) (cv + 1) ∧ vl 1073741824 (fun i => g' (p + i)) (cv + 1) < vl 1073741824 gv cv := by
  have hcv := Vn.2.1
  obtain ⟨f, g1, g2, g3, g4⟩ := guess_eq D Rn Vn hc hl1 hp hg hq
  obtain ⟨h4, gs, fl, s1, s2, s3, s4, s5, s6⟩ := subtractAt_eq D Rn Vn g2 hp hg n1 n2 n3 g4
  have ef : (f + 1) * vl 1073741824 gv cv = f * vl 1073741824 gv cv + vl 1073741824 gv cv := by grind
  unfold fX1_takeDigit
  rw [if_pos (ds_o D), g1, Option.bind_some, nI_l (by omega), s1, Option.bind_some]
  rcases s6 with ⟨rfl, a1, a2⟩ | ⟨rfl, a1, a2⟩
  · exact ⟨h4, gs, f, rfl, g2, s2, s3, s4, s5, a2, by omega⟩
  · have Vn4 := nt_fr Vn s3 n2 n2 n3 n3
    have D4 := ds_fr D s3 n1 n1
    have f1 : 1 ≤ f := by
      rcases Nat.eq_zero_or_pos f with z | z
      · subst z; simp at a1
      · exact z
    obtain ⟨h9, g9, cy, b1, b2, b3, b4, b5, b6, b7, b8⟩ := add_loop (cr := cr) (g0 := gs) (gv := gv) hp (fun i hi => by
      by_cases hip : i < p
      · rw [s4 i (Or.inl hip)]; exact hg i hi
      · have := s5 (i - p) (by omega)
        rw [show p + (i - p) = i by omega] at this; exact this) n1 n2 n3 cv 0 hp_n 0 gs h4 (by omega) (by omega) (by unfold hp_n; omega) (by omega) D4 s2 Vn4 (fun _ _ => rfl) (fun i hi => by omega) (by simp [vl])
    have l1 := vl_lt (B := 1073741824) (g := fun i => g9 (p + i)) (n := cv) (fun i hi => b5 i (by omega))
    have e1 : vl 1073741824 (fun i => gs (p + i)) (cv + 1) = vl 1073741824 (fun i => gs (p + i)) cv + gs (p + cv) * 1073741824 ^ cv := rfl
    have e2 : vl 1073741824 (fun i => g9 (p + i)) (cv + 1) = vl 1073741824 (fun i => g9 (p + i)) cv + g9 (p + cv) * 1073741824 ^ cv := rfl
    have E := ad_end (P := 1073741824 ^ cv) l1 b7 (s5 cv (Nat.le_refl _)) b6 b8 (by rw [← e1]; omega)
    rw [← e1, ← e2] at E
    have ef1 : f * vl 1073741824 gv cv = (f - 1) * vl 1073741824 gv cv + vl 1073741824 gv cv := by
      obtain ⟨e, rfl⟩ : ∃ e, f = e + 1 := ⟨f - 1, by omega⟩
      simp only [Nat.add_sub_cancel]; grind
    refine ⟨h9, g9, f - 1, ?_, by omega, b2, s3.tr b3, fun i hi => by rw [b4 i hi, s4 i hi], b5, by omega, by omega⟩
    simp only []
    rw [if_neg (by decide)]
    unfold fX1_addBackAt
    rw [if_pos (ds_o D4), ds_v D4, Option.bind_some, nr_c Vn4.1, Option.bind_some]
    rw [show (0 : Int32) = nI 0 from rfl, b1, Option.bind_some, Option.bind_some, show (-1 : Int32) = -nI 1 from rfl, nI_m f1]
