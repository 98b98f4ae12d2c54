/-! Euclid: the steps that are foreseen -/
def es (h : hp_H) (e gr le : Nat) (a b c d : Int) : Prop := h e = some (.inr (.inr (.inr (0, [.ref gr, .ref le, .long (lI a), .long (lI b), .long (lI c), .long (lI d)]))))
theorem es_o {h : hp_H} {e gr le : Nat} {a b c d : Int} (E : es h e gr le a b c d) : hp_o h e 0 = true := by unfold es at E; simp [hp_o, E]
theorem es_g {h : hp_H} {e gr le : Nat} {a b c d : Int} (E : es h e gr le a b c d) : hp_gr h e 0 0 = some gr := by unfold es at E; simp [hp_gr, hp_gv, E]
theorem es_l {h : hp_H} {e gr le : Nat} {a b c d : Int} (E : es h e gr le a b c d) : hp_gr h e 0 1 = some le := by unfold es at E; simp [hp_gr, hp_gv, E]
theorem es_a {h : hp_H} {e gr le : Nat} {a b c d : Int} (E : es h e gr le a b c d) : hp_gj h e 0 2 = some (lI a) := by unfold es at E; simp [hp_gj, hp_gv, E]
theorem es_b {h : hp_H} {e gr le : Nat} {a b c d : Int} (E : es h e gr le a b c d) : hp_gj h e 0 3 = some (lI b) := by unfold es at E; simp [hp_gj, hp_gv, E]
theorem es_c {h : hp_H} {e gr le : Nat} {a b c d : Int} (E : es h e gr le a b c d) : hp_gj h e 0 4 = some (lI c) := by unfold es at E; simp [hp_gj, hp_gv, E]
theorem es_d {h : hp_H} {e gr le : Nat} {a b c d : Int} (E : es h e gr le a b c d) : hp_gj h e 0 5 = some (lI d) := by unfold es at E; simp [hp_gj, hp_gv, E]
theorem es_pa {h : hp_H} {e gr le : Nat} {a b c d : Int} (E : es h e gr le a b c d) (z : Int) : ∃ h', hp_pv h e 0 2 (.long (lI z)) = some h' ∧ es h' e gr le z b c d ∧ fr h h' e e :=
  ⟨va_up h e (some (.inr (.inr (.inr (0, [.ref gr, .ref le, .long (lI z), .long (lI b), .long (lI c), .long (lI d)]))))), by unfold es at E; simp [hp_pv, E], va_up_self _ _ _, fun q hq _ => va_up_ne _ _ hq⟩
theorem es_pb {h : hp_H} {e gr le : Nat} {a b c d : Int} (E : es h e gr le a b c d) (z : Int) : ∃ h', hp_pv h e 0 3 (.long (lI z)) = some h' ∧ es h' e gr le a z c d ∧ fr h h' e e :=
  ⟨va_up h e (some (.inr (.inr (.inr (0, [.ref gr, .ref le, .long (lI a), .long (lI z), .long (lI c), .long (lI d)]))))), by unfold es at E; simp [hp_pv, E], va_up_self _ _ _, fun q hq _ => va_up_ne _ _ hq⟩
theorem es_pc {h : hp_H} {e gr le : Nat} {a b c d : Int} (E : es h e gr le a b c d) (z : Int) : ∃ h', hp_pv h e 0 4 (.long (lI z)) = some h' ∧ es h' e gr le a b z d ∧ fr h h' e e :=
  ⟨va_up h e (some (.inr (.inr (.inr (0, [.ref gr, .ref le, .long (lI a), .long (lI b), .long (lI z), .long (lI d)]))))), by unfold es at E; simp [hp_pv, E], va_up_self _ _ _, fun q hq _ => va_up_ne _ _ hq⟩
theorem es_pd {h : hp_H} {e gr le : Nat} {a b c d : Int} (E : es h e gr le a b c d) (z : Int) : ∃ h', hp_pv h e 0 5 (.long (lI z)) = some h' ∧ es h' e gr le a b c z ∧ fr h h' e e :=
  ⟨va_up h e (some (.inr (.inr (.inr (0, [.ref gr, .ref le, .long (lI a), .long (lI b), .long (lI c), .long (lI z)]))))), by unfold es at E; simp [hp_pv, E], va_up_self _ _ _, fun q hq _ => va_up_ne _ _ hq⟩
def sm (z : Int) : Prop := -1073741824 ≤ z ∧ z ≤ 1073741824
/-- what the two numbers have become: still with the same divisors, in order, with fewer bits -/
def fe (X Y : Nat) (a b c d : Int) : Prop := ∃ U V : Nat, (U : Int) = a * X + b * Y ∧ (V : Int) = c * X + d * Y ∧ V ≤ U ∧ Nat.gcd U V = Nat.gcd X Y
def fw (X Y : Nat) (a b c d : Int) : Prop := ∃ U V : Nat, (U : Int) = a * X + b * Y ∧ (V : Int) = c * X + d * Y ∧ V ≤ U ∧ Nat.gcd U V = Nat.gcd X Y ∧ bl U + bl V < bl X + bl Y ∧ U ≤ X
/-- the loop's invariant: x, y the heads as they have become -/
def li (X Y : Nat) (x0 y0 x y a b c d : Int) : Prop := x = a * x0 + b * y0 ∧ y = c * x0 + d * y0 ∧ ((0 ≤ a ∧ b ≤ 0 ∧ c ≤ 0 ∧ 0 < d ∧ a * d - b * c = 1) ∨ (a ≤ 0 ∧ 0 ≤ b ∧ 0 ≤ c ∧ d < 0 ∧ b * c - a * d = 1)) ∧ 0 ≤ y ∧ y ≤ x ∧ x < 1152921504606846976 ∧ 0 ≤ x + a ∧ 0 ≤ x + b ∧ sm a ∧ sm b ∧ sm c ∧ sm d ∧ ((b = 0 ∧ a = 1 ∧ c = 0 ∧ d = 1 ∧ Y ≤ X) ∨ (b ≠ 0 ∧ fw X Y a b c d))
theorem li_step {X Y : Nat} {x0 y0 x y a b c d P ex ey q : Int} (L : li X Y x0 y0 x y a b c d) (hX : (X : Int) = x0 * P + ex) (hY : (Y : Int) = y0 * P + ey) (e1 : 0 ≤ ex) (e2 : ex ≤ P) (e3 : 0 ≤ ey) (e4 : ey ≤ P) (hP : 0 < P) (hx0 : x0 < 1152921504606846976) (hy0 : y0 < 1152921504606846976)
    (hc0 : 0 < y + c) (hd0 : 0 < y + d) (q1 : q * (y + c) ≤ x + a) (q2 : x + a < (q + 1) * (y + c)) (q3 : q * (y + d) ≤ x + b) (q4 : x + b < (q + 1) * (y + d)) :
    li X Y x0 y0 y (x - q * y) c d (a - q * c) (b - q * d) := by
  obtain ⟨hx, hy, hs, l1, l2, l3, l4, l5, sa, sb, sc, sd, hf⟩ := L
  have hq : 1 ≤ q := by
    rcases Int.lt_or_le q 1 with z | z
    · exfalso
      rcases hs with ⟨s1, s2, s3, s4, s5⟩ | ⟨s1, s2, s3, s4, s5⟩
      · have : (q + 1) * (y + c) ≤ 1 * (y + c) := Int.mul_le_mul_of_nonneg_right (by omega) (by omega)
        omega
      · have : (q + 1) * (y + d) ≤ 1 * (y + d) := Int.mul_le_mul_of_nonneg_right (by omega) (by omega)
        omega
    · exact z
  have hx' : y = c * x0 + d * y0 := hy
  have hy' : x - q * y = (a - q * c) * x0 + (b - q * d) * y0 := by subst hx hy; grind
  obtain ⟨U, V, hU, hV, hVU, hg, hbl, hUX⟩ : ∃ U V : Nat, (U : Int) = a * X + b * Y ∧ (V : Int) = c * X + d * Y ∧ V ≤ U ∧ Nat.gcd U V = Nat.gcd X Y ∧ bl U + bl V ≤ bl X + bl Y ∧ U ≤ X := by
    rcases hf with ⟨rfl, rfl, rfl, rfl, hf⟩ | ⟨-, U, V, h1, h2, h3, h4, h5, h6⟩
    · exact ⟨X, Y, by omega, by omega, hf, rfl, Nat.le_refl _, Nat.le_refl _⟩
    · exact ⟨U, V, h1, h2, h3, h4, by omega, h6⟩
  obtain ⟨n, rfl⟩ : ∃ n : Nat, q = n := ⟨q.toNat, by omega⟩
  -- what the step gives, whichever signs stand
  have fin : ∀ R : Int, R = (a - n * c) * X + (b - n * d) * Y → 0 ≤ R → R < c * X + d * Y → fw X Y c d (a - n * c) (b - n * d) := by
    intro R hR h0 h1
    obtain ⟨r, rfl⟩ : ∃ r : Nat, R = r := ⟨R.toNat, by omega⟩
    have eU : U = n * V + r := by
      have : (U : Int) = n * V + r := by rw [hU, hV, hR]; grind
      have e2 : ((n * V + r : Nat) : Int) = n * V + r := by simp only [Int.natCast_add, Int.natCast_mul]
      omega
    have := bl_step eU (by omega) (by omega)
    exact ⟨V, r, hV, hR, by omega, (gcd_sub eU).trans hg, by omega, by omega⟩
  rcases hs with ⟨s1, s2, s3, s4, s5⟩ | ⟨s1, s2, s3, s4, s5⟩
  · obtain ⟨m1, m2, m3, m4, m5, m6, m7, m8⟩ := lh_step s1 s2 s3 (Int.le_of_lt s4) hx hy s5 hX hY e1 e2 e3 e4 hP hx0 hy0 hq q1 q2 q3 q4
    refine ⟨hx', hy', Or.inr ⟨s3, Int.le_of_lt s4, m1, by omega, ?_⟩, m3, by omega, by omega, by omega, by omega, sc, sd, ⟨by omega, by omega⟩, ⟨by omega, by omega⟩, Or.inr ⟨by omega, fin _ rfl m7 m8⟩⟩
    have : d * (a - n * c) - c * (b - n * d) = a * d - b * c := by grind
    rw [this]; exact s5
  · obtain ⟨m1, m2, m3, m4, m5, m6, m7, m8⟩ := lh_step (a := b) (b := a) (c := d) (d := c) (X := Y) (Y := X) (ex := ey) (ey := ex) s2 s1 (Int.le_of_lt s4) s3 (by rw [hx]; omega) (by rw [hy]; omega) s5 hY hX e3 e4 e1 e2 hP hy0 hx0 hq q3 q4 q1 q2
    have hdq : -d ≤ n * (-d) := by
      have := Int.mul_le_mul_of_nonneg_right hq (show 0 ≤ -d by omega)
      omega
    rw [Int.mul_neg] at hdq
    refine ⟨hx', hy', Or.inl ⟨s3, Int.le_of_lt s4, by omega, by omega, ?_⟩, m3, by omega, by omega, by omega, by omega, sc, sd, ⟨by omega, by omega⟩, ⟨by omega, by omega⟩, Or.inr ⟨by omega, fin _ rfl (by omega) (by omega)⟩⟩
    have : c * (b - n * d) - d * (a - n * c) = b * c - a * d := by grind
    rw [this]; exact s5
theorem lI_nn {z : Int} (h : 0 ≤ z) : lI z = lN z.toNat := by rw [lN_lI]; congr 1; omega
theorem lI_div {m n : Int} (h1 : 0 ≤ m) (h2 : m < 9223372036854775808) (h3 : 0 < n) (h4 : n < 9223372036854775808) : lI m / lI n = lI (m / n) := by
  obtain ⟨a, rfl⟩ : ∃ a : Nat, m = a := ⟨m.toNat, by omega⟩
  obtain ⟨b, rfl⟩ : ∃ b : Nat, n = b := ⟨n.toNat, by omega⟩
  rw [← lN_lI, ← lN_lI, pk_lDiv (by omega) (by omega) (by omega), lN_lI]
  rfl
theorem fs_loop {e gr le X Y : Nat} {x0 y0 P ex ey : Int} (hX : (X : Int) = x0 * P + ex) (hY : (Y : Int) = y0 * P + ey) (e1 : 0 ≤ ex) (e2 : ex ≤ P) (e3 : 0 ≤ ey) (e4 : ey ≤ P) (hP : 0 < P) (hx0 : x0 < 1152921504606846976) (hy0 : y0 < 1152921504606846976) :
    ∀ (k j n : Nat) (x y a b c d : Int) (h : hp_H), 120 - j = k → j ≤ 120 → k < n → es h e gr le a b c d → li X Y x0 y0 x y a b c d →
    ∃ fl h' a' b' c' d', bX0_foreseeSteps_57 e n (lI x) (lI y) (nI j) h = some (fl, h') ∧ es h' e gr le a' b' c' d' ∧ fr h h' e e ∧ (fl = 0 ∨ (fl = 1 ∧ sm a' ∧ sm b' ∧ sm c' ∧ sm d' ∧ fw X Y a' b' c' d')) := by
  have done : ∀ (x y a b c d : Int) (h : hp_H), es h e gr le a b c d → li X Y x0 y0 x y a b c d → ∃ fl h' a' b' c' d', bX0_foreseeSteps_205 e h = some (fl, h') ∧ es h' e gr le a' b' c' d' ∧ fr h h' e e ∧ (fl = 0 ∨ (fl = 1 ∧ sm a' ∧ sm b' ∧ sm c' ∧ sm d' ∧ fw X Y a' b' c' d')) := by
    intro x y a b c d h E L
    obtain ⟨hx, hy, hs, l1, l2, l3, l4, l5, sa, sb, sc, sd, hf⟩ := L
    unfold bX0_foreseeSteps_205
    rw [es_b E, Option.bind_some, show (0 : Int64) = lI 0 from rfl]
    have rb := sb
    unfold sm at rb
    rcases hf with ⟨hb, -⟩ | ⟨hb, hf⟩
    · rw [if_pos (by rw [hb])]
      exact ⟨0, h, a, b, c, d, rfl, E, fr.rf, Or.inl rfl⟩
    · rw [if_neg (fun q => hb ((lI_eq (by omega) (by omega) (by omega) (by omega)).mp q))]
      exact ⟨1, h, a, b, c, d, rfl, E, fr.rf, Or.inr ⟨rfl, sa, sb, sc, sd, hf⟩⟩
  intro k
  induction k with
  | zero =>
    intro j n x y a b c d h hk hj hn E L
    obtain ⟨m, rfl⟩ : ∃ m, n = m + 1 := ⟨n - 1, by omega⟩
    obtain rfl : j = 120 := by omega
    rw [bX0_foreseeSteps_57, if_pos (by decide)]
    exact done x y a b c d h E L
  | succ k ih =>
    intro j n x y a b c d h hk hj hn E L
    obtain ⟨m, rfl⟩ : ∃ m, n = m + 1 := ⟨n - 1, by omega⟩
    have L0 := L
    obtain ⟨hx, hy, hs, l1, l2, l3, l4, l5, sa, sb, sc, sd, hf⟩ := L
    unfold sm at sa sb sc sd
    rw [bX0_foreseeSteps_57, show (120 : Int32) = nI 120 from rfl, if_neg (fun q => by have := (nI_leI (by omega) (by omega)).mp q; omega), es_c E, Option.bind_some, lI_add, show (0 : Int64) = lI 0 from rfl]
    by_cases hc0 : y + c ≤ 0
    · rw [if_pos ((lI_le (by omega) (by omega) (by omega) (by omega)).mpr hc0)]
      exact done x y a b c d h E L0
    · rw [if_neg (fun q => hc0 ((lI_le (by omega) (by omega) (by omega) (by omega)).mp q)), es_d E, Option.bind_some, lI_add]
      by_cases hd0 : y + d ≤ 0
      · rw [if_pos ((lI_le (by omega) (by omega) (by omega) (by omega)).mpr hd0)]
        exact done x y a b c d h E L0
      · have nc : ¬ lI (y + c) = lI 0 := fun q => by have := (lI_eq (by omega) (by omega) (by omega) (by omega)).mp q; omega
        have ndd : ¬ lI (y + d) = lI 0 := fun q => by have := (lI_eq (by omega) (by omega) (by omega) (by omega)).mp q; omega
        rw [if_neg (fun q => hd0 ((lI_le (by omega) (by omega) (by omega) (by omega)).mp q)), es_a E, Option.bind_some, Option.bind_some, lI_add, if_pos nc, lI_add, lI_div (by omega) (by omega) (by omega) (by omega), Option.bind_some, es_b E, Option.bind_some, Option.bind_some, lI_add, if_pos ndd, lI_add, lI_div (by omega) (by omega) (by omega) (by omega)]
        have b1 : 0 ≤ (x + a) / (y + c) := Int.ediv_nonneg (by omega) (by omega)
        have b2 : (x + a) / (y + c) ≤ x + a := Int.ediv_le_self _ (by omega)
        have b3 : 0 ≤ (x + b) / (y + d) := Int.ediv_nonneg (by omega) (by omega)
        have b4 : (x + b) / (y + d) ≤ x + b := Int.ediv_le_self _ (by omega)
        by_cases hq : (x + a) / (y + c) = (x + b) / (y + d)
        · rw [if_pos (by rw [hq]), Option.bind_some, Option.bind_some, lI_mul, lI_sub, Option.bind_some, Option.bind_some, Option.bind_some, lI_mul, lI_sub, Option.bind_some, lI_mul, lI_sub, Option.bind_some, Option.bind_some]
          have r1 := Int.mul_ediv_add_emod (x + a) (y + c)
          have r2 := Int.emod_nonneg (x + a) (show y + c ≠ 0 by omega)
          have r3 := Int.emod_lt_of_pos (x + a) (show 0 < y + c by omega)
          have r4 := Int.mul_ediv_add_emod (x + b) (y + d)
          have r5 := Int.emod_nonneg (x + b) (show y + d ≠ 0 by omega)
          have r6 := Int.emod_lt_of_pos (x + b) (show 0 < y + d by omega)
          rw [← hq] at r4
          generalize (x + a) / (y + c) = q at *
          obtain ⟨h37, w1, E1, F1⟩ := es_pa E c
          obtain ⟨h41, w2, E2, F2⟩ := es_pb E1 d
          obtain ⟨h43, w3, E3, F3⟩ := es_pc E2 (a - q * c)
          obtain ⟨h45, w4, E4, F4⟩ := es_pd E3 (b - q * d)
          rw [w1, Option.bind_some, es_d E1, Option.bind_some, w2, Option.bind_some, w3, Option.bind_some, w4, Option.bind_some, Option.bind_some, nI_1]
          have Ln := li_step (q := q) L0 hX hY e1 e2 e3 e4 hP hx0 hy0 (by omega) (by omega) (by rw [Int.mul_comm]; omega) (by rw [Int.add_mul, Int.mul_comm, Int.one_mul]; omega) (by rw [Int.mul_comm]; omega) (by rw [Int.add_mul, Int.mul_comm, Int.one_mul]; omega)
          obtain ⟨fl, h', a', b', c', d', g1, g2, g3, g4⟩ := ih (j + 1) m y (x - q * y) c d (a - q * c) (b - q * d) h45 (by omega) (by omega) (by omega) E4 Ln
          exact ⟨fl, h', a', b', c', d', g1, g2, (((F1.tr F2).tr F3).tr F4).tr g3, g4⟩
        · rw [if_neg (fun q => hq ((lI_eq (by omega) (by omega) (by omega) (by omega)).mp q))]
          exact done x y a b c d h E L0
theorem headFrom_eq {h : hp_H} {a b v f : Nat} (V : nv h a b v) (hf : f ≤ 5000) (hv : v / 2 ^ f < 1152921504606846976) : fX0_headFrom a (nI f) h = some (lI ((v / 2 ^ f : Nat) : Int)) := by
  unfold fX0_headFrom
  rw [show nI f + (30 : Int32) = nI (f + 30) by rw [ni30, nI_add], limbFrom_eq V (by omega), Option.bind_some, limbFrom_eq V (by omega), Option.bind_some, nI_l (by omega), nI_l (by omega), lN_or30 (Nat.mod_lt _ (by decide)) (Nat.mod_lt _ (by decide)), lN_lI, Nat.pow_add, ← Nat.div_div_eq_div_mul]
  generalize v / 2 ^ f = u at *
  congr 3
  omega

theorem foresee_eq {h : hp_H} {e gr gb le lb X Y : Nat} {a b c d : Int} (E : es h e gr le a b c d) (G : nv h gr gb X) (L : nv h le lb Y) (hYX : Y ≤ X) (N : List.Nodup [e, gr, gb, le, lb]) :
    ∃ fl h' a' b' c' d', fX0_foreseeSteps e h = some (fl, h') ∧ es h' e gr le a' b' c' d' ∧ fr h h' e e ∧ (fl = 0 ∨ (fl = 1 ∧ sm a' ∧ sm b' ∧ sm c' ∧ sm d' ∧ fw X Y a' b' c' d')) := by
  have l1 := nv_lt G
  obtain ⟨f, hf, hX60⟩ : ∃ f, hp_max (nI (bl X) - (60 : Int32)) 0 = nI f ∧ f = bl X - 60 := by
    refine ⟨bl X - 60, ?_, rfl⟩
    rw [nI_iI (bl X), show (60 : Int32) = iI 60 from rfl, iI_sub, iI_max0 (by omega) (by omega)]
    congr 1; omega
  have hP : 0 < 2 ^ f := Nat.two_pow_pos f
  have hx : X / 2 ^ f < 1152921504606846976 := by
    have : bl (X / 2 ^ f) ≤ 60 := by rw [bl_div]; omega
    exact bl_le.mp this
  have hy : Y / 2 ^ f < 1152921504606846976 := Nat.lt_of_le_of_lt (Nat.div_le_div_right hYX) hx
  obtain ⟨h15, w1, E1, F1⟩ := es_pa E 1
  obtain ⟨h17, w2, E2, F2⟩ := es_pb E1 0
  obtain ⟨h19, w3, E3, F3⟩ := es_pc E2 0
  obtain ⟨h21, w4, E4, F4⟩ := es_pd E3 1
  have dX := Nat.div_add_mod X (2 ^ f)
  have mX := Nat.mod_lt X hP
  have dY := Nat.div_add_mod Y (2 ^ f)
  have mY := Nat.mod_lt Y hP
  have hle : Y / 2 ^ f ≤ X / 2 ^ f := Nat.div_le_div_right hYX
  have eh1 := headFrom_eq G (show f ≤ 5000 by omega) hx
  have eh2 := headFrom_eq L (show f ≤ 5000 by omega) hy
  generalize X / 2 ^ f = u at *
  generalize Y / 2 ^ f = w at *
  generalize X % 2 ^ f = m1 at *
  generalize Y % 2 ^ f = m2 at *
  have kk := fs_loop (e := e) (gr := gr) (le := le) (X := X) (Y := Y) (x0 := (u : Int)) (y0 := (w : Int)) (P := ((2 ^ f : Nat) : Int)) (ex := (m1 : Int)) (ey := (m2 : Int)) (by rw [← Int.natCast_mul, ← Int.natCast_add]; congr 1; rw [Nat.mul_comm]; exact dX.symm) (by rw [← Int.natCast_mul, ← Int.natCast_add]; congr 1; rw [Nat.mul_comm]; exact dY.symm) (by omega) (by omega) (by omega) (by omega) (by omega) (by omega) (by omega) 120 0 hp_n (u : Int) (w : Int) 1 0 0 1 h21 (by omega) (by omega) (by unfold hp_n; omega) E4 ⟨by omega, by omega, Or.inl ⟨by omega, by omega, by omega, by omega, by omega⟩, by omega, by omega, by omega, by omega, by omega, ⟨by omega, by omega⟩, ⟨by omega, by omega⟩, ⟨by omega, by omega⟩, ⟨by omega, by omega⟩, Or.inl ⟨rfl, rfl, rfl, rfl, hYX⟩⟩
  obtain ⟨fl, h', a', b', c', d', g1, g2, g3, g4⟩ := kk
  refine ⟨fl, h', a', b', c', d', ?_, g2, (((F1.tr F2).tr F3).tr F4).tr g3, g4⟩
  unfold fX0_foreseeSteps
  rw [if_pos (es_o E), es_g E, Option.bind_some, bitLength_eq G, Option.bind_some, hf, Option.bind_some, Option.bind_some, eh1, Option.bind_some, es_l E, Option.bind_some, eh2, Option.bind_some]
  rw [show (1 : Int64) = lI 1 from rfl, show (0 : Int64) = lI 0 from rfl, w1, Option.bind_some, w2, Option.bind_some, w3, Option.bind_some, w4, Option.bind_some]
  exact g1
