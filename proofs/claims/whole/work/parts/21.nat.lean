/-! A NATURAL IN THE HEAP -/
theorem ni0 : (0 : Int32) = nI 0 := rfl
theorem ni1 : (1 : Int32) = nI 1 := rfl
theorem ni2 : (2 : Int32) = nI 2 := rfl
theorem ni30 : (30 : Int32) = nI 30 := rfl
theorem ni140 : (140 : Int32) = nI 140 := rfl
theorem nI_cl {n : Nat} (h : n < 2147483648) : (nI n).toNatClampNeg = n := nI_clamp h
theorem nI_lt0 {n : Nat} (h : n < 2147483648) : ¬ nI n < 0 := nI_pos h
theorem nI_min {a b : Nat} (ha : a < 2147483648) (hb : b < 2147483648) : hp_min (nI a) (nI b) = nI (min a b) := by
  unfold hp_min
  by_cases h : b < a
  · rw [if_pos ((nI_ltI hb ha).mpr h), Nat.min_eq_right (Nat.le_of_lt h)]
  · rw [if_neg (fun q => h ((nI_ltI hb ha).mp q)), Nat.min_eq_left (by omega)]
theorem nI_max {a b : Nat} (ha : a < 2147483648) (hb : b < 2147483648) : hp_max (nI a) (nI b) = nI (max a b) := by
  unfold hp_max
  by_cases h : a < b
  · rw [if_pos ((nI_ltI ha hb).mpr h), Nat.max_eq_right (Nat.le_of_lt h)]
  · rw [if_neg (fun q => h ((nI_ltI ha hb).mp q)), Nat.max_eq_left (by omega)]
/-- a Natural at a, its limbs at b: the count c, the limbs g; not yet in order -/
def nr (h : hp_H) (a b c : Nat) (g : Nat → Nat) : Prop := a ≠ b ∧ h a = some (.inr (.inr (.inr (2, [.ref b, .int (nI c)])))) ∧ h b = some (.inl (0, 140, fun i => nI (g i)))
/-- in order: no more than 140 limbs, each below 2^30, the highest not 0 -/
def nt (h : hp_H) (a b c : Nat) (g : Nat → Nat) : Prop := nr h a b c g ∧ c ≤ 140 ∧ (∀ i, i < c → g i < 1073741824) ∧ (0 < c → g (c - 1) ≠ 0)
/-- limb i, 0 above the count -/
def dg (c : Nat) (g : Nat → Nat) (i : Nat) : Nat := if i < c then g i else 0
/-- h' is h but at a and b -/
def fr (h h' : hp_H) (a b : Nat) : Prop := ∀ q, q ≠ a → q ≠ b → h' q = h q
theorem nr_o {h : hp_H} {a b c : Nat} {g : Nat → Nat} (H : nr h a b c g) : hp_o h a 2 = true := by simp [hp_o, H.2.1]
theorem nr_c {h : hp_H} {a b c : Nat} {g : Nat → Nat} (H : nr h a b c g) : hp_gi h a 2 1 = some (nI c) := by simp [hp_gi, hp_gv, H.2.1]
theorem nr_l {h : hp_H} {a b c : Nat} {g : Nat → Nat} (H : nr h a b c g) : hp_gr h a 2 0 = some b := by simp [hp_gr, hp_gv, H.2.1]
theorem nr_rd {h : hp_H} {a b c : Nat} {g : Nat → Nat} (H : nr h a b c g) {i : Nat} (hi : i < 140) : hp_ai h 0 b (nI i) = some (nI (g i)) := by
  have h1 : ¬ nI i < 0 := nI_lt0 (by omega)
  have h2 : (nI i).toNatClampNeg = i := nI_cl (by omega)
  simp [hp_ai, H.2.2, h1, h2, hi]
theorem nr_upd {g : Nat → Nat} {k x : Nat} : upd (fun i => nI (g i)) k (nI x) = fun i => nI (va_up g k x i) := by
  funext j
  by_cases hj : j = k
  · subst hj; simp [upd, va_up]
  · simp [upd, va_up, hj]
theorem nr_wr {h : hp_H} {a b c : Nat} {g : Nat → Nat} (H : nr h a b c g) {i x : Nat} (hi : i < 140) : ∃ h', hp_si h 0 b (nI i) (nI x) = some h' ∧ nr h' a b c (va_up g i x) ∧ fr h h' b b := by
  have h1 : ¬ nI i < 0 := nI_lt0 (by omega)
  have h2 : (nI i).toNatClampNeg = i := nI_cl (by omega)
  refine ⟨va_up h b (some (.inl (0, 140, upd (fun i => nI (g i)) i (nI x)))), by simp [hp_si, H.2.2, h1, h2, hi], ⟨H.1, ?_, ?_⟩, ?_⟩
  · rw [va_up_ne _ _ H.1]; exact H.2.1
  · rw [va_up_self, nr_upd]
  · intro q hq _
    exact va_up_ne _ _ hq
theorem nr_pc {h : hp_H} {a b c : Nat} {g : Nat → Nat} (H : nr h a b c g) (c' : Nat) : ∃ h', hp_pv h a 2 1 (.int (nI c')) = some h' ∧ nr h' a b c' g ∧ fr h h' a a := by
  refine ⟨va_up h a (some (.inr (.inr (.inr (2, [.ref b, .int (nI c')]))))), by simp [hp_pv, H.2.1], ⟨H.1, ?_, ?_⟩, ?_⟩
  · rw [va_up_self]
  · rw [va_up_ne _ _ (Ne.symm H.1)]; exact H.2.2
  · intro q hq _
    exact va_up_ne _ _ hq
theorem nr_fr {h h' : hp_H} {a b c p q : Nat} {g : Nat → Nat} (H : nr h a b c g) (F : fr h h' p q) (h1 : a ≠ p) (h2 : a ≠ q) (h3 : b ≠ p) (h4 : b ≠ q) : nr h' a b c g := ⟨H.1, by rw [F a h1 h2]; exact H.2.1, by rw [F b h3 h4]; exact H.2.2⟩
theorem nt_fr {h h' : hp_H} {a b c p q : Nat} {g : Nat → Nat} (H : nt h a b c g) (F : fr h h' p q) (h1 : a ≠ p) (h2 : a ≠ q) (h3 : b ≠ p) (h4 : b ≠ q) : nt h' a b c g := ⟨nr_fr H.1 F h1 h2 h3 h4, H.2⟩
theorem fr.tr {h h1 h2 : hp_H} {a b : Nat} (F : fr h h1 a b) (F2 : fr h1 h2 a b) : fr h h2 a b := fun q x y => (F2 q x y).trans (F q x y)
theorem fr.l {h h1 : hp_H} {a b : Nat} (F : fr h h1 a a) : fr h h1 a b := fun q x _ => F q x x
theorem fr.r {h h1 : hp_H} {a b : Nat} (F : fr h h1 b b) : fr h h1 a b := fun q _ y => F q y y
theorem fr.rf {h : hp_H} {a b : Nat} : fr h h a b := fun _ _ _ => rfl
theorem dg_lt {c : Nat} {g : Nat → Nat} (h : ∀ i, i < c → g i < 1073741824) (i : Nat) : dg c g i < 1073741824 := by
  unfold dg
  split
  · exact h i (by assumption)
  · decide
theorem vl_dg (B c : Nat) (g : Nat → Nat) {n : Nat} (h : c ≤ n) : vl B (dg c g) n = vl B g c := by
  rw [vl_up (n := c) h (fun i h1 _ => by simp [dg]; omega)]
  exact vl_congr (fun i hi => by simp [dg, hi])
/-! reading -/
theorem isZero_eq {h : hp_H} {a b c : Nat} {g : Nat → Nat} (H : nr h a b c g) (hc : c ≤ 140) : fX2_isZero a h = some (if c = 0 then 1 else 0) := by
  unfold fX2_isZero
  rw [if_pos (nr_o H), nr_c H, Option.bind_some]
  by_cases h0 : c = 0
  · subst h0; rfl
  · rw [if_neg (nI_ne0 (by omega) (by omega)), if_neg h0]
theorem limb_eq {h : hp_H} {a b c : Nat} {g : Nat → Nat} (H : nr h a b c g) (hc : c ≤ 140) {i : Nat} (hi : i < 2147483648) : fX2_limb a (nI i) h = some (nI (dg c g i)) := by
  unfold fX2_limb
  rw [if_pos (nr_o H), if_neg (nI_lt0 hi), nr_c H, Option.bind_some]
  by_cases hic : i < c
  · rw [if_neg (fun q => by have := (nI_leI (by omega) hi).mp q; omega), nr_l H, Option.bind_some, nr_rd H (by omega), Option.bind_some]
    simp [dg, hic]
  · rw [if_pos ((nI_leI (by omega) hi).mpr (by omega))]
    simp [dg, hic]; rfl
theorem limb_neg {h : hp_H} {a b c : Nat} {g : Nat → Nat} (H : nr h a b c g) {x : Int32} (hx : x < 0) : fX2_limb a x h = some (nI 0) := by
  unfold fX2_limb
  rw [if_pos (nr_o H), if_pos hx]; rfl
/-! trimming -/
def tr (g : Nat → Nat) : Nat → Nat
  | 0 => 0
  | n + 1 => if g n = 0 then tr g n else n + 1
theorem tr_le (g : Nat → Nat) (n : Nat) : tr g n ≤ n := by
  induction n with
  | zero => exact Nat.le_refl _
  | succ n ih => rw [tr]; split <;> omega
theorem tr_top {g : Nat → Nat} {n : Nat} (h : 0 < tr g n) : g (tr g n - 1) ≠ 0 := by
  induction n with
  | zero => simp [tr] at h
  | succ n ih =>
    rw [tr] at h ⊢
    split
    · rename_i h0; rw [if_pos h0] at h; exact ih h
    · rename_i h0; exact h0
theorem vl_tr (B : Nat) (g : Nat → Nat) (n : Nat) : vl B g (tr g n) = vl B g n := by
  induction n with
  | zero => rfl
  | succ n ih =>
    rw [tr]
    split
    · rename_i h0; rw [ih, vl, h0]; simp
    · rfl
theorem nI_zero {n : Nat} (h : n < 4294967296) : nI n = 0 ↔ n = 0 := by
  constructor
  · intro q
    have this : (nI n).toBitVec.toNat = (0 : Int32).toBitVec.toNat := by rw [q]
    rw [pk_tn h] at this
    simpa using this
  · intro q; subst q; rfl
theorem trim_loop {h : hp_H} {a b c : Nat} {g : Nat → Nat} (H : nr h a b c g) : ∀ (k n : Nat), k ≤ 140 → k < n → (∀ i, i < k → g i < 4294967296) →
    ∃ h', bX2_trim_8 a n (nI k) h = some h' ∧ nr h' a b (tr g k) g ∧ fr h h' a a := by
  intro k
  induction k with
  | zero =>
    intro n _ hn _
    obtain ⟨m, rfl⟩ : ∃ m, n = m + 1 := ⟨n - 1, by omega⟩
    rw [bX2_trim_8, if_pos (by decide), bX2_trim_29]
    rw [ni0, nI_max (by omega) (by omega)]
    obtain ⟨h', h1, h2, h3⟩ := nr_pc H (max 0 0)
    rw [h1]
    exact ⟨h', rfl, h2, h3⟩
  | succ k ih =>
    intro n hk hn hg
    obtain ⟨m, rfl⟩ : ∃ m, n = m + 1 := ⟨n - 1, by omega⟩
    rw [bX2_trim_8, if_neg (nI_nle (by omega) (by omega)), nr_l H, Option.bind_some, nI_pred, nr_rd H (by omega), Option.bind_some]
    by_cases h0 : g k = 0
    · rw [if_pos ((nI_zero (hg k (by omega))).mpr h0), Option.bind_some, pk_m1]
      obtain ⟨h', h1, h2, h3⟩ := ih m (by omega) (by omega) (fun i hi => hg i (by omega))
      refine ⟨h', h1, ?_, h3⟩
      rw [tr, if_pos h0]; exact h2
    · rw [if_neg (fun q => h0 ((nI_zero (hg k (by omega))).mp q)), bX2_trim_29, ni0, nI_max (by omega) (by omega)]
      obtain ⟨h', h1, h2, h3⟩ := nr_pc H (max (k + 1) 0)
      rw [h1]
      refine ⟨h', rfl, ?_, h3⟩
      rw [tr, if_neg h0]; simpa using h2
theorem trim_eq {h : hp_H} {a b c : Nat} {g : Nat → Nat} (H : nr h a b c g) {k : Nat} (hk : k ≤ 140) (hg : ∀ i, i < k → g i < 1073741824) : ∃ h', fX2_trim a (nI k) h = some h' ∧ nt h' a b (tr g k) g ∧ fr h h' a a := by
  unfold fX2_trim
  rw [if_pos (nr_o H), Option.bind_some, ni140, nI_min (by omega) (by omega), Nat.min_eq_left hk]
  obtain ⟨h', h1, h2, h3⟩ := trim_loop H k hp_n hk (by unfold hp_n; omega) (fun i hi => by have := hg i hi; omega)
  have := tr_le g k
  exact ⟨h', h1, ⟨h2, by omega, fun i hi => hg i (by omega), tr_top⟩, h3⟩
