/-! Text: the digits of a number -/
theorem tx_congr {h : hp_H} {t b n : Nat} {T T' : Nat → Nat} (X : tx h t b T n) (he : ∀ i, i < n → T i = T' i) : tx h t b T' n := by
  obtain ⟨e0, ⟨g, e, hg⟩, hn, hT⟩ := X
  exact ⟨e0, ⟨g, e, fun i hi => (hg i hi).trans (he i hi)⟩, hn, fun i hi => by rw [← he i hi]; exact hT i hi⟩
theorem tx_fr {h h' : hp_H} {t b n p q : Nat} {T : Nat → Nat} (X : tx h t b T n) (F : fr h h' p q) (h1 : t ≠ p) (h2 : t ≠ q) (h3 : b ≠ p) (h4 : b ≠ q) : tx h' t b T n := ⟨(F t h1 h2).trans X.1, X.2.1.elim fun g hg => ⟨g, (F b h3 h4).trans hg.1, hg.2⟩, X.2.2⟩
/-- how many digits a number has; 0 has none -/
def dc (B : Nat) : Nat → Nat
  | 0 => 0
  | X + 1 => if B ^ dc B X ≤ X + 1 then dc B X + 1 else dc B X
theorem dc_spec {B : Nat} (hB : 2 ≤ B) : ∀ X, X < B ^ dc B X ∧ ∀ c, c < dc B X → B ^ c ≤ X
  | 0 => by unfold dc; exact ⟨by rw [Nat.pow_zero]; omega, fun c hc => by omega⟩
  | X + 1 => by
    obtain ⟨h1, h2⟩ := dc_spec hB X
    unfold dc
    by_cases h : B ^ dc B X ≤ X + 1
    · rw [if_pos h]
      refine ⟨?_, fun c hc => ?_⟩
      · rw [Nat.pow_succ]
        have := Nat.mul_le_mul_left (B ^ dc B X) hB
        omega
      · rcases Nat.lt_or_ge c (dc B X) with q | q
        · have := h2 c q; omega
        · rw [show c = dc B X by omega]; exact h
    · rw [if_neg h]
      exact ⟨by omega, fun c hc => by have := h2 c hc; omega⟩
theorem dc_lt {B : Nat} (hB : 2 ≤ B) {X c : Nat} : c < dc B X ↔ B ^ c ≤ X := by
  obtain ⟨h1, h2⟩ := dc_spec hB X
  refine ⟨h2 c, fun h => ?_⟩
  rcases Nat.lt_or_ge c (dc B X) with q | q
  · exact q
  · have := Nat.pow_le_pow_right (show 0 < B by omega) q
    omega
theorem dc_div {B : Nat} (hB : 2 ≤ B) {X c : Nat} : X / B ^ c = 0 ↔ dc B X ≤ c := by
  rw [Nat.div_eq_zero_iff]
  have hp := Nat.pow_pos (n := c) (show 0 < B by omega)
  have := dc_lt hB (X := X) (c := c)
  omega
theorem dc_le {B : Nat} (hB : 2 ≤ B) {X k : Nat} (h : bl X ≤ k) : dc B X ≤ k := by
  rcases Nat.lt_or_ge k (dc B X) with q | q
  · have h1 := (dc_lt hB).mp q
    have h2 := bl_le.mp h
    have h3 := Nat.pow_le_pow_left hB k
    omega
  · exact q
def wt (B X i : Nat) : Nat := lt (X / B ^ i % B)
theorem ad_q {B e v p : Nat} (hB : 0 < B) : (v * (B * e) + p) / B = v * e + p / B := by
  rw [show v * (B * e) + p = p + B * (v * e) by grind, Nat.add_mul_div_left _ _ hB, Nat.add_comm]
theorem ad_m {B e v p : Nat} : (v * (B * e) + p) % B = p % B := by
  rw [show v * (B * e) + p = p + B * (v * e) by grind, Nat.add_mul_mod_self_left]
theorem ad_inner {B X dgt t b a ab : Nat} {sc x5 : Int32} {k34 : Int32 → hp_H → Option hp_H} (hB2 : 2 ≤ B) (hB : B ≤ 16) (hX : bl X ≤ 4096) (hd : dgt ≤ 30) (hsc : B ^ dgt < 1073741824) (htb : t ≠ b) (h1 : a ≠ t) (h2 : a ≠ b) (h3 : ab ≠ t) (h4 : ab ≠ b) : ∀ (e i p v n m : Nat) (h : hp_H), dgt - i = e → i ≤ dgt → e < n → nv h a ab v → tx h t b (wt B X) m → X / B ^ m = v * B ^ e + p → p < B ^ e → m ≤ dc B X →
    ∃ m' h', bX3_appendDigitsBackwards_60 k34 t a (nI B) (nI dgt) sc x5 n (nI p) (nI i) h = k34 (x5 + 1) h' ∧ nv h' a ab (X / B ^ m') ∧ tx h' t b (wt B X) m' ∧ m' ≤ dc B X ∧ fr h h' t b ∧ m ≤ m' ∧ (0 < e → X / B ^ m ≠ 0 → m + 1 ≤ m')
  | 0, i, p, v, n + 1, m, h, he, hi, hn, V, Tx, hv, hp, hm => by
    simp only [bX3_appendDigitsBackwards_60]
    rw [if_pos ((nI_leI (by omega) (by omega)).mpr (by omega)), bX3_appendDigitsBackwards_101, Option.bind_some]
    rw [Nat.pow_zero] at hv hp
    refine ⟨m, h, rfl, ?_, Tx, hm, fr.rf, Nat.le_refl _, fun q => by omega⟩
    rw [hv, Nat.mul_one, show p = 0 by omega]; exact V
  | e + 1, i, p, v, n + 1, m, h, he, hi, hn, V, Tx, hv, hp, hm => by
    simp only [bX3_appendDigitsBackwards_60]
    have hpe : B ^ (e + 1) = B * B ^ e := by rw [Nat.pow_succ, Nat.mul_comm]
    have hple : B ^ (e + 1) ≤ B ^ dgt := Nat.pow_le_pow_right (by omega) (by omega)
    have go : X / B ^ m ≠ 0 → ∃ m' h', bX3_appendDigitsBackwards_78 k34 (bX3_appendDigitsBackwards_60 k34 t a (nI B) (nI dgt) sc x5 n) t a (nI B) (nI dgt) sc x5 (nI p) (nI i) h = k34 (x5 + 1) h' ∧ nv h' a ab (X / B ^ m') ∧ tx h' t b (wt B X) m' ∧ m' ≤ dc B X ∧ fr h h' t b ∧ m ≤ m' ∧ (0 < e + 1 → X / B ^ m ≠ 0 → m + 1 ≤ m') := by
      intro hne
      have hlt : m < dc B X := by
        rcases Nat.lt_or_ge m (dc B X) with q | q
        · exact q
        · exact absurd ((dc_div hB2).mpr q) hne
      have hdc := dc_le hB2 hX
      unfold bX3_appendDigitsBackwards_78
      have hB0 : ¬ nI B = 0 := fun q => by
        have := (nI_ij (b := 0) (by omega) (by omega)).mp q; omega
      have hr : p % B < 16 := Nat.lt_of_lt_of_le (Nat.mod_lt _ (by omega)) hB
      rw [if_pos hB0, nI_rem (by omega) (by omega) (by omega), letterOf_eq _ hr, Option.bind_some]
      obtain ⟨h5, p1, X5, F5⟩ := append_eq Tx htb (c := lt (p % B)) (by omega) (lt_128 hr)
      rw [p1, Option.bind_some, if_pos hB0, Option.bind_some, Option.bind_some, pk_div (by omega) (by omega) (by omega), ni1, nI_add]
      have ew : lt (p % B) = wt B X m := by unfold wt; rw [hv, hpe, ad_m]
      have X5' : tx h5 t b (wt B X) (m + 1) := tx_congr X5 (fun j hj => by
        by_cases q : j = m
        · rw [q, va_up_self, ew]
        · rw [va_up_ne _ _ q])
      have V5 : nv h5 a ab v := nv_fr V F5 h1 h2 h3 h4
      have hv5 : X / B ^ (m + 1) = v * B ^ e + p / B := by
        rw [Nat.pow_succ, ← Nat.div_div_eq_div_mul, hv, hpe, ad_q (by omega)]
      have hp5 : p / B < B ^ e := (Nat.div_lt_iff_lt_mul (by omega)).mpr (by rw [Nat.mul_comm, ← hpe]; exact hp)
      obtain ⟨m', h', r1, r2, r3, r4, r5, r6, -⟩ := ad_inner hB2 hB hX hd hsc htb h1 h2 h3 h4 e (i + 1) (p / B) v n (m + 1) h5 (by omega) (by omega) (by omega) V5 X5' hv5 hp5 (by omega)
      exact ⟨m', h', r1, r2, r3, r4, F5.tr r5, by omega, fun _ _ => r6⟩
    rw [if_neg (fun q => by have := (nI_leI (by omega) (by omega)).mp q; omega)]
    by_cases hp0 : 0 < p
    · rw [if_pos (show (0 : Int32) < nI p from (nI_ltI (a := 0) (by omega) (by omega)).mpr hp0)]
      exact go (by rw [hv]; omega)
    · rw [if_neg (fun q => by have := (nI_ltI (a := 0) (by omega) (by omega)).mp q; omega), isZero_v V, Option.bind_some]
      by_cases hv0 : v = 0
      · rw [if_pos hv0, if_neg (by decide), bX3_appendDigitsBackwards_101, Option.bind_some]
        have hz : X / B ^ m = 0 := by rw [hv, hv0, Nat.zero_mul]; omega
        refine ⟨m, h, rfl, ?_, Tx, hm, fr.rf, Nat.le_refl _, fun _ q => absurd hz q⟩
        rw [hz, ← hv0]; exact V
      · rw [if_neg hv0, if_pos rfl]
        refine go ?_
        rw [hv]
        have : 0 < v * B ^ (e + 1) := Nat.mul_pos (by omega) (Nat.pow_pos (by omega))
        omega
theorem ad_outer {B X dgt t b a ab : Nat} (hB2 : 2 ≤ B) (hB : B ≤ 16) (hX : bl X ≤ 4096) (hd1 : 1 ≤ dgt) (hd : dgt ≤ 30) (hsc : B ^ dgt < 1073741824) (htb : t ≠ b) (h1 : a ≠ t) (h2 : a ≠ b) (h3 : ab ≠ t) (h4 : ab ≠ b) : ∀ (e j n m : Nat) (h : hp_H), bl (X / B ^ m) ≤ e → e + j ≤ 4096 → e < n → nv h a ab (X / B ^ m) → tx h t b (wt B X) m → m ≤ dc B X →
    ∃ h', bX3_appendDigitsBackwards_34 t a (nI B) (nI dgt) (nI (B ^ dgt)) n (nI j) h = some h' ∧ nv h' a ab 0 ∧ tx h' t b (wt B X) (dc B X) ∧ fs h h' [t, b, a, ab]
  | e, j, n + 1, m, h, he, hj, hn, V, Tx, hm => by
    simp only [bX3_appendDigitsBackwards_34]
    by_cases hz : X / B ^ m = 0
    · have hmd := (dc_div hB2).mp hz
      have em : m = dc B X := by omega
      have : ∃ h', (some h : Option hp_H) = some h' ∧ nv h' a ab 0 ∧ tx h' t b (wt B X) (dc B X) ∧ fs h h' [t, b, a, ab] := ⟨h, rfl, by rw [← hz]; exact V, em ▸ Tx, fs.rf⟩
      by_cases hj2 : 4096 ≤ j
      · rw [if_pos (show (4096 : Int32) ≤ nI j from (nI_leI (a := 4096) (by omega) (by omega)).mpr hj2)]; exact this
      · rw [if_neg (fun q => by have := (nI_leI (a := 4096) (b := j) (by omega) (by omega)).mp q; omega), isZero_v V, Option.bind_some, if_pos hz, if_neg (by decide)]; exact this
    · have hb := bl_pos hz
      rw [if_neg (fun q => by have := (nI_leI (a := 4096) (b := j) (by omega) (by omega)).mp q; omega), isZero_v V, Option.bind_some, if_neg hz, if_pos rfl]
      obtain ⟨h6, p1, V6, F6⟩ := cutBy_eq V (Nat.pow_pos (n := dgt) (show 0 < B by omega)) hsc
      have Tx6 := tx_fr Tx F6 (Ne.symm h1) (Ne.symm h3) (Ne.symm h2) (Ne.symm h4)
      have hsp : X / B ^ m = X / B ^ m / B ^ dgt * B ^ dgt + X / B ^ m % B ^ dgt := by
        rw [Nat.mul_comm]; exact (Nat.div_add_mod _ _).symm
      obtain ⟨m', h', r1, r2, r3, r4, r5, r6, r7⟩ := ad_inner (sc := nI (B ^ dgt)) (x5 := nI j) (k34 := bX3_appendDigitsBackwards_34 t a (nI B) (nI dgt) (nI (B ^ dgt)) n) hB2 hB hX hd hsc htb h1 h2 h3 h4 dgt 0 _ _ hp_n m h6 (by omega) (by omega) (show dgt < 1000000 by omega) V6 Tx6 hsp (Nat.mod_lt _ (Nat.pow_pos (by omega))) hm
      rw [p1, Option.bind_some]
      simp only []
      rw [show (0 : Int32) = nI 0 from rfl, r1, ni1, nI_add]
      have m1 := r7 (by omega) hz
      have hdec : bl (X / B ^ m') ≤ e - 1 := by
        have g1 : X / B ^ m' ≤ X / B ^ m / 2 := by
          obtain ⟨c, rfl⟩ : ∃ c, m' = m + 1 + c := ⟨m' - m - 1, by omega⟩
          rw [Nat.pow_add, Nat.pow_succ, Nat.mul_assoc, ← Nat.div_div_eq_div_mul]
          refine Nat.div_le_div_left ?_ (by omega)
          exact Nat.le_trans hB2 (Nat.le_mul_of_pos_right _ (Nat.pow_pos (by omega)))
        have g2 := bl_mono g1
        have g3 := bl_div (X / B ^ m) 1
        rw [Nat.pow_one] at g3
        omega
      obtain ⟨h'', s1, s2, s3, s4⟩ := ad_outer hB2 hB hX hd1 hd hsc htb h1 h2 h3 h4 (e - 1) (j + 1) n m' h' hdec (by omega) (by omega) r2 r3 r4
      exact ⟨h'', s1, s2, s3, (F6.fs (by simp) (by simp)).tr ((r5.fs (by simp) (by simp)).tr s4)⟩
