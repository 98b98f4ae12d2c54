/-! the reference: write -/
/-- letters stored so far -/
def tg (h : hp_H) (y k : Nat) (W : Nat → Nat) : Prop := ∃ g, ar h (y + 8) 4100 g ∧ ∀ i, i < k → g i = W i
theorem m3_tx {h : hp_H} {y n p c k : Nat} {R : Nat → Int} {T W : Nat → Nat} {t : Int32} {A B C X Y Z : Option Nat} (S : m3 h y R T n t A B C X Y Z) (G : tg h y k W) (hp : p < 4100) (hc : c < 128) : ∃ h', hp_si h 0 (y + 8) (nI p) (nI c) = some h' ∧ m3 h' y R (va_up T p c) n t A B C X Y Z ∧ tg h' y k (va_up W p c) ∧ (p = k → tg h' y (k + 1) (va_up W p c)) ∧ fr h h' (y + 8) (y + 8) := by
  obtain ⟨g, G, hg⟩ := G
  obtain ⟨h', p1, A', F⟩ := ar_wr G hp (by omega) c
  have up : ∀ j, (j < k ∨ j = p) → va_up g p c j = va_up W p c j := fun j hj => by
    by_cases q : j = p
    · rw [q, va_up_self, va_up_self]
    · rw [va_up_ne _ _ q, va_up_ne _ _ q]; exact hg j (hj.resolve_right q)
  refine ⟨h', p1, ?_, ⟨_, A', fun i hi => up i (Or.inl hi)⟩, fun e => ⟨_, A', fun i hi => up i (by omega)⟩, F⟩
  obtain ⟨cc, M, qA, qB, qC, qX, qY, qZ⟩ := S
  obtain ⟨o, ⟨gd, gl, s, r1, r2, r3, r4⟩, mL, ⟨⟨g2, x1, x2⟩, x3, x4⟩, m5⟩ := M
  obtain ⟨h'', p1'', A'', F''⟩ := ar_wr x1 hp (by omega) c
  rw [p1] at p1''
  cases p1''
  refine ⟨cc, ⟨(F _ (by omega) (by omega)).trans o, ⟨gd, gl, s, ar_fr r1 F (by omega) (by omega), ar_fr r2 F (by omega) (by omega), (F _ (by omega) (by omega)).trans r3, r4⟩, mv_fr mL F (by omega) (by omega), ⟨⟨_, A'', fun i hi => ?_⟩, x3, fun i hi => ?_⟩, fun j hj => ?_⟩, qA, qB, qC, fun v e => mv_fr (qX v e) F (by omega) (by omega), fun v e => mv_fr (qY v e) F (by omega) (by omega), fun v e => mv_fr (qZ v e) F (by omega) (by omega)⟩
  · by_cases q : i = p
    · rw [q, va_up_self, va_up_self]
    · rw [va_up_ne _ _ q, va_up_ne _ _ q]; exact x2 i hi
  · by_cases q : i = p
    · rw [q, va_up_self]; exact hc
    · rw [va_up_ne _ _ q]; exact x4 i hi
  · obtain ⟨g, G⟩ := m5 j hj
    exact ⟨g, ar_fr G F (by omega) (by omega)⟩
theorem tg_fr {h h' : hp_H} {y k p q : Nat} {W : Nat → Nat} (G : tg h y k W) (F : fr h h' p q) (h1 : y + 8 ≠ p) (h2 : y + 8 ≠ q) : tg h' y k W := by
  obtain ⟨g, G, hg⟩ := G
  exact ⟨g, ar_fr G F h1 h2, hg⟩
theorem tg_rd {h : hp_H} {y k i : Nat} {W : Nat → Nat} (G : tg h y k W) (hi : i < k) (hk : k ≤ 4100) : hp_ai h 0 (y + 8) (nI i) = some (nI (W i)) := by
  obtain ⟨g, G, hg⟩ := G
  rw [ar_rd G (by omega) (by omega), hg i hi]
theorem tg_congr {h : hp_H} {y k : Nat} {W W' : Nat → Nat} (G : tg h y k W) (he : ∀ i, i < k → W i = W' i) : tg h y k W' := by
  obtain ⟨g, G, hg⟩ := G
  exact ⟨g, G, fun i hi => (hg i hi).trans (he i hi)⟩
/-- the new letters become the text -/
theorem m3_len {h : hp_H} {y n k : Nat} {R : Nat → Int} {T W : Nat → Nat} {t : Int32} {A B C X Y Z : Option Nat} (S : m3 h y R T n t A B C X Y Z) (G : tg h y k W) (hk : k ≤ 4097) (hW : ∀ i, i < k → W i < 128) : ∃ h', hp_pv h y 6 13 (.int (nI k)) = some h' ∧ m3 h' y R W k t A B C X Y Z := by
  obtain ⟨cc, M, qA, qB, qC, qX, qY, qZ⟩ := S
  obtain ⟨h', p1, O', F⟩ := mo_p13 M.1 k
  obtain ⟨o, ⟨gd, gl, s, r1, r2, r3, r4⟩, mL, -, m5⟩ := M
  obtain ⟨g, G, hg⟩ := G
  refine ⟨h', p1, ⟨cc, ⟨O', ⟨gd, gl, s, ar_fr r1 F (by omega) (by omega), ar_fr r2 F (by omega) (by omega), (F _ (by omega) (by omega)).trans r3, r4⟩, mv_fr mL F (by omega) (by omega), ⟨⟨g, ar_fr G F (by omega) (by omega), hg⟩, hk, hW⟩, fun j hj => ?_⟩, qA, qB, qC, fun v e => mv_fr (qX v e) F (by omega) (by omega), fun v e => mv_fr (qY v e) F (by omega) (by omega), fun v e => mv_fr (qZ v e) F (by omega) (by omega)⟩⟩
  obtain ⟨g, G⟩ := m5 j hj
  exact ⟨g, ar_fr G F (by omega) (by omega)⟩
theorem m3_tg {h : hp_H} {y n : Nat} {R : Nat → Int} {T : Nat → Nat} {t : Int32} {A B C X Y Z : Option Nat} (S : m3 h y R T n t A B C X Y Z) : tg h y n T ∧ n ≤ 4097 ∧ ∀ i, i < n → T i < 128 := S.elim fun _ q => ⟨q.1.2.2.2.1.1, q.1.2.2.2.1.2⟩
theorem tg_0 {h : hp_H} {y n : Nat} {R : Nat → Int} {T W : Nat → Nat} {t : Int32} {A B C X Y Z : Option Nat} (S : m3 h y R T n t A B C X Y Z) : tg h y 0 W := by
  obtain ⟨⟨g, G, -⟩, -⟩ := m3_tg S
  exact ⟨g, G, fun i hi => by omega⟩
/-- one digit is taken off -/
theorem write_54 {y n v B q : Nat} {R : Nat → Int} {T W : Nat → Nat} {t x1 : Int32} {k32 : Int32 → hp_H → Option (Int32 × hp_H)} (hB2 : 2 ≤ B) (hB : B ≤ 16) (hq : q < 4100) (hv : nL v ≤ 700) : ∀ (k f : Nat) (g : Nat → Nat) (h : hp_H), k ≤ nL v → k < f → m3 h y R T n t (some v) none none none none none → ar h (y + 5 + 0) 700 g → tg h y q W → (∀ i, i < k → g i = di v i) → (∀ i, k ≤ i → i < nL v → g i = di (v / B) i) →
    ∃ h' T', bX6_write_54 k32 y x1 (nI B) (nI q) f (nI (v / 10000 ^ k % B)) (iI ((k : Int) - 1)) h = k32 (nI (q + 1)) h' ∧ m3 h' y R T' n t (some (v / B)) none none (some (v / B)) none none ∧ tg h' y (q + 1) (va_up W q (lt (v % B)))
  | 0, f + 1, g, h, hk, hf, S, A, G, hg1, hg2 => by
    have hle : nL (v / B) ≤ nL v := nL_mono (Nat.div_le_self _ _)
    rw [bX6_write_54]
    have V : mv h (y + 5 + 0) 700 (v / B) := ⟨by omega, by omega, g, A, fun i hi => hg2 i (by omega) (by omega)⟩
    have SV := m3_wX S fr.rf V
    obtain ⟨h8, p1, S8, F8⟩ := m3_pA SV (v / B)
    have G8 := tg_fr G F8 (by omega) (by omega)
    rw [if_pos (by decide), m3_r5 S, Option.bind_some, m3_i8 S, Option.bind_some, short_eq A (by omega) hle hv (fun i hi => hg2 i (by omega) hi), Option.bind_some, p1, Option.bind_some, m3_r12 S8, Option.bind_some, Nat.pow_zero, Nat.div_one]
    have hr : v % B < 16 := Nat.lt_of_lt_of_le (Nat.mod_lt _ (by omega)) hB
    obtain ⟨h9, p2, S9, -, G9, -⟩ := m3_tx S8 G8 hq (lt_128 hr)
    have go : ∀ x : Int32, x = nI (lt (v % B)) → bX6_write_138 k32 y x1 (nI B) (nI q) (y + 8) (nI q) x h8 = k32 (nI (q + 1)) h9 := fun x hx => by
      unfold bX6_write_138
      rw [hx, p2, Option.bind_some, Option.bind_some, ni1, nI_add]
    refine ⟨h9, _, ?_, S9, G9 rfl⟩
    unfold lt at go
    by_cases h10 : 10 ≤ v % B
    · rw [if_pos (show (10 : Int32) ≤ nI (v % B) from (nI_leI (a := 10) (by omega) (by omega)).mpr h10)]
      exact go _ (by rw [if_neg (by omega), show (87 : Int32) = nI 87 from rfl, nI_add])
    · rw [if_neg (show ¬ (10 : Int32) ≤ nI (v % B) from fun q => h10 ((nI_leI (a := 10) (by omega) (by omega)).mp q))]
      exact go _ (by rw [if_pos (by omega), show (48 : Int32) = nI 48 from rfl, nI_add])
  | k + 1, f + 1, g, h, hk, hf, S, A, G, hg1, hg2 => by
    rw [bX6_write_54]
    have ex : iI (((k + 1 : Nat) : Int) - 1) = nI k := by rw [nI_iI]; congr 1; omega
    have en : nI k + (-1 : Int32) = iI ((k : Int) - 1) := by rw [nI_iI, show (-1 : Int32) = iI (-1) from rfl, iI_add]; congr 1
    have dl := di_lt v k
    have hr : v / 10000 ^ (k + 1) % B < 16 := Nat.lt_of_lt_of_le (Nat.mod_lt _ (by omega)) hB
    have e1 := dv_dig B v k
    have e2 := dv_rest B v k
    have hB0 : ¬ nI B = 0 := fun q => by
      have := (nI_ij (b := 0) (by omega) (by omega)).mp q; omega
    obtain ⟨h22, p1, A22, F22⟩ := ar_wr A (i := k) (by omega) (by omega) (di (v / B) k)
    have S22 := m3_uX S F22 ⟨_, A22⟩
    have G22 := tg_fr G F22 (by omega) (by omega)
    rw [ex, if_neg (nI_lt0 (by omega)), m3_r5 S, Option.bind_some, ar_rd A (by omega) (by omega), Option.bind_some, hg1 k (by omega), Option.bind_some, Option.bind_some, if_pos hB0, i4, nI_mul, nI_add, pk_div (by omega) (by omega) (by omega), e1, p1, Option.bind_some, if_pos hB0, Option.bind_some, Option.bind_some, nI_rem (by omega) (by omega) (by omega), e2, en]
    exact write_54 hB2 hB hq hv k f _ h22 (by omega) (by omega) S22 A22 G22 (fun i hi => by rw [va_up_ne _ _ (by omega)]; exact hg1 i (by omega)) (fun i hi hi2 => by
      by_cases w : i = k
      · rw [w, va_up_self]
      · rw [va_up_ne _ _ w]; exact hg2 i (by omega) hi2)
theorem write_43 {h : hp_H} {y n v B q : Nat} {R : Nat → Int} {T W : Nat → Nat} {t x1 : Int32} {k32 : Int32 → hp_H → Option (Int32 × hp_H)} (hB2 : 2 ≤ B) (hB : B ≤ 16) (hq : q < 4100) (S : m3 h y R T n t (some v) none none (some v) none none) (G : tg h y q W) : ∃ h' T', bX6_write_43 k32 y x1 (nI B) (nI q) h = k32 (nI (q + 1)) h' ∧ m3 h' y R T' n t (some (v / B)) none none (some (v / B)) none none ∧ tg h' y (q + 1) (va_up W q (lt (v % B))) := by
  obtain ⟨h7, h5, g, A, hg⟩ := m3_vX S
  unfold bX6_write_43
  have e : nI (nL v) - (1 : Int32) = iI ((nL v : Int) - 1) := by rw [nI_iI, show (1 : Int32) = iI 1 from rfl, iI_sub]
  rw [m3_i8 S, Option.bind_some, Option.bind_some, e]
  have L := write_54 (k32 := k32) (x1 := x1) hB2 hB hq h7 (nL v) hp_n g h (Nat.le_refl _) (show nL v < 1000000 by omega) (m3_uX S fr.rf ⟨g, A⟩) A G hg (fun i hi hi2 => by omega)
  rw [Nat.div_eq_of_lt (nL_top v (Nat.le_refl _)), Nat.zero_mod] at L
  exact L
