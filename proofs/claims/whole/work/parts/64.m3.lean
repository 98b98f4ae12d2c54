/-! the reference's state with its rows: A B C the counts of x, y, z as far as they are known, X Y Z the numbers in them -/
def m3 (h : hp_H) (y : Nat) (R : Nat → Int) (T : Nat → Nat) (n : Nat) (t : Int32) (A B C X Y Z : Option Nat) : Prop := ∃ c, mm h y R T n c t ∧ (∀ v, A = some v → c 0 = nI (nL v)) ∧ (∀ v, B = some v → c 1 = nI (nL v)) ∧ (∀ v, C = some v → c 2 = nI (nL v)) ∧ (∀ v, X = some v → mv h (y + 5 + 0) 700 v) ∧ (∀ v, Y = some v → mv h (y + 5 + 1) 700 v) ∧ (∀ v, Z = some v → mv h (y + 5 + 2) 700 v)
theorem m3_o {h : hp_H} {y n : Nat} {R : Nat → Int} {T : Nat → Nat} {t : Int32} {A B C X Y Z : Option Nat} (S : m3 h y R T n t A B C X Y Z) : hp_o h y 6 = true := S.elim fun _ q => mm_o q.1
theorem m3_r0 {h : hp_H} {y n : Nat} {R : Nat → Int} {T : Nat → Nat} {t : Int32} {A B C X Y Z : Option Nat} (S : m3 h y R T n t A B C X Y Z) : hp_gr h y 6 0 = some (y + 1) := S.elim fun _ q => mm_r0 q.1
theorem m3_r1 {h : hp_H} {y n : Nat} {R : Nat → Int} {T : Nat → Nat} {t : Int32} {A B C X Y Z : Option Nat} (S : m3 h y R T n t A B C X Y Z) : hp_gr h y 6 1 = some (y + 2) := S.elim fun _ q => mm_r1 q.1
theorem m3_r2 {h : hp_H} {y n : Nat} {R : Nat → Int} {T : Nat → Nat} {t : Int32} {A B C X Y Z : Option Nat} (S : m3 h y R T n t A B C X Y Z) : hp_gr h y 6 2 = some (y + 3) := S.elim fun _ q => mm_r2 q.1
theorem m3_r3 {h : hp_H} {y n : Nat} {R : Nat → Int} {T : Nat → Nat} {t : Int32} {A B C X Y Z : Option Nat} (S : m3 h y R T n t A B C X Y Z) : hp_gr h y 6 3 = some (y + 4) := S.elim fun _ q => mm_r3 q.1
theorem m3_i4 {h : hp_H} {y n : Nat} {R : Nat → Int} {T : Nat → Nat} {t : Int32} {A B C X Y Z : Option Nat} (S : m3 h y R T n t A B C X Y Z) : hp_gi h y 6 4 = some (nI (nL LIM)) := S.elim fun _ q => mm_i4 q.1
theorem m3_r5 {h : hp_H} {y n : Nat} {R : Nat → Int} {T : Nat → Nat} {t : Int32} {A B C X Y Z : Option Nat} (S : m3 h y R T n t A B C X Y Z) : hp_gr h y 6 5 = some (y + 5 + 0) := S.elim fun _ q => mm_r5 q.1
theorem m3_r6 {h : hp_H} {y n : Nat} {R : Nat → Int} {T : Nat → Nat} {t : Int32} {A B C X Y Z : Option Nat} (S : m3 h y R T n t A B C X Y Z) : hp_gr h y 6 6 = some (y + 5 + 1) := S.elim fun _ q => mm_r6 q.1
theorem m3_r7 {h : hp_H} {y n : Nat} {R : Nat → Int} {T : Nat → Nat} {t : Int32} {A B C X Y Z : Option Nat} (S : m3 h y R T n t A B C X Y Z) : hp_gr h y 6 7 = some (y + 5 + 2) := S.elim fun _ q => mm_r7 q.1
theorem m3_i11 {h : hp_H} {y n : Nat} {R : Nat → Int} {T : Nat → Nat} {t : Int32} {A B C X Y Z : Option Nat} (S : m3 h y R T n t A B C X Y Z) : hp_gi h y 6 11 = some t := S.elim fun _ q => mm_i11 q.1
theorem m3_r12 {h : hp_H} {y n : Nat} {R : Nat → Int} {T : Nat → Nat} {t : Int32} {A B C X Y Z : Option Nat} (S : m3 h y R T n t A B C X Y Z) : hp_gr h y 6 12 = some (y + 8) := S.elim fun _ q => mm_r12 q.1
theorem m3_i13 {h : hp_H} {y n : Nat} {R : Nat → Int} {T : Nat → Nat} {t : Int32} {A B C X Y Z : Option Nat} (S : m3 h y R T n t A B C X Y Z) : hp_gi h y 6 13 = some (nI n) := S.elim fun _ q => mm_i13 q.1
theorem m3_i8 {h : hp_H} {y n v : Nat} {R : Nat → Int} {T : Nat → Nat} {t : Int32} {B C X Y Z : Option Nat} (S : m3 h y R T n t (some v) B C X Y Z) : hp_gi h y 6 8 = some (nI (nL v)) := by
  obtain ⟨c, M, qA, qB, qC, -⟩ := S
  rw [mm_i8 M, qA v rfl]
theorem m3_vX {h : hp_H} {y n v : Nat} {R : Nat → Int} {T : Nat → Nat} {t : Int32} {A B C Y Z : Option Nat} (S : m3 h y R T n t A B C (some v) Y Z) : mv h (y + 5 + 0) 700 v := by
  obtain ⟨c, M, -, -, -, qX, qY, qZ⟩ := S
  exact qX v rfl
theorem m3_gX {h : hp_H} {y n : Nat} {R : Nat → Int} {T : Nat → Nat} {t : Int32} {A B C X Y Z : Option Nat} (S : m3 h y R T n t A B C X Y Z) : ∃ g, ar h (y + 5 + 0) 700 g := S.elim fun _ q => q.1.2.2.2.2 0 (by decide)
theorem m3_pA {h : hp_H} {y n : Nat} {R : Nat → Int} {T : Nat → Nat} {t : Int32} {A B C X Y Z : Option Nat} (S : m3 h y R T n t A B C X Y Z) (w : Nat) : ∃ h', hp_pv h y 6 8 (.int (nI (nL w))) = some h' ∧ m3 h' y R T n t (some w) B C X Y Z ∧ fr h h' y y := by
  obtain ⟨c, M, qA, qB, qC, qX, qY, qZ⟩ := S
  obtain ⟨h', p1, M', F⟩ := mm_p8 M (nI (nL w))
  refine ⟨h', p1, ⟨va_up c 0 (nI (nL w)), M', fun v e => by
    cases e
    exact va_up_self _ _ _, fun v e => (va_up_ne _ _ (by decide)).trans (qB v e), fun v e => (va_up_ne _ _ (by decide)).trans (qC v e), fun v e => mv_fr (qX v e) F (by omega) (by omega), fun v e => mv_fr (qY v e) F (by omega) (by omega), fun v e => mv_fr (qZ v e) F (by omega) (by omega)⟩, F⟩
theorem m3_wX {h h' : hp_H} {y n w : Nat} {R : Nat → Int} {T : Nat → Nat} {t : Int32} {A B C X Y Z : Option Nat} (S : m3 h y R T n t A B C X Y Z) (F : fr h h' (y + 5 + 0) (y + 5 + 0)) (V : mv h' (y + 5 + 0) 700 w) : m3 h' y R T n t A B C (some w) Y Z := by
  obtain ⟨c, M, qA, qB, qC, qX, qY, qZ⟩ := S
  refine ⟨c, mm_row M (by decide) F (mv_ar V), qA, qB, qC, fun v e => by
    cases e
    exact V, fun v e => mv_fr (qY v e) F (by omega) (by omega), fun v e => mv_fr (qZ v e) F (by omega) (by omega)⟩
theorem m3_uX {h h' : hp_H} {y n : Nat} {R : Nat → Int} {T : Nat → Nat} {t : Int32} {A B C X Y Z : Option Nat} (S : m3 h y R T n t A B C X Y Z) (F : fr h h' (y + 5 + 0) (y + 5 + 0)) (G : ∃ g, ar h' (y + 5 + 0) 700 g) : m3 h' y R T n t A B C none Y Z := by
  obtain ⟨c, M, qA, qB, qC, qX, qY, qZ⟩ := S
  refine ⟨c, mm_row M (by decide) F G, qA, qB, qC, fun v e => (by cases e), fun v e => mv_fr (qY v e) F (by omega) (by omega), fun v e => mv_fr (qZ v e) F (by omega) (by omega)⟩
theorem m3_i9 {h : hp_H} {y n v : Nat} {R : Nat → Int} {T : Nat → Nat} {t : Int32} {A C X Y Z : Option Nat} (S : m3 h y R T n t A (some v) C X Y Z) : hp_gi h y 6 9 = some (nI (nL v)) := by
  obtain ⟨c, M, qA, qB, qC, -⟩ := S
  rw [mm_i9 M, qB v rfl]
theorem m3_vY {h : hp_H} {y n v : Nat} {R : Nat → Int} {T : Nat → Nat} {t : Int32} {A B C X Z : Option Nat} (S : m3 h y R T n t A B C X (some v) Z) : mv h (y + 5 + 1) 700 v := by
  obtain ⟨c, M, -, -, -, qX, qY, qZ⟩ := S
  exact qY v rfl
theorem m3_gY {h : hp_H} {y n : Nat} {R : Nat → Int} {T : Nat → Nat} {t : Int32} {A B C X Y Z : Option Nat} (S : m3 h y R T n t A B C X Y Z) : ∃ g, ar h (y + 5 + 1) 700 g := S.elim fun _ q => q.1.2.2.2.2 1 (by decide)
theorem m3_pB {h : hp_H} {y n : Nat} {R : Nat → Int} {T : Nat → Nat} {t : Int32} {A B C X Y Z : Option Nat} (S : m3 h y R T n t A B C X Y Z) (w : Nat) : ∃ h', hp_pv h y 6 9 (.int (nI (nL w))) = some h' ∧ m3 h' y R T n t A (some w) C X Y Z ∧ fr h h' y y := by
  obtain ⟨c, M, qA, qB, qC, qX, qY, qZ⟩ := S
  obtain ⟨h', p1, M', F⟩ := mm_p9 M (nI (nL w))
  refine ⟨h', p1, ⟨va_up c 1 (nI (nL w)), M', fun v e => (va_up_ne _ _ (by decide)).trans (qA v e), fun v e => by
    cases e
    exact va_up_self _ _ _, fun v e => (va_up_ne _ _ (by decide)).trans (qC v e), fun v e => mv_fr (qX v e) F (by omega) (by omega), fun v e => mv_fr (qY v e) F (by omega) (by omega), fun v e => mv_fr (qZ v e) F (by omega) (by omega)⟩, F⟩
theorem m3_wY {h h' : hp_H} {y n w : Nat} {R : Nat → Int} {T : Nat → Nat} {t : Int32} {A B C X Y Z : Option Nat} (S : m3 h y R T n t A B C X Y Z) (F : fr h h' (y + 5 + 1) (y + 5 + 1)) (V : mv h' (y + 5 + 1) 700 w) : m3 h' y R T n t A B C X (some w) Z := by
  obtain ⟨c, M, qA, qB, qC, qX, qY, qZ⟩ := S
  refine ⟨c, mm_row M (by decide) F (mv_ar V), qA, qB, qC, fun v e => mv_fr (qX v e) F (by omega) (by omega), fun v e => by
    cases e
    exact V, fun v e => mv_fr (qZ v e) F (by omega) (by omega)⟩
theorem m3_uY {h h' : hp_H} {y n : Nat} {R : Nat → Int} {T : Nat → Nat} {t : Int32} {A B C X Y Z : Option Nat} (S : m3 h y R T n t A B C X Y Z) (F : fr h h' (y + 5 + 1) (y + 5 + 1)) (G : ∃ g, ar h' (y + 5 + 1) 700 g) : m3 h' y R T n t A B C X none Z := by
  obtain ⟨c, M, qA, qB, qC, qX, qY, qZ⟩ := S
  refine ⟨c, mm_row M (by decide) F G, qA, qB, qC, fun v e => mv_fr (qX v e) F (by omega) (by omega), fun v e => (by cases e), fun v e => mv_fr (qZ v e) F (by omega) (by omega)⟩
theorem m3_i10 {h : hp_H} {y n v : Nat} {R : Nat → Int} {T : Nat → Nat} {t : Int32} {A B X Y Z : Option Nat} (S : m3 h y R T n t A B (some v) X Y Z) : hp_gi h y 6 10 = some (nI (nL v)) := by
  obtain ⟨c, M, qA, qB, qC, -⟩ := S
  rw [mm_i10 M, qC v rfl]
theorem m3_vZ {h : hp_H} {y n v : Nat} {R : Nat → Int} {T : Nat → Nat} {t : Int32} {A B C X Y : Option Nat} (S : m3 h y R T n t A B C X Y (some v)) : mv h (y + 5 + 2) 700 v := by
  obtain ⟨c, M, -, -, -, qX, qY, qZ⟩ := S
  exact qZ v rfl
theorem m3_gZ {h : hp_H} {y n : Nat} {R : Nat → Int} {T : Nat → Nat} {t : Int32} {A B C X Y Z : Option Nat} (S : m3 h y R T n t A B C X Y Z) : ∃ g, ar h (y + 5 + 2) 700 g := S.elim fun _ q => q.1.2.2.2.2 2 (by decide)
theorem m3_pC {h : hp_H} {y n : Nat} {R : Nat → Int} {T : Nat → Nat} {t : Int32} {A B C X Y Z : Option Nat} (S : m3 h y R T n t A B C X Y Z) (w : Nat) : ∃ h', hp_pv h y 6 10 (.int (nI (nL w))) = some h' ∧ m3 h' y R T n t A B (some w) X Y Z ∧ fr h h' y y := by
  obtain ⟨c, M, qA, qB, qC, qX, qY, qZ⟩ := S
  obtain ⟨h', p1, M', F⟩ := mm_p10 M (nI (nL w))
  refine ⟨h', p1, ⟨va_up c 2 (nI (nL w)), M', fun v e => (va_up_ne _ _ (by decide)).trans (qA v e), fun v e => (va_up_ne _ _ (by decide)).trans (qB v e), fun v e => by
    cases e
    exact va_up_self _ _ _, fun v e => mv_fr (qX v e) F (by omega) (by omega), fun v e => mv_fr (qY v e) F (by omega) (by omega), fun v e => mv_fr (qZ v e) F (by omega) (by omega)⟩, F⟩
theorem m3_wZ {h h' : hp_H} {y n w : Nat} {R : Nat → Int} {T : Nat → Nat} {t : Int32} {A B C X Y Z : Option Nat} (S : m3 h y R T n t A B C X Y Z) (F : fr h h' (y + 5 + 2) (y + 5 + 2)) (V : mv h' (y + 5 + 2) 700 w) : m3 h' y R T n t A B C X Y (some w) := by
  obtain ⟨c, M, qA, qB, qC, qX, qY, qZ⟩ := S
  refine ⟨c, mm_row M (by decide) F (mv_ar V), qA, qB, qC, fun v e => mv_fr (qX v e) F (by omega) (by omega), fun v e => mv_fr (qY v e) F (by omega) (by omega), fun v e => by
    cases e
    exact V⟩
theorem m3_uZ {h h' : hp_H} {y n : Nat} {R : Nat → Int} {T : Nat → Nat} {t : Int32} {A B C X Y Z : Option Nat} (S : m3 h y R T n t A B C X Y Z) (F : fr h h' (y + 5 + 2) (y + 5 + 2)) (G : ∃ g, ar h' (y + 5 + 2) 700 g) : m3 h' y R T n t A B C X Y none := by
  obtain ⟨c, M, qA, qB, qC, qX, qY, qZ⟩ := S
  refine ⟨c, mm_row M (by decide) F G, qA, qB, qC, fun v e => mv_fr (qX v e) F (by omega) (by omega), fun v e => mv_fr (qY v e) F (by omega) (by omega), fun v e => (by cases e)⟩
theorem m3_any {h : hp_H} {y n : Nat} {R : Nat → Int} {T : Nat → Nat} {t : Int32} {A B C X Y Z : Option Nat} (S : m3 h y R T n t A B C X Y Z) : m3 h y R T n t none none none none none none := by
  obtain ⟨c, M, -⟩ := S
  exact ⟨c, M, fun v e => (by cases e), fun v e => (by cases e), fun v e => (by cases e), fun v e => (by cases e), fun v e => (by cases e), fun v e => (by cases e)⟩
theorem m3_thr {h : hp_H} {y n : Nat} {R : Nat → Int} {T : Nat → Nat} {t : Int32} {A B C X Y Z : Option Nat} (S : m3 h y R T n t A B C X Y Z) (s : Int32) : ∃ h', hp_pv h y 6 11 (.int s) = some h' ∧ m3 h' y R T n s A B C X Y Z ∧ fr h h' y y := by
  obtain ⟨c, M, qA, qB, qC, qX, qY, qZ⟩ := S
  obtain ⟨h', p1, M', F⟩ := mm_p11 M s
  exact ⟨h', p1, ⟨c, M', qA, qB, qC, fun v e => mv_fr (qX v e) F (by omega) (by omega), fun v e => mv_fr (qY v e) F (by omega) (by omega), fun v e => mv_fr (qZ v e) F (by omega) (by omega)⟩, F⟩
theorem m3_reg {h : hp_H} {y n : Nat} {R : Nat → Int} {T : Nat → Nat} {t : Int32} {A B C X Y Z : Option Nat} (S : m3 h y R T n t A B C X Y Z) {k : Nat} (hk : k < 8) : hp_ai h 0 (y + 2) (nI k) = some (nI (nL (R k).natAbs)) ∧ hp_ai h 0 (y + 3) (nI k) = some (cmpZ (R k) 0) ∧ bl (R k).natAbs ≤ 4096 ∧ nL (R k).natAbs ≤ 320 := S.elim fun _ q => mm_reg q.1 hk
theorem m3_dig {h : hp_H} {y n : Nat} {R : Nat → Int} {T : Nat → Nat} {t : Int32} {A B C X Y Z : Option Nat} (S : m3 h y R T n t A B C X Y Z) {k i : Nat} (hk : k < 8) (hi : i < nL (R k).natAbs) : hp_ai h 0 (y + 1) ((320 : Int32) * nI k + nI i) = some (nI (di (R k).natAbs i)) := S.elim fun _ q => mm_dig q.1 hk hi
theorem m3_lim {h : hp_H} {y n : Nat} {R : Nat → Int} {T : Nat → Nat} {t : Int32} {A B C X Y Z : Option Nat} (S : m3 h y R T n t A B C X Y Z) : mv h (y + 4) 320 LIM := S.elim fun _ q => q.1.2.2.1
/-- part of a number copied into a row -/
def pc (h : hp_H) (b k w : Nat) : Prop := nL w ≤ 700 ∧ ∃ g, ar h b 700 g ∧ ∀ i, i < k → g i = di w i
theorem pc_0 {h : hp_H} {b w : Nat} (hw : nL w ≤ 700) (G : ∃ g, ar h b 700 g) : pc h b 0 w := ⟨hw, G.elim fun g A => ⟨g, A, fun i hi => by omega⟩⟩
theorem pc_mv {h : hp_H} {b w : Nat} (P : pc h b (nL w) w) : mv h b 700 w := ⟨P.1, by omega, P.2⟩
theorem pc_wr {h : hp_H} {b k w : Nat} (P : pc h b k w) (hk : k < nL w) : ∃ h', hp_si h 0 b (nI k) (nI (di w k)) = some h' ∧ pc h' b (k + 1) w ∧ fr h h' b b ∧ ∃ g, ar h' b 700 g := by
  obtain ⟨hw, g, A, hg⟩ := P
  obtain ⟨h', p1, A', F⟩ := ar_wr A (i := k) (by omega) (by omega) (di w k)
  refine ⟨h', p1, ⟨hw, _, A', fun i hi => ?_⟩, F, _, A'⟩
  by_cases q : i = k
  · rw [q, va_up_self]
  · rw [va_up_ne _ _ q]; exact hg i (by omega)
theorem pc_fr {h h' : hp_H} {b k w p q : Nat} (P : pc h b k w) (F : fr h h' p q) (h1 : b ≠ p) (h2 : b ≠ q) : pc h' b k w := by
  obtain ⟨hw, g, A, hg⟩ := P
  exact ⟨hw, g, ar_fr A F h1 h2, hg⟩
theorem toX_loop {y n k : Nat} {R : Nat → Int} {T : Nat → Nat} {t : Int32} {B C Y Z : Option Nat} (hk : k < 8) : ∀ (e i f : Nat) (h : hp_H), nL (R k).natAbs - i = e → i ≤ nL (R k).natAbs → e < f → m3 h y R T n t (some (R k).natAbs) B C none Y Z → pc h (y + 5 + 0) i (R k).natAbs → ∃ h', bX6_toX_12 y (nI k) f (nI i) h = some h' ∧ m3 h' y R T n t (some (R k).natAbs) B C (some (R k).natAbs) Y Z
  | 0, i, f + 1, h, he, hi, hf, S, P => by
    have hb := (m3_reg S hk).2.2.2
    simp only [bX6_toX_12]
    rw [m3_i8 S, Option.bind_some, if_pos ((nI_leI (by omega) (by omega)).mpr (by omega))]
    rw [show i = nL (R k).natAbs by omega] at P
    exact ⟨h, rfl, m3_wX S fr.rf (pc_mv P)⟩
  | e + 1, i, f + 1, h, he, hi, hf, S, P => by
    have hb := (m3_reg S hk).2.2.2
    simp only [bX6_toX_12]
    obtain ⟨h10, p1, P10, F10, G10⟩ := pc_wr P (by omega)
    have S10 := m3_uX S F10 G10
    rw [m3_i8 S, Option.bind_some, if_neg (fun q => by have := (nI_leI (by omega) (by omega)).mp q; omega), m3_r5 S, Option.bind_some, m3_r0 S, Option.bind_some, m3_dig S hk (by omega), Option.bind_some, p1, Option.bind_some, Option.bind_some, ni1, nI_add]
    exact toX_loop hk e (i + 1) f h10 (by omega) (by omega) (by omega) S10 P10
theorem toX_eq {h : hp_H} {y n k : Nat} {R : Nat → Int} {T : Nat → Nat} {t : Int32} {A B C X Y Z : Option Nat} (S : m3 h y R T n t A B C X Y Z) (hk : k < 8) : ∃ h', fX6_toX y (nI k) h = some h' ∧ m3 h' y R T n t (some (R k).natAbs) B C (some (R k).natAbs) Y Z := by
  have hr := m3_reg S hk
  obtain ⟨h5, p1, S5, F5⟩ := m3_pA S (R k).natAbs
  have S5' := m3_uX S5 fr.rf (m3_gX S5)
  unfold fX6_toX
  rw [if_pos (m3_o S), m3_r1 S, Option.bind_some, hr.1, Option.bind_some, p1, Option.bind_some]
  exact toX_loop hk (nL (R k).natAbs) 0 hp_n h5 (by omega) (by omega) (show nL (R k).natAbs < 1000000 by omega) S5' (pc_0 (by omega) (m3_gX S5))
theorem toY_loop {y n k : Nat} {R : Nat → Int} {T : Nat → Nat} {t : Int32} {A C X Z : Option Nat} (hk : k < 8) : ∀ (e i f : Nat) (h : hp_H), nL (R k).natAbs - i = e → i ≤ nL (R k).natAbs → e < f → m3 h y R T n t A (some (R k).natAbs) C X none Z → pc h (y + 5 + 1) i (R k).natAbs → ∃ h', bX6_toY_12 y (nI k) f (nI i) h = some h' ∧ m3 h' y R T n t A (some (R k).natAbs) C X (some (R k).natAbs) Z
  | 0, i, f + 1, h, he, hi, hf, S, P => by
    have hb := (m3_reg S hk).2.2.2
    simp only [bX6_toY_12]
    rw [m3_i9 S, Option.bind_some, if_pos ((nI_leI (by omega) (by omega)).mpr (by omega))]
    rw [show i = nL (R k).natAbs by omega] at P
    exact ⟨h, rfl, m3_wY S fr.rf (pc_mv P)⟩
  | e + 1, i, f + 1, h, he, hi, hf, S, P => by
    have hb := (m3_reg S hk).2.2.2
    simp only [bX6_toY_12]
    obtain ⟨h10, p1, P10, F10, G10⟩ := pc_wr P (by omega)
    have S10 := m3_uY S F10 G10
    rw [m3_i9 S, Option.bind_some, if_neg (fun q => by have := (nI_leI (by omega) (by omega)).mp q; omega), m3_r6 S, Option.bind_some, m3_r0 S, Option.bind_some, m3_dig S hk (by omega), Option.bind_some, p1, Option.bind_some, Option.bind_some, ni1, nI_add]
    exact toY_loop hk e (i + 1) f h10 (by omega) (by omega) (by omega) S10 P10
theorem toY_eq {h : hp_H} {y n k : Nat} {R : Nat → Int} {T : Nat → Nat} {t : Int32} {A B C X Y Z : Option Nat} (S : m3 h y R T n t A B C X Y Z) (hk : k < 8) : ∃ h', fX6_toY y (nI k) h = some h' ∧ m3 h' y R T n t A (some (R k).natAbs) C X (some (R k).natAbs) Z := by
  have hr := m3_reg S hk
  obtain ⟨h5, p1, S5, F5⟩ := m3_pB S (R k).natAbs
  have S5' := m3_uY S5 fr.rf (m3_gY S5)
  unfold fX6_toY
  rw [if_pos (m3_o S), m3_r1 S, Option.bind_some, hr.1, Option.bind_some, p1, Option.bind_some]
  exact toY_loop hk (nL (R k).natAbs) 0 hp_n h5 (by omega) (by omega) (show nL (R k).natAbs < 1000000 by omega) S5' (pc_0 (by omega) (m3_gY S5))
