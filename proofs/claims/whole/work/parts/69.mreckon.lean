/-! the reference: sum, multiply, reckon -/
theorem sum_cp {y n w : Nat} {R : Nat → Int} {T : Nat → Nat} {t s : Int32} {C Z : Option Nat} : ∀ (e i f : Nat) (h : hp_H), nL w - i = e → i ≤ nL w → e < f → m3 h y R T n t (some w) (some w) C none (some w) Z → pc h (y + 5 + 0) i w → ∃ h', bX6_sum_126 y s f (nI i) h = some (s, h') ∧ m3 h' y R T n t (some w) (some w) C (some w) (some w) Z
  | 0, i, f + 1, h, he, hi, hf, S, P => by
    have hb := P.1
    rw [bX6_sum_126]
    rw [m3_i9 S, Option.bind_some, if_pos ((nI_leI (by omega) (by omega)).mpr (by omega))]
    rw [show i = nL w by omega] at P
    exact ⟨h, rfl, m3_wX S fr.rf (pc_mv P)⟩
  | e + 1, i, f + 1, h, he, hi, hf, S, P => by
    have hb := P.1
    rw [bX6_sum_126]
    obtain ⟨h10, p1, P10, F10, G10⟩ := pc_wr P (by omega)
    have S10 := m3_uX S F10 G10
    rw [m3_i9 S, Option.bind_some, if_neg (fun q => by have := (nI_leI (by omega) (by omega)).mp q; omega), m3_r5 S, Option.bind_some, m3_r6 S, Option.bind_some, mv_rd (m3_vY S) (by omega), Option.bind_some, p1, Option.bind_some, Option.bind_some, ni1, nI_add]
    exact sum_cp e (i + 1) f h10 (by omega) (by omega) (by omega) S10 P10
theorem bl_add2 {a b : Nat} (ha : bl a ≤ 4096) (hb : bl b ≤ 4096) : bl (a + b) ≤ 4097 := by
  rw [bl_le] at ha hb ⊢
  rw [Nat.pow_succ]; omega
theorem m3_nB {h : hp_H} {y n : Nat} {R : Nat → Int} {T : Nat → Nat} {t : Int32} {A B C X Y Z : Option Nat} (S : m3 h y R T n t A B C X Y Z) : m3 h y R T n t A none C X none Z := by
  obtain ⟨c, M, qA, qB, qC, qX, qY, qZ⟩ := S
  exact ⟨c, M, qA, fun v e => (by cases e), qC, qX, fun v e => (by cases e), qZ⟩
theorem m3_nA {h : hp_H} {y n : Nat} {R : Nat → Int} {T : Nat → Nat} {t : Int32} {A B C X Y Z : Option Nat} (S : m3 h y R T n t A B C X Y Z) : m3 h y R T n t none B C none Y Z := by
  obtain ⟨c, M, qA, qB, qC, qX, qY, qZ⟩ := S
  exact ⟨c, M, fun v e => (by cases e), qB, qC, fun v e => (by cases e), qY, qZ⟩
theorem sum_eq6 {h : hp_H} {y n : Nat} {R : Nat → Int} {T : Nat → Nat} {t : Int32} {C Z : Option Nat} {a b : Int} (S : m3 h y R T n t (some a.natAbs) (some b.natAbs) C (some a.natAbs) (some b.natAbs) Z) (ha : bl a.natAbs ≤ 4096) (hb : bl b.natAbs ≤ 4096) : ∃ h' s, fX6_sum y (cmpZ a 0) (cmpZ b 0) h = some (s, h') ∧ m3 h' y R T n t (some (a + b).natAbs) none C (some (a + b).natAbs) none Z ∧ ((a + b).natAbs ≠ 0 → s = cmpZ (a + b) 0) := by
  have hadd := bl_add2 ha hb
  have go13 : a.natAbs + b.natAbs = (a + b).natAbs → ((a + b).natAbs ≠ 0 → (if cmpZ a 0 = 0 then cmpZ b 0 else cmpZ a 0) = cmpZ (a + b) 0) → ∃ h' s, bX6_sum_13 y (cmpZ a 0) (cmpZ b 0) h = some (s, h') ∧ m3 h' y R T n t (some (a + b).natAbs) none C (some (a + b).natAbs) none Z ∧ ((a + b).natAbs ≠ 0 → s = cmpZ (a + b) 0) := by
    intro e1 e2
    unfold bX6_sum_13
    obtain ⟨h10, p1, V10, F10⟩ := added_eq (by omega) (m3_vX S) (m3_vY S) (nL_le (by omega))
    rw [e1] at p1 V10
    have S10 := m3_wX S F10 V10
    obtain ⟨h13, p2, S13, -⟩ := m3_pA S10 (a + b).natAbs
    rw [m3_r5 S, Option.bind_some, m3_i8 S, Option.bind_some, m3_r6 S, Option.bind_some, m3_i9 S, Option.bind_some, p1, Option.bind_some]
    simp only []
    rw [p2, Option.bind_some]
    by_cases h0 : cmpZ a 0 = 0
    · rw [if_pos h0]; rw [if_pos h0] at e2
      exact ⟨h13, _, rfl, m3_nB S13, e2⟩
    · rw [if_neg h0]; rw [if_neg h0] at e2
      exact ⟨h13, _, rfl, m3_nB S13, e2⟩
  have opp : cmpZ a 0 ≠ 0 → cmpZ b 0 ≠ 0 → cmpZ a 0 ≠ cmpZ b 0 → (∀ d, b.natAbs ≤ a.natAbs → d = cmpZ a 0 → (a + b).natAbs ≠ 0 → d = cmpZ (a + b) 0) → (∀ d, a.natAbs < b.natAbs → d = cmpZ b 0 → d = cmpZ (a + b) 0) → (b.natAbs ≤ a.natAbs → a.natAbs - b.natAbs = (a + b).natAbs) → (a.natAbs < b.natAbs → b.natAbs - a.natAbs = (a + b).natAbs) → ∃ h' s, fX6_sum y (cmpZ a 0) (cmpZ b 0) h = some (s, h') ∧ m3 h' y R T n t (some (a + b).natAbs) none C (some (a + b).natAbs) none Z ∧ ((a + b).natAbs ≠ 0 → s = cmpZ (a + b) 0) := by
    intro n1 n2 n3 d1 d2 v1 v2
    unfold fX6_sum
    rw [if_pos (m3_o S), if_neg n1, if_neg n2, if_neg n3, m3_r5 S, Option.bind_some, m3_i8 S, Option.bind_some, m3_r6 S, Option.bind_some, m3_i9 S, Option.bind_some, cmp_eq (m3_vX S) (m3_vY S), Option.bind_some]
    unfold cmpI
    by_cases hlt : a.natAbs < b.natAbs
    · rw [if_pos hlt, if_pos (by decide), Option.bind_some, Option.bind_some, Option.bind_some, Option.bind_some]
      obtain ⟨h24, p1, V24, F24⟩ := taken_eq (by omega) (Nat.le_of_lt hlt) (m3_vY S) (m3_vX S)
      rw [v2 hlt] at p1 V24
      have S24 := m3_wY S F24 V24
      obtain ⟨h27, p2, S27, -⟩ := m3_pB S24 (a + b).natAbs
      obtain ⟨h31, p3, S31, -⟩ := m3_pA S27 (a + b).natAbs
      have hw := (m3_vY S31).1
      obtain ⟨h', q1, q2⟩ := sum_cp (s := cmpZ b 0) (nL (a + b).natAbs) 0 hp_n h31 (by omega) (by omega) (show nL (a + b).natAbs < 1000000 by omega) (m3_uX S31 fr.rf (m3_gX S31)) (pc_0 hw (m3_gX S31))
      rw [p1, Option.bind_some]
      simp only []
      rw [p2, Option.bind_some, m3_i9 S27, Option.bind_some, p3, Option.bind_some]
      exact ⟨h', _, q1, m3_nB q2, fun _ => d2 _ hlt rfl⟩
    · have hge : b.natAbs ≤ a.natAbs := by omega
      obtain ⟨h42, p1, V42, F42⟩ := taken_eq (by omega) hge (m3_vX S) (m3_vY S)
      rw [v1 hge] at p1 V42
      have S42 := m3_wX S F42 V42
      obtain ⟨h45, p2, S45, -⟩ := m3_pA S42 (a + b).natAbs
      have hcm : ¬ (if a.natAbs < b.natAbs then (-1 : Int32) else if a.natAbs = b.natAbs then 0 else 1) < 0 := by
        rw [if_neg hlt]
        by_cases hq : a.natAbs = b.natAbs
        · rw [if_pos hq]; decide
        · rw [if_neg hq]; decide
      rw [if_neg hcm, Option.bind_some, Option.bind_some, Option.bind_some, Option.bind_some, p1, Option.bind_some]
      simp only []
      rw [p2, Option.bind_some]
      exact ⟨h45, _, rfl, m3_nB S45, d1 _ hge rfl⟩
  have neg : ∀ z : Int, z < 0 → cmpZ z 0 = -1 := fun z q => if_pos q
  have pos : ∀ z : Int, 0 < z → cmpZ z 0 = 1 := fun z q => by unfold cmpZ; rw [if_neg (by omega), if_neg (by omega)]
  have dir : (cmpZ a 0 = 0 ∨ cmpZ b 0 = 0 ∨ cmpZ a 0 = cmpZ b 0) → fX6_sum y (cmpZ a 0) (cmpZ b 0) h = bX6_sum_13 y (cmpZ a 0) (cmpZ b 0) h := by
    intro q
    unfold fX6_sum
    rw [if_pos (m3_o S)]
    by_cases q1 : cmpZ a 0 = 0
    · rw [if_pos q1]
    · rw [if_neg q1]
      by_cases q2 : cmpZ b 0 = 0
      · rw [if_pos q2]
      · rw [if_neg q2, if_pos (q.resolve_left q1 |>.resolve_left q2)]
  rcases cmp0 a with ⟨a1, a2⟩ | ⟨a1, a2⟩ | ⟨a1, a2⟩ <;> rcases cmp0 b with ⟨b1, b2⟩ | ⟨b1, b2⟩ | ⟨b1, b2⟩
  · rw [dir (Or.inr (Or.inr (by rw [a2, b2])))]
    exact go13 (by omega) (fun _ => by rw [a2, if_neg (by decide), neg _ (by omega)])
  · rw [dir (Or.inr (Or.inl b2))]
    exact go13 (by omega) (fun _ => by rw [a2, if_neg (by decide), neg _ (by omega)])
  · exact opp (by rw [a2]; decide) (by rw [b2]; decide) (by rw [a2, b2]; decide) (fun d q e w => by rw [e, a2, neg _ (by omega)]) (fun d q e => by rw [e, b2, pos _ (by omega)]) (fun _ => by omega) (fun _ => by omega)
  · rw [dir (Or.inl a2)]
    exact go13 (by omega) (fun _ => by rw [a2, if_pos rfl, b2, neg _ (by omega)])
  · rw [dir (Or.inl a2)]
    exact go13 (by omega) (fun w => by omega)
  · rw [dir (Or.inl a2)]
    exact go13 (by omega) (fun _ => by rw [a2, if_pos rfl, b2, pos _ (by omega)])
  · exact opp (by rw [a2]; decide) (by rw [b2]; decide) (by rw [a2, b2]; decide) (fun d q e w => by rw [e, a2, pos _ (by omega)]) (fun d q e => by rw [e, b2, neg _ (by omega)]) (fun _ => by omega) (fun _ => by omega)
  · rw [dir (Or.inr (Or.inl b2))]
    exact go13 (by omega) (fun _ => by rw [a2, if_neg (by decide), pos _ (by omega)])
  · rw [dir (Or.inr (Or.inr (by rw [a2, b2])))]
    exact go13 (by omega) (fun _ => by rw [a2, if_neg (by decide), pos _ (by omega)])
