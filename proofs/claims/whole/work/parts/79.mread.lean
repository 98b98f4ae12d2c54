/-! The reference: reading; thrown -/
theorem mdig_eq : ∀ B, B < 17 → ∀ c, c < 128 → fX6_digit (nI c) (nI B) = some (if dv c < B then nI (dv c) else -1) := by decide +kernel
theorem tv_nL {v B d : Nat} (h : v < LIM) (hB : B ≤ 16) (hd : d < 16) : nL (v * B + d) ≤ 700 := by
  refine nL_7 (Nat.le_trans (bl_le.mpr (show v * B + d < 2 ^ (4096 + 4) from ?_)) (by decide : 4096 + 4 ≤ 9000))
  rw [Nat.pow_add]
  unfold LIM at h
  generalize (2 : Nat) ^ 4096 = P at h
  have h1 : v * B ≤ v * 16 := Nat.mul_le_mul_left v hB
  have h2 : (2 : Nat) ^ 4 = 16 := rfl
  rw [h2]
  omega
def rdR (R : Nat → Int) (T : Nat → Nat) (n k B f : Nat) : Int32 × (Nat → Int) := if okd B T f (n - f) = true then sKeep R k (if f = 1 then -(tv B T f (n - f) : Int) else tv B T f (n - f)) else (-1, R)
theorem natAbs_if (p : Prop) [Decidable p] (v : Nat) : (if p then -(v : Int) else v).natAbs = v := by split <;> omega
theorem read_80 {y n k B f : Nat} {R : Nat → Int} {T : Nat → Nat} (hk : k < 8) (hB2 : 2 ≤ B) (hB : B ≤ 16) (hf : f ≤ 1) : ∀ (e i fuel : Nat) (h : hp_H), n - (f + i) = e → f + i ≤ n → e < fuel → okd B T f i = true → tv B T f i < LIM → m3 h y R T n 0 none (some (tv B T f i)) none none (some (tv B T f i)) none →
    ∃ h', bX6_read_80 y (nI k) (nI B) (nI f) fuel (nI (f + i)) h = some ((rdR R T n k B f).1, h') ∧ ms h' y (rdR R T n k B f).2 T n 0
  | 0, i, fuel + 1, h, he, hi, hfu, ho, hl, S => by
    obtain ⟨G, hn, hT⟩ := m3_tg S
    simp only [bX6_read_80]
    have ei : i = n - f := by omega
    have hr : rdR R T n k B f = sKeep R k (if f = 1 then -(tv B T f i : Int) else tv B T f i) := by
      unfold rdR
      rw [← ei, if_pos ho]
    rw [m3_i13 S, Option.bind_some, if_pos ((nI_leI (by omega) (by omega)).mpr (by omega)), m3_r6 S, Option.bind_some, m3_i9 S, Option.bind_some, hr]
    by_cases h1 : f = 1
    · rw [if_neg (show ¬ nI f = 0 by rw [h1]; decide), bX6_read_169, if_pos h1]
      obtain ⟨h', p1, S1⟩ := put_eq (s := -1) (z := -(tv B T f i : Int)) S hk (j := 1) (by decide) (m3_vY S) (by omega) (fun q => by
        rcases cmp0 (-(tv B T f i : Int)) with ⟨q1, q2⟩ | ⟨q1, q2⟩ | ⟨q1, q2⟩
        · exact q2.symm
        · omega
        · omega)
      rw [p1, Option.bind_some]
      exact ⟨h', rfl, m3_any S1⟩
    · rw [if_pos (show nI f = 0 by rw [show f = 0 by omega]; rfl), bX6_read_169, if_neg h1]
      obtain ⟨h', p1, S1⟩ := put_eq (s := 1) (z := (tv B T f i : Int)) S hk (j := 1) (by decide) (m3_vY S) (by omega) (fun q => by
        rcases cmp0 (tv B T f i : Int) with ⟨q1, q2⟩ | ⟨q1, q2⟩ | ⟨q1, q2⟩
        · omega
        · omega
        · exact q2.symm)
      rw [p1, Option.bind_some]
      exact ⟨h', rfl, m3_any S1⟩
  | e + 1, i, fuel + 1, h, he, hi, hfu, ho, hl, S => by
    obtain ⟨G, hn, hT⟩ := m3_tg S
    simp only [bX6_read_80]
    rw [m3_i13 S, Option.bind_some, if_neg (fun q => by have := (nI_leI (by omega) (by omega)).mp q; omega), m3_r12 S, Option.bind_some, tg_rd G (i := f + i) (by omega) (by omega), Option.bind_some, mdig_eq B (by omega) _ (hT _ (by omega)), Option.bind_some]
    by_cases hd : dv (T (f + i)) < B
    · rw [if_pos hd]
      obtain ⟨h21, p1, V21, F21⟩ := scaled_eq (m3_vY S) (m := B) (pl := dv (T (f + i))) (by omega) hB (by omega) (tv_nL hl hB (by omega))
      have S21 := m3_wY S F21 V21
      obtain ⟨h24, p2, S24, F24⟩ := m3_pB S21 (tv B T f i * B + dv (T (f + i)))
      rw [if_pos (show (0 : Int32) ≤ nI (dv (T (f + i))) from (nI_leI (a := 0) (by omega) (by omega)).mpr (by omega)), m3_r6 S, Option.bind_some, m3_i9 S, Option.bind_some, p1, Option.bind_some]
      simp only []
      rw [p2, Option.bind_some, m3_r6 S24, Option.bind_some, m3_i9 S24, Option.bind_some, within_eq S24 (m3_vY S24), Option.bind_some]
      by_cases hw : tv B T f i * B + dv (T (f + i)) < LIM
      · rw [if_pos hw, if_neg (by decide), Option.bind_some, ni1, nI_add]
        exact read_80 hk hB2 hB hf e (i + 1) fuel h24 (by omega) (by omega) (by omega) (okd_suc.mpr ⟨ho, hd⟩) hw S24
      · rw [if_neg hw, if_pos rfl]
        have hr : rdR R T n k B f = (-1, R) := by
          unfold rdR sKeep
          by_cases hq : okd B T f (n - f) = true
          · rw [if_pos hq, natAbs_if, if_neg]
            intro q
            have h1 := LIM_bl.mp q
            have h2 := tv_mono (B := B) (f := f) (k := i + 1) (T := T) (by omega) (n - f - (i + 1))
            rw [show i + 1 + (n - f - (i + 1)) = n - f by omega] at h2
            exact hw (Nat.lt_of_le_of_lt h2 h1)
          · rw [if_neg hq]
        rw [hr]
        exact ⟨h24, rfl, m3_any S24⟩
    · rw [if_neg hd, if_neg (by decide)]
      have hr : rdR R T n k B f = (-1, R) := by
        unfold rdR
        rw [if_neg (fun q => hd (okd_dv q (by omega)))]
      rw [hr]
      exact ⟨h, rfl, m3_any S⟩
theorem read_58 {h : hp_H} {y n k B f : Nat} {R : Nat → Int} {T : Nat → Nat} (hk : k < 8) (hB2 : 2 ≤ B) (hB : B ≤ 16) (hf : f ≤ 1) (hn : f ≤ n) (S : ms h y R T n 0) : ∃ h', bX6_read_58 y (nI k) (nI B) (nI f) (nI f) h = some ((if f < n then rdR R T n k B f else (-1, R)).1, h') ∧ ms h' y (if f < n then rdR R T n k B f else (-1, R)).2 T n 0 := by
  obtain ⟨-, hn2, -⟩ := m3_tg S
  rw [bX6_read_58, m3_i13 S, Option.bind_some]
  by_cases h1 : f < n
  · rw [if_neg (fun q => by have := (nI_ij (by omega) (by omega)).mp q; omega), if_pos h1]
    obtain ⟨h4, p1, S4, -⟩ := m3_pB S 0
    rw [nL_0, ← ni0] at p1
    rw [p1, Option.bind_some]
    have S5 := m3_wY S4 fr.rf (pc_mv (w := 0) (pc_0 (by decide) (m3_gY S4)))
    exact read_80 (y := y) (R := R) (T := T) hk hB2 hB hf (n - (f + 0)) 0 hp_n h4 rfl (by omega) (show n - (f + 0) < 1000000 by omega) rfl (show 0 < LIM from Nat.pow_pos (by decide)) S5
  · rw [if_pos (by rw [show f = n by omega]), if_neg h1]
    exact ⟨h, rfl, S⟩
theorem mread_eq {h : hp_H} {y n : Nat} {R : Nat → Int} {T : Nat → Nat} {t : Int32} (S : ms h y R T n t) (a b : Int32) : ∃ h', fX6_read y a b h = some ((sRead R T n a b).1, h') ∧ ms h' y (sRead R T n a b).2 T n 0 := by
  unfold fX6_read sRead
  obtain ⟨h1, p0, S1⟩ := ms_0 S
  obtain ⟨G, hn, hT⟩ := m3_tg S1
  rw [if_pos (m3_o S), p0, Option.bind_some]
  rcases rg6 a with ⟨e1, f1⟩ | ⟨k, hk, rfl, e1, f1⟩
  · rw [f1, Option.bind_some, if_pos rfl, e1]; exact ⟨h1, rfl, S1⟩
  rw [f1, Option.bind_some, if_neg (by decide), e1]
  by_cases g1 : b < 2
  · have e2 : bs b = none := by
      unfold bs
      rw [if_pos (Or.inl g1)]
    rw [if_pos g1, e2]; exact ⟨h1, rfl, S1⟩
  rw [if_neg g1]
  by_cases g2 : b ≤ 16
  · rw [if_pos g2]
    rcases bs_cases b with ⟨e2, f2⟩ | ⟨B, hB2, hB, rfl, e2, f2⟩
    · exact absurd e2 (by
        unfold bs
        rw [if_neg (fun q => q.elim g1 (fun q => by
          rw [Int32.le_iff_toInt_le] at g2
          rw [Int32.lt_iff_toInt_lt] at q
          omega))]
        exact fun q => nomatch q)
    · rw [e2, m3_i13 S1, Option.bind_some]
      simp only []
      have fin : ∀ f, fd T n = f → (if okd B T (fd T n) (n - fd T n) = true ∧ fd T n < n then sKeep R k (if fd T n = 1 then -(tv B T (fd T n) (n - fd T n) : Int) else tv B T (fd T n) (n - fd T n)) else (-1, R)) = (if f < n then rdR R T n k B f else (-1, R)) := by
        intro f hf
        rw [hf]
        unfold rdR
        by_cases q1 : f < n
        · by_cases q2 : okd B T f (n - f) = true
          · rw [if_pos ⟨q2, q1⟩, if_pos q1, if_pos q2]
          · rw [if_neg (fun q => q2 q.1), if_pos q1, if_neg q2]
        · rw [if_neg (fun q => q1 q.2), if_neg q1]
      by_cases h0 : n = 0
      · have hf : fd T n = 0 := by unfold fd; rw [if_neg (fun q => by omega)]
        rw [if_pos (show nI n ≤ 0 by rw [h0]; decide), bX6_read_47, bX6_read_48, if_pos rfl, fin 0 hf]
        exact read_58 (f := 0) hk hB2 hB (by omega) (by omega) S1
      · rw [if_neg (show ¬ nI n ≤ 0 from fun q => by have := (nI_leI (b := 0) (by omega) (by omega)).mp q; omega), m3_r12 S1, Option.bind_some, ni0, tg_rd G (i := 0) (by omega) (by omega), Option.bind_some]
        have hT0 := hT 0 (by omega)
        by_cases h2 : T 0 = 45
        · have hf : fd T n = 1 := by unfold fd; rw [if_pos ⟨by omega, h2⟩]
          rw [if_pos (show nI (T 0) = 45 by rw [h2]; rfl), bX6_read_48, if_neg (by decide), fin 1 hf]
          exact read_58 (f := 1) hk hB2 hB (by omega) (by omega) S1
        · have hf : fd T n = 0 := by unfold fd; rw [if_neg (fun q => h2 q.2)]
          rw [if_neg (show ¬ nI (T 0) = (45 : Int32) from fun q => h2 ((nI_ij (b := 45) (by omega) (by omega)).mp q)), bX6_read_47, bX6_read_48, if_pos rfl, fin 0 hf]
          exact read_58 (f := 0) hk hB2 hB (by omega) (by omega) S1
  · have e2 : bs b = none := by
      unfold bs
      rw [if_pos (Or.inr (by
        rw [Int32.le_iff_toInt_le] at g2
        rw [Int32.lt_iff_toInt_lt]
        omega))]
    rw [if_neg g2, e2]; exact ⟨h1, rfl, S1⟩
theorem mthrown_eq {h : hp_H} {y n : Nat} {R : Nat → Int} {T : Nat → Nat} {t : Int32} (S : ms h y R T n t) : fX6_thrown y h = some t := by
  unfold fX6_thrown
  rw [if_pos (m3_o S), m3_i11 S, Option.bind_some]
