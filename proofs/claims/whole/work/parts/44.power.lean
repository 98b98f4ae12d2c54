/-! WholeNumbers: power -/
theorem nI_shr {n b : Nat} (hn : n < 2147483648) (hb : b < 32) : hp_ishr (nI n) (nI b) = nI (n / 2 ^ b) := by
  apply Int32.toInt_inj.mp
  have e : (hp_ishr (nI n) (nI b)).toInt = (nI n).toInt >>> b := pk_shr (nI n) (nI b &&& 31) b (sl_s b hb)
  have hd : n / 2 ^ b < 2147483648 := Nat.lt_of_le_of_lt (Nat.div_le_self _ _) hn
  rw [e, nI_toInt hn, nI_toInt hd, Int.shiftRight_eq_div_pow]
  exact (Int.natCast_ediv n (2 ^ b)).symm
theorem ishr_and1 {n b : Nat} (hn : n < 2147483648) (hb : b < 32) : (hp_ishr (nI n) (nI b) &&& (1 : Int32)) = nI (n / 2 ^ b % 2) := by
  rw [nI_shr hn hb, ni1, nI_and, Nat.and_one_is_mod]
theorem nI_ij {a b : Nat} (ha : a < 2147483648) (hb : b < 2147483648) : nI a = nI b ↔ a = b := by
  rw [nI_iI, nI_iI, iI_eq (by omega) (by omega) (by omega) (by omega)]; omega
theorem power_loop {z n m i : Nat} {R : Nat → Int} {T : Nat → Nat} (hi : i < 8) (hm : m ≤ 4096) : ∀ (b f : Nat) (h : hp_H), b ≤ 13 → b < f → cs h z R T n → wz h (z + 26) (z + 27) (z + 28) ((R i) ^ (m / 2 ^ b)) → bl ((R i) ^ (m / 2 ^ b)).natAbs ≤ 4096 →
    (bl ((R i) ^ m).natAbs ≤ 4096 → ∃ h', bX5_takePower_11 z (z + 2 + 3 * i) (nI m) f (iI ((b : Int) - 1)) h = some (1, h') ∧ cs h' z R T n ∧ wz h' (z + 26) (z + 27) (z + 28) ((R i) ^ m)) ∧ (¬ bl ((R i) ^ m).natAbs ≤ 4096 → ∃ h', bX5_takePower_11 z (z + 2 + 3 * i) (nI m) f (iI ((b : Int) - 1)) h = some (0, h') ∧ cs h' z R T n)
  | 0, f + 1, h, _, _, C, W, B => by
    rw [Nat.pow_zero, Nat.div_one] at W B
    refine ⟨fun _ => ⟨h, ?_, C, W⟩, fun q => absurd B q⟩
    unfold bX5_takePower_11
    exact if_pos (show iI (((0 : Nat) : Int) - 1) < 0 by decide)
  | b + 1, f + 1, h, hb, hf, C, W, B => by
    have ex : iI (((b + 1 : Nat) : Int) - 1) = nI b := by rw [nI_iI]; congr 1; omega
    have ih := fun h2 => power_loop (z := z) (n := n) (R := R) (T := T) hi hm b f h2 (by omega) (by omega)
    rw [ex]
    simp only [bX5_takePower_11]
    rw [if_neg (nI_lt0 (by omega)), cs_1 C, Option.bind_some]
    have M := mulres_eq C W W (by simp) (by simp) (by simp) B B
    have e2 : (R i) ^ (m / 2 ^ (b + 1)) * (R i) ^ (m / 2 ^ (b + 1)) = (R i) ^ (2 * (m / 2 ^ (b + 1))) := by rw [← Int.pow_add]; congr 1; omega
    have pb := pw_bit (n := m) (b := b)
    have le : m / 2 ^ b ≤ m := Nat.div_le_self _ _
    rw [e2] at M
    have en : nI b + (-1 : Int32) = iI ((b : Int) - 1) := by rw [nI_iI, show (-1 : Int32) = iI (-1) from rfl, iI_add]; congr 1
    by_cases h1 : bl ((R i) ^ (2 * (m / 2 ^ (b + 1)))).natAbs ≤ 4096
    · obtain ⟨h5, q1, C5, W5⟩ := M.1 h1
      rw [q1, Option.bind_some]
      simp only []
      rw [if_neg (by decide), ishr_and1 (by omega) (by omega)]
      by_cases h2 : m / 2 ^ b % 2 = 1
      · rw [if_pos (by rw [h2]; rfl)]
        have Ci := C5.2.1 i hi
        have M2 := mulres_eq C5 W5 Ci.1 (rsec hi (by omega) (by omega)) (rsec hi (by omega) (by omega)) (rsec hi (by omega) (by omega)) h1 Ci.2
        have e3 : (R i) ^ (2 * (m / 2 ^ (b + 1))) * R i = (R i) ^ (m / 2 ^ b) := by rw [pb, h2, Int.pow_succ]
        rw [e3] at M2
        by_cases h3 : bl ((R i) ^ (m / 2 ^ b)).natAbs ≤ 4096
        · obtain ⟨h11, r1, C11, W11⟩ := M2.1 h3
          rw [r1, Option.bind_some]
          simp only []
          rw [if_neg (by decide), bX5_takePower_47, Option.bind_some, en]
          exact ih h11 C11 W11 h3
        · obtain ⟨h11, r1, C11⟩ := M2.2 h3
          rw [r1, Option.bind_some]
          simp only []
          rw [if_pos trivial]
          rw [Int.natAbs_pow] at h3 ⊢
          exact ⟨fun q => absurd q (bl_pow_mono (by omega) le h3), fun _ => ⟨h11, rfl, C11⟩⟩
      · rw [if_neg (fun q => h2 (by
          have : nI (m / 2 ^ b % 2) = nI 1 := q
          exact (nI_ij (by omega) (by omega)).mp this)), bX5_takePower_47, Option.bind_some, en]
        have e3 : 2 * (m / 2 ^ (b + 1)) = m / 2 ^ b := by omega
        rw [e3] at W5 h1
        exact ih h5 C5 W5 h1
    · obtain ⟨h5, q1, C5⟩ := M.2 h1
      rw [q1, Option.bind_some]
      simp only []
      rw [if_pos trivial]
      rw [Int.natAbs_pow] at h1 ⊢
      have h0 : 1 ≤ 2 * (m / 2 ^ (b + 1)) := by
        rcases Nat.eq_zero_or_pos (2 * (m / 2 ^ (b + 1))) with e | e
        · exfalso; apply h1; rw [e, Nat.pow_zero]; decide
        · exact e
      exact ⟨fun q => absurd q (bl_pow_mono h0 (by omega) h1), fun _ => ⟨h5, rfl, C5⟩⟩
def sPower (R : Nat → Int) (t a n : Int32) : Int32 × (Nat → Int) := match rg t, rg a with
  | some k, some i => if n < 0 ∨ 4096 < n then (-1, R) else sKeep R k ((R i) ^ n.toNatClampNeg)
  | _, _ => (-1, R)
theorem powerc_eq {h : hp_H} {z n : Nat} {R : Nat → Int} {T : Nat → Nat} (C : cs h z R T n) (t a m : Int32) : ∃ h', fX5_power z t a m h = some ((sPower R t a m).1, h') ∧ cs h' z (sPower R t a m).2 T n := by
  unfold fX5_power sPower
  rw [if_pos (cs_o C)]
  rcases rg_cases t with ⟨e1, f1⟩ | ⟨k, hk, rfl, e1, f1⟩
  · rw [f1, Option.bind_some, if_pos rfl, e1]; exact ⟨h, rfl, C⟩
  rcases rg_cases a with ⟨e2, f2⟩ | ⟨i, hi, rfl, e2, f2⟩
  · rw [f1, Option.bind_some, if_neg (by decide), f2, Option.bind_some, if_pos rfl, e1, e2]; exact ⟨h, rfl, C⟩
  rw [f1, Option.bind_some, if_neg (by decide), f2, Option.bind_some, if_neg (by decide), e1, e2]
  simp only []
  by_cases g1 : m < 0
  · rw [if_pos g1, if_pos (Or.inl g1)]; exact ⟨h, rfl, C⟩
  rw [if_neg g1]
  obtain ⟨j, hj, rfl⟩ := nI_of g1
  by_cases g2 : j ≤ 4096
  · have g3 : ¬ (4096 : Int32) < nI j := fun q => by
      have := (nI_ltI (a := 4096) (b := j) (by omega) (by omega)).mp q; omega
    have g4 : nI j ≤ (4096 : Int32) := (nI_leI (a := j) (b := 4096) (by omega) (by omega)).mpr g2
    rw [if_pos g4, if_neg (fun q => q.elim g1 g3), cs_0 C, Option.bind_some, cs_r C hi, Option.bind_some, nI_cl hj]
    unfold fX5_takePower
    rw [if_pos (cs_o C), cs_1 C, Option.bind_some]
    obtain ⟨v, W⟩ := C.2.2.1
    obtain ⟨h4, q1, W4, F4⟩ := takeLong_eq W (nres z) 1
    have C4 := cs_res C F4 (wz_q W4)
    rw [q1, Option.bind_some]
    have e13 : j / 2 ^ 13 = 0 := Nat.div_eq_of_lt (by have : (2 : Nat) ^ 13 = 8192 := rfl; omega)
    have W4' : wz h4 (z + 26) (z + 27) (z + 28) ((R i) ^ (j / 2 ^ 13)) := by rw [e13, Int.pow_zero]; exact W4
    have B4 : bl ((R i) ^ (j / 2 ^ 13)).natAbs ≤ 4096 := by rw [e13, Int.pow_zero]; decide
    have L := power_loop hi g2 13 hp_n h4 (by omega) (by decide) C4 W4' B4
    have e12 : iI (((13 : Nat) : Int) - 1) = (12 : Int32) := rfl
    rw [e12] at L
    by_cases hb : bl ((R i) ^ j).natAbs ≤ 4096
    · obtain ⟨h14, r1, C14, W14⟩ := L.1 hb
      obtain ⟨h19, r2, C19⟩ := keep_eq C14 hk W14
      rw [r1, Option.bind_some]
      simp only []
      rw [if_neg (by decide), r2, Option.bind_some]
      exact ⟨h19, rfl, C19⟩
    · obtain ⟨h14, r1, C14⟩ := L.2 hb
      rw [r1, Option.bind_some]
      simp only []
      rw [if_pos trivial]
      unfold sKeep
      rw [if_neg hb]
      exact ⟨h14, rfl, C14⟩
  · have g3 : (4096 : Int32) < nI j := (nI_ltI (a := 4096) (b := j) (by omega) (by omega)).mpr (by omega)
    have g4 : ¬ nI j ≤ (4096 : Int32) := fun q => g2 ((nI_leI (a := j) (b := 4096) (by omega) (by omega)).mp q)
    rw [if_neg g4, if_pos (Or.inr g3)]; exact ⟨h, rfl, C⟩
