/-! WholeNumbers: what each call answers and does, as numbers (s..), and that the class does so -/
def bI (n : Nat) : Int32 := nI n
/-- the result goes into register t, unless it has too many bits -/
def sKeep (R : Nat → Int) (t : Nat) (x : Int) : Int32 × (Nat → Int) := if bl x.natAbs ≤ 4096 then (nI (bl x.natAbs), va_up R t x) else (-1, R)
theorem keep_eq {h : hp_H} {z n k : Nat} {R : Nat → Int} {T : Nat → Nat} {x : Int} (C : cs h z R T n) (hk : k < 8) (W : wz h (z + 26) (z + 27) (z + 28) x) : ∃ h', fX5_keepResult z (nI k) h = some ((sKeep R k x).1, h') ∧ cs h' z (sKeep R k x).2 T n := by
  have l1 := nv_lt W.2
  unfold fX5_keepResult sKeep
  rw [if_pos (cs_o C), cs_1 C, Option.bind_some, wq_a (wz_q W), Option.bind_some, bitLength_eq W.2, Option.bind_some, show (4096 : Int32) = nI 4096 from rfl]
  by_cases hb : bl x.natAbs ≤ 4096
  · rw [if_pos ((nI_leI (by omega) (by omega)).mpr hb), if_pos hb, cs_0 C, Option.bind_some, cs_r C hk, Option.bind_some, Option.bind_some]
    have Wk := wz_q (C.2.1 k hk).1
    obtain ⟨h15, e1, W15, F15⟩ := wtake_eq Wk W (by simp) (by simp; omega) (by simp; omega) (by simp; omega)
    rw [e1, Option.bind_some]
    exact ⟨h15, rfl, cs_reg C hk F15 W15 hb⟩
  · rw [if_neg (fun q => hb ((nI_leI (by omega) (by omega)).mp q)), if_neg hb]
    exact ⟨h, rfl, C⟩
def sLoad (R : Nat → Int) (t : Int32) (v : Int64) : Int32 × (Nat → Int) := match rg t with
  | some k => (1, va_up R k v.toInt)
  | none => (0, R)
theorem load_eq {h : hp_H} {z n : Nat} {R : Nat → Int} {T : Nat → Nat} (C : cs h z R T n) (t : Int32) (v : Int64) : ∃ h', fX5_load z t v h = some ((sLoad R t v).1, h') ∧ cs h' z (sLoad R t v).2 T n := by
  unfold fX5_load sLoad
  rw [if_pos (cs_o C)]
  rcases rg_cases t with ⟨e1, e2⟩ | ⟨k, hk, rfl, e1, e2⟩
  · rw [e2, Option.bind_some, if_pos rfl, e1]; exact ⟨h, rfl, C⟩
  · rw [e2, Option.bind_some, if_neg (by decide), e1, cs_0 C, Option.bind_some, cs_r C hk, Option.bind_some]
    obtain ⟨h9, e3, W9, F9⟩ := takeLong_eq (wz_q (C.2.1 k hk).1) (by simp) v
    rw [e3, Option.bind_some]
    refine ⟨h9, rfl, cs_reg C hk F9 W9 ?_⟩
    obtain ⟨r1, r2⟩ := lI_rg v
    have : bl v.toInt.natAbs ≤ 64 := bl_le.mpr (by have : (2 : Nat) ^ 64 = 18446744073709551616 := rfl; omega)
    omega
def sCompare (R : Nat → Int) (a b : Int32) : Int32 := match rg a, rg b with
  | some i, some j => cmpZ (R i) (R j)
  | _, _ => 2
theorem compare_eq {h : hp_H} {z n : Nat} {R : Nat → Int} {T : Nat → Nat} (C : cs h z R T n) (a b : Int32) : fX5_compare z a b h = some (sCompare R a b) := by
  unfold fX5_compare sCompare
  rw [if_pos (cs_o C)]
  rcases rg_cases a with ⟨e1, e2⟩ | ⟨k, hk, rfl, e1, e2⟩
  · rw [e2, Option.bind_some, if_pos rfl, e1]
  · rw [e2, Option.bind_some, if_neg (by decide), e1]
    rcases rg_cases b with ⟨e3, e4⟩ | ⟨j, hj, rfl, e3, e4⟩
    · rw [e4, Option.bind_some, if_pos rfl, e3]
    · rw [e4, Option.bind_some, if_neg (by decide), e3, cs_0 C, Option.bind_some, cs_r C hk, Option.bind_some, Option.bind_some, cs_r C hj, Option.bind_some, worder_eq (C.2.1 k hk).1 (C.2.1 j hj).1, Option.bind_some]
def sSign (R : Nat → Int) (a : Int32) : Int32 := match rg a with
  | some i => cmpZ (R i) 0
  | none => 2
theorem sign_eq {h : hp_H} {z n : Nat} {R : Nat → Int} {T : Nat → Nat} (C : cs h z R T n) (a : Int32) : fX5_sign z a h = some (sSign R a) := by
  unfold fX5_sign sSign
  rw [if_pos (cs_o C)]
  rcases rg_cases a with ⟨e1, e2⟩ | ⟨k, hk, rfl, e1, e2⟩
  · rw [e2, Option.bind_some, if_pos rfl, e1]
  · rw [e2, Option.bind_some, if_neg (by decide), e1, cs_0 C, Option.bind_some, cs_r C hk, Option.bind_some, direction_eq (C.2.1 k hk).1, Option.bind_some]
def sBits (R : Nat → Int) (a : Int32) : Int32 := match rg a with
  | some i => nI (bl (R i).natAbs)
  | none => -1
theorem bits_eq {h : hp_H} {z n : Nat} {R : Nat → Int} {T : Nat → Nat} (C : cs h z R T n) (a : Int32) : fX5_bits z a h = some (sBits R a) := by
  unfold fX5_bits sBits
  rw [if_pos (cs_o C)]
  rcases rg_cases a with ⟨e1, e2⟩ | ⟨k, hk, rfl, e1, e2⟩
  · rw [e2, Option.bind_some, if_pos rfl, e1]
  · rw [e2, Option.bind_some, if_neg (by decide), e1, cs_0 C, Option.bind_some, cs_r C hk, Option.bind_some, wq_a (wz_q (C.2.1 k hk).1), Option.bind_some, bitLength_eq (C.2.1 k hk).1.2, Option.bind_some]
def sPart (R : Nat → Int) (a i : Int32) : Int32 := match rg a with
  | some k => if i < 0 then -1 else nI ((R k).natAbs / 2 ^ i.toNatClampNeg % 1073741824)
  | none => -1
theorem part_eq {h : hp_H} {z n : Nat} {R : Nat → Int} {T : Nat → Nat} (C : cs h z R T n) (a i : Int32) : fX5_part z a i h = some (sPart R a i) := by
  unfold fX5_part sPart
  rw [if_pos (cs_o C)]
  rcases rg_cases a with ⟨e1, e2⟩ | ⟨k, hk, rfl, e1, e2⟩
  · rw [e2, Option.bind_some, if_pos rfl, e1]
  · rw [e2, Option.bind_some, if_neg (by decide), e1]
    by_cases h0 : i < 0
    · rw [if_pos h0]; simp only [h0, if_true]
    · obtain ⟨j, hj, rfl⟩ := nI_of h0
      rw [if_neg h0]
      simp only [h0, if_false]
      rw [cs_0 C, Option.bind_some, cs_r C hk, Option.bind_some, wq_a (wz_q (C.2.1 k hk).1), Option.bind_some, limbFrom_eq (C.2.1 k hk).1.2 hj, Option.bind_some, nI_cl hj]
def sHasBelow (R : Nat → Int) (a m : Int32) : Int32 := match rg a with
  | some k => if m < 1 then 0 else if (R k).natAbs % 2 ^ m.toNatClampNeg = 0 then 0 else 1
  | none => 0
theorem hasBelow_eq {h : hp_H} {z n : Nat} {R : Nat → Int} {T : Nat → Nat} (C : cs h z R T n) (a m : Int32) : fX5_hasBelow z a m h = some (sHasBelow R a m) := by
  unfold fX5_hasBelow sHasBelow
  rw [if_pos (cs_o C)]
  rcases rg_cases a with ⟨e1, e2⟩ | ⟨k, hk, rfl, e1, e2⟩
  · rw [e2, Option.bind_some, if_pos rfl, e1]
  · rw [e2, Option.bind_some, if_neg (by decide), e1]
    by_cases h0 : m < 1
    · rw [if_pos h0]; simp only [h0, if_true]
    · have h00 : ¬ m < 0 := fun q => h0 (by
        rw [Int32.lt_iff_toInt_lt] at q ⊢
        have e0 : (0 : Int32).toInt = 0 := rfl
        have e1 : (1 : Int32).toInt = 1 := rfl
        omega)
      obtain ⟨j, hj, rfl⟩ := nI_of h00
      rw [if_neg h0]
      simp only [h0, if_false]
      rw [cs_0 C, Option.bind_some, cs_r C hk, Option.bind_some, wq_a (wz_q (C.2.1 k hk).1), Option.bind_some, anyBitBelow_eq (C.2.1 k hk).1.2 hj, Option.bind_some, nI_cl hj]
      by_cases h1 : (R k).natAbs % 2 ^ j = 0
      · rw [if_pos h1, if_pos rfl]
      · rw [if_neg h1, if_neg (by decide)]
def sFits (R : Nat → Int) (a : Int32) : Int32 := match rg a with
  | some k => if -9223372036854775808 ≤ R k ∧ R k < 9223372036854775808 then 1 else 0
  | none => 0
theorem fits_eq {h : hp_H} {z n : Nat} {R : Nat → Int} {T : Nat → Nat} (C : cs h z R T n) (a : Int32) : fX5_fits z a h = some (sFits R a) := by
  unfold fX5_fits sFits
  rw [if_pos (cs_o C)]
  rcases rg_cases a with ⟨e1, e2⟩ | ⟨k, hk, rfl, e1, e2⟩
  · rw [e2, Option.bind_some, if_pos rfl, e1]
  · rw [e2, Option.bind_some, if_neg (by decide), e1, cs_0 C, Option.bind_some, cs_r C hk, Option.bind_some, isLong_eq (C.2.1 k hk).1, Option.bind_some]
    by_cases h1 : -9223372036854775808 ≤ R k ∧ R k < 9223372036854775808
    · rw [if_pos h1, if_neg (by decide)]; simp only [h1, and_self, if_true]
    · rw [if_neg h1, if_pos rfl]; simp only [h1, if_false]
def sLow (R : Nat → Int) (a : Int32) : Int64 := match rg a with
  | some k => if -9223372036854775808 ≤ R k ∧ R k < 9223372036854775808 then lI (R k) else 0
  | none => 0
theorem low_eq {h : hp_H} {z n : Nat} {R : Nat → Int} {T : Nat → Nat} (C : cs h z R T n) (a : Int32) : fX5_low z a h = some (sLow R a) := by
  unfold fX5_low
  rw [if_pos (cs_o C), fits_eq C, Option.bind_some]
  unfold sFits sLow
  rcases rg_cases a with ⟨e1, e2⟩ | ⟨k, hk, rfl, e1, e2⟩
  · rw [e1]; rfl
  · rw [e1]
    by_cases h1 : -9223372036854775808 ≤ R k ∧ R k < 9223372036854775808
    · simp only [h1, and_self, if_true]
      rw [if_neg (by decide), cs_0 C, Option.bind_some, cs_r C hk, Option.bind_some, asLong_eq (C.2.1 k hk).1, Option.bind_some]
    · simp only [h1, if_false]; rfl
