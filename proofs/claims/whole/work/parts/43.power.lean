/-! WholeNumbers: shift and power -/
theorem cs_n1 {h h' : hp_H} {z n u : Nat} {R : Nat → Int} {T : Nat → Nat} (C : cs h z R T n) (F : fr h h' (z + 27) (z + 28)) (V : nv h' (z + 27) (z + 28) u) : cs h' z R T n ∧ wq h' (z + 26) (z + 27) (z + 28) u := by
  obtain ⟨v, W⟩ := C.2.2.1
  have W' := wq_fr W F (by omega) (by omega) V
  exact ⟨cs_res C (F.fs (by simp) (by simp)) W', W'⟩
theorem cs_n2 {h h' : hp_H} {z n u : Nat} {R : Nat → Int} {T : Nat → Nat} (C : cs h z R T n) (F : fr h h' (z + 30) (z + 31)) (V : nv h' (z + 30) (z + 31) u) : cs h' z R T n ∧ wq h' (z + 29) (z + 30) (z + 31) u := by
  obtain ⟨v, W⟩ := C.2.2.2.1
  have W' := wq_fr W F (by omega) (by omega) V
  exact ⟨cs_sec C (F.fs (by simp) (by simp)) W', W'⟩
/-- a size with another number's sign -/
def sg (x : Int) (v : Nat) : Int := if x < 0 then -(v : Int) else v
theorem sg_sI (x : Int) (v : Nat) : (if sI x = 0 then (v : Int) else -(v : Int)) = sg x v := by
  unfold sg
  by_cases h : x < 0
  · rw [if_neg (by rw [sI_0]; omega), if_pos h]
  · rw [if_pos (by rw [sI_0]; omega), if_neg h]
theorem sg_abs (x : Int) (v : Nat) : (sg x v).natAbs = v := by unfold sg; split <;> omega
theorem sI_01 (x : Int) : sI x = 0 ∨ sI x = 1 := by unfold sI; split <;> simp
def sShift (R : Nat → Int) (t a n : Int32) : Int32 × (Nat → Int) := match rg t, rg a with
  | some k, some i => if n < -4096 ∨ 4096 < n then (-1, R) else if 0 < n then sKeep R k (sg (R i) ((R i).natAbs * 2 ^ n.toInt.toNat)) else sKeep R k (sg (R i) ((R i).natAbs / 2 ^ (-n.toInt).toNat))
  | _, _ => (-1, R)
theorem shift_110 {h : hp_H} {z n k i u : Nat} {R : Nat → Int} {T : Nat → Nat} (C : cs h z R T n) (hk : k < 8) (hi : i < 8) (W : wq h (z + 26) (z + 27) (z + 28) u) : ∃ h', bX5_shift_110 z (nI k) (z + 2 + 3 * i) h = some ((sKeep R k (sg (R i) u)).1, h') ∧ cs h' z (sKeep R k (sg (R i) u)).2 T n := by
  unfold bX5_shift_110
  rw [cs_1 C, Option.bind_some, wz_s (C.2.1 i hi).1, Option.bind_some]
  obtain ⟨h6, e1, W6, F6⟩ := takeSign_eq W (nres z) (sI_01 (R i))
  rw [sg_sI] at W6
  obtain ⟨h8, e2, C8⟩ := keep_eq (cs_res C F6 (wz_q W6)) hk W6
  rw [e1, Option.bind_some, e2, Option.bind_some]
  exact ⟨h8, rfl, C8⟩
theorem shift_89 {h : hp_H} {z n k i m : Nat} {R : Nat → Int} {T : Nat → Nat} (C : cs h z R T n) (hk : k < 8) (hi : i < 8) (hm : m ≤ 4096) (hb : (R i).natAbs = 0 ∨ bl (R i).natAbs + m ≤ 4096) : ∃ h', bX5_shift_89 z (nI k) (nI m) (z + 2 + 3 * i) h = some ((sKeep R k (sg (R i) ((R i).natAbs * 2 ^ m))).1, h') ∧ cs h' z (sKeep R k (sg (R i) ((R i).natAbs * 2 ^ m))).2 T n := by
  unfold bX5_shift_89
  obtain ⟨v, W⟩ := C.2.2.1
  obtain ⟨cc, gg, Tr⟩ := nv_nr W.2
  have Ci := C.2.1 i hi
  have hb2 : bl (R i).natAbs + m ≤ 4170 := by
    rcases hb with q | q
    · rw [q, bl_0]; omega
    · omega
  obtain ⟨h8, e1, V8, F8⟩ := shiftUp_eq Tr Ci.1.2 (n := m) (by omega) hb2 (Or.inl ⟨by omega, by omega⟩)
  obtain ⟨C8, W8⟩ := cs_n1 C F8 V8
  rw [cs_1 C, Option.bind_some, wq_a W, Option.bind_some, wq_a (wz_q Ci.1), Option.bind_some, e1, Option.bind_some]
  exact shift_110 C8 hk hi W8
theorem bl_mulp {v : Nat} (hv : v ≠ 0) (m : Nat) : bl (v * 2 ^ m) = bl v + m := by
  have := bl_add (lo := 0) (k := m) hv (Nat.two_pow_pos m)
  rw [Nat.zero_add] at this
  omega
theorem shiftc_eq {h : hp_H} {z n : Nat} {R : Nat → Int} {T : Nat → Nat} (C : cs h z R T n) (t a m : Int32) : ∃ h', fX5_shift z t a m h = some ((sShift R t a m).1, h') ∧ cs h' z (sShift R t a m).2 T n := by
  unfold fX5_shift sShift
  rw [if_pos (cs_o C)]
  rcases rg_cases t with ⟨e1, f1⟩ | ⟨k, hk, rfl, e1, f1⟩
  · rw [f1, Option.bind_some, if_pos rfl, e1]; exact ⟨h, rfl, C⟩
  rcases rg_cases a with ⟨e2, f2⟩ | ⟨i, hi, rfl, e2, f2⟩
  · rw [f1, Option.bind_some, if_neg (by decide), f2, Option.bind_some, if_pos rfl, e1, e2]; exact ⟨h, rfl, C⟩
  rw [f1, Option.bind_some, if_neg (by decide), f2, Option.bind_some, if_neg (by decide), e1, e2]
  simp only []
  have Ci := C.2.1 i hi
  obtain ⟨mz, hm⟩ : ∃ mz, mz = m.toInt := ⟨_, rfl⟩
  have em : m = iI mz := by rw [hm]; exact iI_of m
  have rm := iI_rg m
  rw [← hm] at rm
  by_cases g1 : m < -4096
  · rw [if_pos g1, if_pos (Or.inl g1)]; exact ⟨h, rfl, C⟩
  rw [if_neg g1]
  by_cases g2 : m ≤ 4096
  · have g3 : ¬ 4096 < m := fun q => by
      rw [Int32.le_iff_toInt_le] at g2
      rw [Int32.lt_iff_toInt_lt] at q
      omega
    rw [if_pos g2, if_neg (fun q => q.elim g1 g3), cs_0 C, Option.bind_some, cs_r C hi, Option.bind_some]
    have b1 : -4096 ≤ mz := by
      rw [Int32.lt_iff_toInt_lt] at g1
      have e0 : (-4096 : Int32).toInt = -4096 := rfl
      omega
    have b2 : mz ≤ 4096 := by
      rw [Int32.le_iff_toInt_le] at g2
      have e0 : (4096 : Int32).toInt = 4096 := rfl
      omega
    by_cases g4 : 0 < m
    · rw [if_pos g4, if_pos g4, ← hm]
      have b3 : 0 < mz := by
        rw [Int32.lt_iff_toInt_lt] at g4
        have e0 : (0 : Int32).toInt = 0 := rfl
        omega
      obtain ⟨j, ej⟩ : ∃ j : Nat, mz = j := ⟨mz.toNat, by omega⟩
      have em2 : m = nI j := by rw [em, ej, nI_iI]
      rw [ej, Int.toNat_natCast, em2, wq_a (wz_q Ci.1), Option.bind_some, isZero_v Ci.1.2, Option.bind_some]
      by_cases g5 : (R i).natAbs = 0
      · rw [if_pos g5, if_neg (by decide)]
        exact shift_89 C hk hi (by omega) (Or.inl g5)
      · rw [if_neg g5, if_pos rfl, Option.bind_some, bitLength_eq Ci.1.2, Option.bind_some, nI_iI, nI_iI, iI_add]
        by_cases g6 : bl (R i).natAbs + j ≤ 4096
        · have g7 : ¬ (4096 : Int32) < iI ((bl (R i).natAbs : Int) + (j : Int)) := fun q => by
            rw [show (4096 : Int32) = iI 4096 from rfl, iI_lt (by omega) (by omega) (by omega) (by omega)] at q
            omega
          rw [if_neg g7, ← nI_iI]
          exact shift_89 C hk hi (by omega) (Or.inr g6)
        · have g7 : (4096 : Int32) < iI ((bl (R i).natAbs : Int) + (j : Int)) := by
            rw [show (4096 : Int32) = iI 4096 from rfl, iI_lt (by omega) (by omega) (by omega) (by omega)]
            omega
          rw [if_pos g7]
          have hb : ¬ bl (sg (R i) ((R i).natAbs * 2 ^ j)).natAbs ≤ 4096 := by
            rw [sg_abs, bl_mulp g5]; exact g6
          unfold sKeep
          rw [if_neg hb]; exact ⟨h, rfl, C⟩
    · rw [if_neg g4, if_neg g4, ← hm]
      have b3 : mz ≤ 0 := by
        rw [Int32.lt_iff_toInt_lt] at g4
        have e0 : (0 : Int32).toInt = 0 := rfl
        omega
      obtain ⟨j, ej⟩ : ∃ j : Nat, -mz = j := ⟨(-mz).toNat, by omega⟩
      have em2 : -m = nI j := by rw [em, iI_neg, ej, nI_iI]
      obtain ⟨v, W⟩ := C.2.2.1
      obtain ⟨cc, gg, Tr⟩ := nv_nr W.2
      obtain ⟨h8, q1, V8, F8⟩ := shiftDown_eq Tr Ci.1.2 (n := j) (by omega) (Or.inl ⟨by omega, by omega⟩)
      obtain ⟨C8, W8⟩ := cs_n1 C F8 V8
      rw [ej, Int.toNat_natCast, em2, cs_1 C, Option.bind_some, wq_a W, Option.bind_some, wq_a (wz_q Ci.1), Option.bind_some, q1, Option.bind_some]
      exact shift_110 C8 hk hi W8
  · have g3 : 4096 < m := by
      rw [Int32.le_iff_toInt_le] at g2
      rw [Int32.lt_iff_toInt_lt]
      omega
    rw [if_neg g2, if_pos (Or.inr g3)]; exact ⟨h, rfl, C⟩
/-- the result times a factor: it fails just where it has too many bits -/
theorem mulres_eq {h : hp_H} {z n w a b : Nat} {R : Nat → Int} {T : Nat → Nat} {x y : Int} (C : cs h z R T n) (W : wz h (z + 26) (z + 27) (z + 28) x) (Y : wz h w a b y) (hw : w ∉ [z + 29, z + 30, z + 31]) (ha : a ∉ [z + 29, z + 30, z + 31]) (hb : b ∉ [z + 29, z + 30, z + 31]) (hx : bl x.natAbs ≤ 4096) (hy : bl y.natAbs ≤ 4096) :
    (bl (x * y).natAbs ≤ 4096 → ∃ h', fX5_multiplyResult z w h = some (1, h') ∧ cs h' z R T n ∧ wz h' (z + 26) (z + 27) (z + 28) (x * y)) ∧ (¬ bl (x * y).natAbs ≤ 4096 → ∃ h', fX5_multiplyResult z w h = some (0, h') ∧ cs h' z R T n) := by
  obtain ⟨v2, W2⟩ := C.2.2.2.1
  have P := wprod_eq W2 W Y (nsec z) (by simp) (by simp) (by simp) hw ha hb
  unfold fX5_multiplyResult
  rw [if_pos (cs_o C), cs_2 C, Option.bind_some, cs_1 C, Option.bind_some]
  by_cases hp : bl x.natAbs + bl y.natAbs ≤ 4097
  · obtain ⟨h6, p1, W6, F6⟩ := P.1 hp
    have C6 := cs_sec C F6 (wz_q W6)
    have l6 := nv_lt W6.2
    have V6 : wz h6 (z + 26) (z + 27) (z + 28) x := wz_fs W F6 (by simp) (by simp) (by simp)
    rw [p1, Option.bind_some]
    simp only []
    rw [if_neg (by decide), cs_2 C6, Option.bind_some, wq_a (wz_q W6), Option.bind_some, bitLength_eq W6.2, Option.bind_some, show (4096 : Int32) = nI 4096 from rfl]
    constructor
    · intro hb2
      rw [if_pos ((nI_leI (by omega) (by omega)).mpr hb2), cs_1 C6, Option.bind_some, Option.bind_some]
      obtain ⟨h22, e2, W22, F22⟩ := wtake_eq (wz_q V6) W6 (nres z) (by simp) (by simp) (by simp)
      rw [e2, Option.bind_some]
      exact ⟨h22, rfl, cs_res C6 F22 (wz_q W22), W22⟩
    · intro hb2
      rw [if_neg (fun q => hb2 ((nI_leI (by omega) (by omega)).mp q))]
      exact ⟨h6, rfl, C6⟩
  · have hbig : ¬ bl (x * y).natAbs ≤ 4096 := by
      rw [bl_le, Int.natAbs_mul]
      have l1 : 0 < bl x.natAbs := by omega
      have l2 : 0 < bl y.natAbs := by omega
      have g1 : 2 ^ (bl x.natAbs - 1) ≤ x.natAbs := bl_lt.mp (by omega)
      have g2 : 2 ^ (bl y.natAbs - 1) ≤ y.natAbs := bl_lt.mp (by omega)
      have g3 := Nat.mul_le_mul g1 g2
      rw [← Nat.pow_add] at g3
      have g4 : 2 ^ 4096 ≤ 2 ^ (bl x.natAbs - 1 + (bl y.natAbs - 1)) := Nat.pow_le_pow_right (by decide) (by omega)
      exact Nat.not_lt.mpr (Nat.le_trans g4 g3)
    constructor
    · intro q; exact absurd q hbig
    · intro _
      rw [P.2 hp, Option.bind_some]
      simp only []
      rw [if_pos trivial]
      exact ⟨h, rfl, C⟩
theorem bl_pow_mono {p m n : Nat} (hm : 1 ≤ m) (hmn : m ≤ n) (h : ¬ bl (p ^ m) ≤ 4096) : ¬ bl (p ^ n) ≤ 4096 := by
  intro q
  have hp : 0 < p := by
    rcases Nat.eq_zero_or_pos p with e | e
    · exfalso; apply h; rw [e, Nat.zero_pow hm, bl_0]; omega
    · exact e
  exact h (Nat.le_trans (bl_mono (Nat.pow_le_pow_right hp hmn)) q)
theorem pw_bit {n b : Nat} : n / 2 ^ b = 2 * (n / 2 ^ (b + 1)) + n / 2 ^ b % 2 := by
  have : n / 2 ^ (b + 1) = n / 2 ^ b / 2 := by rw [Nat.pow_succ, Nat.div_div_eq_div_mul]
  rw [this]; omega
