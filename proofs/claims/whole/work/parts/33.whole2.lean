/-! Whole: signs, order, longs -/
def cmpZ (x y : Int) : Int32 := if x < y then -1 else if x = y then 0 else 1
theorem direction_eq {h : hp_H} {w a b : Nat} {z : Int} (W : wz h w a b z) : fX4_direction w h = some (cmpZ z 0) := by
  unfold fX4_direction cmpZ
  rw [if_pos (wq_o (wz_q W)), wq_a (wz_q W), Option.bind_some, isZero_v W.2, Option.bind_some]
  by_cases h0 : z.natAbs = 0
  · rw [if_pos h0, if_neg (by decide), if_neg (by omega), if_pos (by omega)]
  · rw [if_neg h0, if_pos rfl, wz_s W, Option.bind_some]
    by_cases hz : z < 0
    · rw [if_neg (by rw [sI_0]; omega), if_pos hz]
    · rw [if_pos (by rw [sI_0]; omega), if_neg hz, if_neg (by omega)]
theorem worder_eq {h : hp_H} {x ax bx y ay b2 : Nat} {zx zy : Int} (X : wz h x ax bx zx) (Y : wz h y ay b2 zy) : fX4_order x y h = some (cmpZ zx zy) := by
  unfold fX4_order
  rw [if_pos (wq_o (wz_q X)), wz_s X, Option.bind_some, wz_s Y, Option.bind_some]
  by_cases h0 : sI zx = sI zy
  · rw [if_pos h0, Option.bind_some]
    by_cases hz : zx < 0
    · have hy : zy < 0 := by
        rcases Int.lt_or_le zy 0 with q | q
        · exact q
        · exfalso
          have : sI zy = 0 := by rw [sI_0]; omega
          rw [this, sI_0] at h0; omega
      rw [if_neg (by rw [sI_0]; omega), wq_a (wz_q Y), Option.bind_some, wq_a (wz_q X), Option.bind_some, order_eq Y.2 X.2, Option.bind_some]
      unfold cmpI cmpZ
      by_cases h1 : zx < zy
      · rw [if_pos (show zy.natAbs < zx.natAbs by omega), if_pos h1]
      · by_cases h2 : zx = zy
        · rw [if_neg (by omega), if_pos (by omega), if_neg h1, if_pos h2]
        · rw [if_neg (by omega), if_neg (by omega), if_neg h1, if_neg h2]
    · have hy : ¬ zy < 0 := by
        have : sI zx = 0 := by rw [sI_0]; exact hz
        rw [this] at h0
        exact (sI_0 zy).mp h0.symm
      rw [if_pos (by rw [sI_0]; omega), wq_a (wz_q X), Option.bind_some, wq_a (wz_q Y), Option.bind_some, order_eq X.2 Y.2, Option.bind_some]
      unfold cmpI cmpZ
      by_cases h1 : zx < zy
      · rw [if_pos (by omega), if_pos h1]
      · by_cases h2 : zx = zy
        · rw [if_neg (by omega), if_pos (by omega), if_neg h1, if_pos h2]
        · rw [if_neg (by omega), if_neg (by omega), if_neg h1, if_neg h2]
  · rw [if_neg h0, Option.bind_some]
    unfold cmpZ
    by_cases hz : zx < 0
    · have hy : ¬ zy < 0 := fun q => h0 (by unfold sI; rw [if_pos hz, if_pos q])
      rw [if_neg (by rw [sI_0]; omega), if_pos (by omega)]
    · have hy : zy < 0 := by
        rcases Int.lt_or_le zy 0 with q | q
        · exact q
        · exact absurd (by unfold sI; rw [if_neg hz, if_neg (by omega)]) h0
      rw [if_pos (by rw [sI_0]; omega), if_neg (by omega), if_neg (by omega)]

def isL (z : Int) : Prop := -9223372036854775808 ≤ z ∧ z < 9223372036854775808
theorem isLong_eq {h : hp_H} {w a b : Nat} {z : Int} (W : wz h w a b z) : fX4_isLong w h = some (if -9223372036854775808 ≤ z ∧ z < 9223372036854775808 then 1 else 0) := by
  have l1 := nv_lt W.2
  have e64 : (64 : Int32) = nI 64 := rfl
  have lt : nI (bl z.natAbs) < nI 64 ↔ z.natAbs < 9223372036854775808 := by
    rw [nI_ltI (by omega) (by omega), show (9223372036854775808 : Nat) = 2 ^ 63 from rfl, ← bl_le]; omega
  have e37 : bX4_isLong_37 (nI (bl z.natAbs)) h = some (if z.natAbs < 9223372036854775808 then 1 else 0) := by
    unfold bX4_isLong_37 bX4_isLong_38
    rw [e64]
    by_cases h1 : z.natAbs < 9223372036854775808
    · rw [if_pos (lt.mpr h1), if_pos h1]
    · rw [if_neg (fun q => h1 (lt.mp q)), if_pos rfl, if_neg h1]
  unfold fX4_isLong
  rw [if_pos (wq_o (wz_q W)), wq_a (wz_q W), Option.bind_some, bitLength_eq W.2, Option.bind_some, wz_s W, Option.bind_some]
  by_cases hz : z < 0
  · rw [if_neg (by rw [sI_0]; omega), e64]
    by_cases h64 : bl z.natAbs = 64
    · have hge : 9223372036854775808 ≤ z.natAbs := by
        have : 63 < bl z.natAbs := by omega
        exact bl_lt.mp this
      have hlt : z.natAbs < 18446744073709551616 := by
        have : bl z.natAbs ≤ 64 := by omega
        exact bl_le.mp this
      rw [if_pos (by rw [h64]), Option.bind_some, show (63 : Int32) = nI 63 from rfl, anyBitBelow_eq W.2 (by omega), Option.bind_some]
      by_cases hm : z.natAbs % 2 ^ 63 = 0
      · rw [if_pos hm, if_pos rfl]
        unfold bX4_isLong_38
        rw [e64, if_neg (fun q => by have := lt.mp q; omega), if_neg (by decide), if_pos]
        omega
      · rw [if_neg hm, if_neg (by decide), e37, if_neg (by omega), if_neg]
        omega
    · rw [if_neg (fun q => h64 ((nI_eq (by omega) (by omega)).mp q)), e37]
      by_cases h1 : z.natAbs < 9223372036854775808
      · rw [if_pos h1, if_pos (by omega)]
      · have : ¬ z.natAbs < 18446744073709551616 := by
          intro q
          have q1 : bl z.natAbs ≤ 64 := bl_le.mpr q
          have q2 : 63 < bl z.natAbs := bl_lt.mpr (by omega)
          omega
        rw [if_neg h1, if_neg (by omega)]
  · rw [if_pos (by rw [sI_0]; omega), e37]
    by_cases h1 : z.natAbs < 9223372036854775808
    · rw [if_pos h1, if_pos (by omega)]
    · rw [if_neg h1, if_neg (by omega)]
theorem asLong_eq {h : hp_H} {w a b : Nat} {z : Int} (W : wz h w a b z) : fX4_asLong w h = some (lI z) := by
  unfold fX4_asLong
  rw [if_pos (wq_o (wz_q W)), wz_s W, Option.bind_some, wq_a (wz_q W), Option.bind_some, Option.bind_some, lowestLong_eq W.2, Option.bind_some, Option.bind_some, show (18446744073709551616 : Nat) = 2 ^ 64 from rfl, ← wb_mod, lN_lI]
  by_cases hz : z < 0
  · rw [if_neg (by rw [sI_0]; omega), lI_neg]; congr 2; omega
  · rw [if_pos (by rw [sI_0]; omega)]; congr 2; omega
