/-! WholeNumbers: root and divide -/
theorem sq_pos {X : Nat} (h : X ≠ 0) : 0 < sq X := by
  obtain ⟨h1, h2⟩ := sq_spec X
  rcases Nat.eq_zero_or_pos (sq X) with e | e
  · rw [e] at h2; omega
  · exact e
theorem sq_bl {X e : Nat} (hX : bl X ≤ 2 * e) : sq X ≤ 2 ^ e := by
  obtain ⟨h1, h2⟩ := sq_spec X
  rcases Nat.lt_or_ge (2 ^ e) (sq X) with q | q
  · exfalso
    have h3 := bl_le.mp hX
    have h4 := Nat.mul_le_mul (Nat.le_of_lt q) (Nat.le_of_lt q)
    rw [← Nat.pow_add, ← Nat.two_mul] at h4
    omega
  · exact q
theorem takeRoot_eq {h : hp_H} {z n x bx X : Nat} {R : Nat → Int} {T : Nat → Nat} (C : cs h z R T n) (Xn : nv h x bx X) (hx : x < z + 26) (hbx : bx < z + 26) (hX : bl X ≤ 4096) : ∃ h', fX5_takeRoot z x h = some h' ∧ cs h' z R T n ∧ wz h' (z + 26) (z + 27) (z + 28) (sq X) := by
  unfold fX5_takeRoot
  obtain ⟨v, W⟩ := C.2.2.1
  obtain ⟨h4, q1, W4, F4⟩ := takeLong_eq W (nres z) 1
  have C4 := cs_res C F4 (wz_q W4)
  have out : ∀ p, p < z + 26 → p ∉ [z + 26, z + 27, z + 28] := fun p hp => by
    simp only [List.mem_cons, List.not_mem_nil, or_false]; omega
  have X4 : nv h4 x bx X := nv_fs Xn F4 (out _ hx) (out _ hbx)
  have G4 : nv h4 (z + 27) (z + 28) 1 := W4.2
  obtain ⟨cc, gg, Tr⟩ := nv_nr G4
  rw [if_pos (cs_o C), cs_1 C, Option.bind_some, q1, Option.bind_some, cs_1 C4, Option.bind_some, wq_a (wz_q W4), Option.bind_some, isZero_v X4, Option.bind_some]
  by_cases h0 : X = 0
  · obtain ⟨h21, p1, V21, F21⟩ := take_eq Tr X4 (by omega) (by omega) (by omega) (by omega)
    obtain ⟨C21, -⟩ := cs_n1 C4 F21 V21
    rw [if_pos h0, if_neg (by decide), p1, Option.bind_some]
    refine ⟨h21, rfl, C21, (F21 _ (by omega) (by omega)).trans ?_, ?_⟩
    · rw [W4.1]; unfold sI; rw [if_neg (by decide), if_neg (by omega)]
    · have e : sq X = 0 := by rw [h0]; rfl
      rw [e]; rw [h0] at V21; exact V21
  · rw [if_neg h0, if_pos rfl, bitLength_eq X4, Option.bind_some, ni1, nI_add, ni2, pk_div (by omega) (by decide) (by decide)]
    obtain ⟨e, he⟩ : ∃ e, e = (bl X + 1) / 2 := ⟨_, rfl⟩
    have l1 : bl 1 = 1 := rfl
    obtain ⟨h15, p1, V15, F15⟩ := shiftUp_eq Tr G4 (n := e) (by omega) (by omega) (Or.inr ⟨rfl, rfl⟩)
    rw [Nat.one_mul] at V15
    obtain ⟨C15, -⟩ := cs_n1 C4 F15 V15
    have X15 : nv h15 x bx X := nv_fr X4 F15 (by omega) (by omega) (by omega) (by omega)
    have W15 : wz h15 (z + 26) (z + 27) (z + 28) ((2 ^ e : Nat) : Int) := ⟨(F15 _ (by omega) (by omega)).trans (by
      rw [W4.1]; unfold sI; rw [if_neg (by decide), if_neg (Int.not_lt.mpr (Int.natCast_nonneg _))]), V15⟩
    obtain ⟨v2, W2⟩ := C15.2.2.2.1
    obtain ⟨s1, s2⟩ := sq_spec X
    have hsq := sq_bl (X := X) (e := e) (by omega)
    have hlt : 2 ^ e - sq X < 2 ^ 2049 := Nat.lt_of_le_of_lt (Nat.sub_le _ _) (Nat.pow_lt_pow_right (by decide) (by omega))
    have hb : bl (2 ^ e) ≤ 2060 := bl_le.mpr (Nat.pow_lt_pow_right (by decide) (by omega))
    obtain ⟨h', p2, C', W'⟩ := root_loop hx hbx h0 hX s1 s2 (sq_pos h0) 2049 0 hp_n (2 ^ e) h15 hlt hsq hb (by omega) (by decide) C15 X15 W15
    rw [← he, p1, Option.bind_some, cs_2 C15, Option.bind_some, wq_a W2, Option.bind_some]
    exact ⟨h', p2, C', W'⟩
def sRoot (R : Nat → Int) (t a : Int32) : Option (Int32 × (Nat → Int)) := match rg t, rg a with
  | some k, some i => if R i < 0 then none else some (sKeep R k (sq (R i).natAbs : Nat))
  | _, _ => some (-1, R)
theorem root_eq {h : hp_H} {z n : Nat} {R : Nat → Int} {T : Nat → Nat} (C : cs h z R T n) (t a : Int32) {r : Int32 × (Nat → Int)} (hr : sRoot R t a = some r) : ∃ h', fX5_root z t a h = some (r.1, h') ∧ cs h' z r.2 T n := by
  unfold sRoot at hr
  unfold fX5_root
  rw [if_pos (cs_o C)]
  rcases rg_cases t with ⟨e1, f1⟩ | ⟨k, hk, rfl, e1, f1⟩
  · rw [e1] at hr
    cases hr
    rw [f1, Option.bind_some, if_pos rfl]; exact ⟨h, rfl, C⟩
  rcases rg_cases a with ⟨e2, f2⟩ | ⟨i, hi, rfl, e2, f2⟩
  · rw [e1, e2] at hr
    cases hr
    rw [f1, Option.bind_some, if_neg (by decide), f2, Option.bind_some, if_pos rfl]; exact ⟨h, rfl, C⟩
  rw [e1, e2] at hr
  simp only [] at hr
  rw [f1, Option.bind_some, if_neg (by decide), f2, Option.bind_some, if_neg (by decide)]
  have Ci := C.2.1 i hi
  rw [cs_0 C, Option.bind_some, cs_r C hi, Option.bind_some, wz_s Ci.1, Option.bind_some]
  by_cases hz : R i < 0
  · rw [if_pos hz] at hr; cases hr
  · rw [if_neg hz] at hr
    cases hr
    rw [if_pos (by rw [sI_0]; exact hz), Option.bind_some, cs_r C hi, Option.bind_some, wq_a (wz_q Ci.1), Option.bind_some]
    obtain ⟨h21, p1, C21, W21⟩ := takeRoot_eq C Ci.1.2 (by omega) (by omega) Ci.2
    obtain ⟨h23, p2, C23⟩ := keep_eq C21 hk W21
    rw [p1, Option.bind_some, p2, Option.bind_some]
    exact ⟨h23, rfl, C23⟩
/-- quotient and rest as whole numbers: cut, or rounded down -/
def sQR (x y : Int) (fl : Prop) [Decidable fl] : Int × Int := if fl ∧ sI x ≠ sI y ∧ x.natAbs % y.natAbs ≠ 0 then (-((x.natAbs / y.natAbs + 1 : Nat) : Int), sg y (y.natAbs - x.natAbs % y.natAbs)) else ((if sI x = sI y then ((x.natAbs / y.natAbs : Nat) : Int) else -((x.natAbs / y.natAbs : Nat) : Int)), sg x (x.natAbs % y.natAbs))
def sDivide (R : Nat → Int) (q r a b fl : Int32) : Option (Int32 × (Nat → Int)) := match rg q, rg r, rg a, rg b with
  | some k, some l, some i, some j => if k = l then some (-1, R) else if R j = 0 then none else some (nI (bl (sQR (R i) (R j) (fl ≠ 0)).1.natAbs), va_up (va_up R k (sQR (R i) (R j) (fl ≠ 0)).1) l (sQR (R i) (R j) (fl ≠ 0)).2)
  | _, _, _, _ => some (-1, R)
theorem cut_eq {h : hp_H} {z n i j : Nat} {R : Nat → Int} {T : Nat → Nat} (C : cs h z R T n) (hi : i < 8) (hj : j < 8) (h0 : R j ≠ 0) : ∃ h', fX5_cutQuotient z (z + 2 + 3 * i) (z + 2 + 3 * j) h = some h' ∧ cs h' z R T n ∧ wz h' (z + 26) (z + 27) (z + 28) (if sI (R i) = sI (R j) then (((R i).natAbs / (R j).natAbs : Nat) : Int) else -(((R i).natAbs / (R j).natAbs : Nat) : Int)) ∧ wz h' (z + 29) (z + 30) (z + 31) (sg (R i) ((R i).natAbs % (R j).natAbs)) := by
  have Ci := C.2.1 i hi
  have Cj := C.2.1 j hj
  obtain ⟨D0, ⟨wq0, Q0⟩, ⟨wr0, R0⟩, ⟨wv0, V0⟩⟩ := C.2.2.2.2.1
  have out : ∀ p, p < z + 32 → p ∉ [z + 32, z + 33, z + 34, z + 35, z + 36, z + 37, z + 38] := fun p hp => by
    simp only [List.mem_cons, List.not_mem_nil, or_false]; omega
  have out2 : ∀ p, (p < z + 33 ∨ z + 39 ≤ p) → p ∉ [z + 33, z + 34, z + 35, z + 36, z + 37, z + 38] := fun p hp => by
    simp only [List.mem_cons, List.not_mem_nil, or_false]; omega
  obtain ⟨h5, wv', p1, D5, Q5, R5, V5, F5⟩ := split_eq D0 Q0 R0 V0 Ci.1.2 Cj.1.2 (by omega) (by omega) (by omega) (by simp) (out _ (by omega)) (out _ (by omega)) (out _ (by omega)) (out _ (by omega))
  have C5 : cs h5 z R T n := cs_euc C F5 (fun p hp => by simp only [List.mem_cons, List.not_mem_nil, or_false] at hp; omega) ⟨D5, ⟨_, Q5⟩, ⟨_, R5⟩, ⟨_, V5⟩⟩ (ce_fs C.2.2.2.2.2.1 F5 (fun p q1 q2 => out2 p (by omega)))
  unfold fX5_cutQuotient
  obtain ⟨v5, W5⟩ := C5.2.2.1
  obtain ⟨cc, gg, Tr⟩ := nv_nr W5.2
  obtain ⟨h18, p2, V18, F18⟩ := take_eq Tr Q5 (by omega) (by omega) (by omega) (by omega)
  obtain ⟨C18, W18⟩ := cs_n1 C5 F18 V18
  have R18 : nv h18 (z + 35) (z + 36) _ := nv_fr R5 F18 (by omega) (by omega) (by omega) (by omega)
  rw [if_pos (cs_o C), cs_3 C, Option.bind_some, wq_a (wz_q Ci.1), Option.bind_some, wq_a (wz_q Cj.1), Option.bind_some, p1, Option.bind_some, cs_1 C5, Option.bind_some, wq_a W5, Option.bind_some, cs_3 C5, Option.bind_some, ds_q D5, Option.bind_some, p2, Option.bind_some, cs_1 C18, Option.bind_some, wz_s (C18.2.1 i hi).1, Option.bind_some, wz_s (C18.2.1 j hj).1, Option.bind_some]
  have key : ∀ s : Int32, (s = 0 ∨ s = 1) → ∃ h', bX5_cutQuotient_52 z (z + 2 + 3 * i) (z + 26) s h18 = some h' ∧ cs h' z R T n ∧ wz h' (z + 26) (z + 27) (z + 28) (if s = 0 then (((R i).natAbs / (R j).natAbs : Nat) : Int) else -(((R i).natAbs / (R j).natAbs : Nat) : Int)) ∧ wz h' (z + 29) (z + 30) (z + 31) (sg (R i) ((R i).natAbs % (R j).natAbs)) := by
    intro s hs
    unfold bX5_cutQuotient_52
    obtain ⟨h2, r1, W2, F2⟩ := takeSign_eq W18 (nres z) hs
    have C2 := cs_res C18 F2 (wz_q W2)
    obtain ⟨v2, Y2⟩ := C2.2.2.2.1
    obtain ⟨c2, g2, Tr2⟩ := nv_nr Y2.2
    have R2 : nv h2 (z + 35) (z + 36) _ := nv_fs R18 F2 (by simp) (by simp)
    obtain ⟨h12, r2, V12, F12⟩ := take_eq Tr2 R2 (by omega) (by omega) (by omega) (by omega)
    obtain ⟨C12, Y12⟩ := cs_n2 C2 F12 V12
    obtain ⟨h18', r3, W18', F18'⟩ := takeSign_eq Y12 (nsec z) (sI_01 (R i))
    rw [sg_sI] at W18'
    have D2 := C2.2.2.2.2.1.1
    rw [r1, Option.bind_some, cs_2 C2, Option.bind_some, wq_a Y2, Option.bind_some, cs_3 C2, Option.bind_some, ds_r D2, Option.bind_some, r2, Option.bind_some, cs_2 C12, Option.bind_some, wz_s (C12.2.1 i hi).1, Option.bind_some, r3, Option.bind_some]
    have W12 : wz h12 (z + 26) (z + 27) (z + 28) _ := ⟨(F12 _ (by omega) (by omega)).trans W2.1, nv_fr W2.2 F12 (by omega) (by omega) (by omega) (by omega)⟩
    exact ⟨h18', rfl, cs_sec C12 F18' (wz_q W18'), wz_fs W12 F18' (by simp) (by simp) (by simp), W18'⟩
  by_cases hs : sI (R i) = sI (R j)
  · obtain ⟨h', r1, r2, r3, r4⟩ := key 0 (Or.inl rfl)
    rw [if_pos rfl] at r3
    rw [if_pos hs, if_pos hs]
    exact ⟨h', r1, r2, r3, r4⟩
  · obtain ⟨h', r1, r2, r3, r4⟩ := key 1 (Or.inr rfl)
    rw [if_neg (by decide)] at r3
    rw [if_neg hs, if_neg hs]
    exact ⟨h', r1, r2, r3, r4⟩
theorem step_down_eq {h : hp_H} {z n j v w : Nat} {R : Nat → Int} {T : Nat → Nat} (C : cs h z R T n) (hj : j < 8) (W : wq h (z + 26) (z + 27) (z + 28) v) (Y : wq h (z + 29) (z + 30) (z + 31) w) (hv : bl v ≤ 4100) (hw : w ≤ (R j).natAbs) : ∃ h', fX5_stepDown z (z + 2 + 3 * j) h = some h' ∧ cs h' z R T n ∧ wz h' (z + 26) (z + 27) (z + 28) (-((v + 1 : Nat) : Int)) ∧ wz h' (z + 29) (z + 30) (z + 31) (sg (R j) ((R j).natAbs - w)) := by
  unfold fX5_stepDown
  obtain ⟨h6, p1, V6, F6⟩ := timesPlus_eq W.2 (f := 1) (ad := 1) (by omega) (by decide) (by decide)
  rw [Nat.one_mul] at V6
  obtain ⟨C6, W6⟩ := cs_n1 C F6 V6
  obtain ⟨h10, p2, W10, F10⟩ := takeSign_eq W6 (nres z) (s := 1) (Or.inr rfl)
  rw [if_neg (by decide)] at W10
  have C10 := cs_res C6 F10 (wz_q W10)
  have Y6 : nv h6 (z + 30) (z + 31) w := nv_fr Y.2 F6 (by omega) (by omega) (by omega) (by omega)
  have Y10 : nv h10 (z + 30) (z + 31) w := nv_fs Y6 F10 (by simp) (by simp)
  have Cj := C10.2.1 j hj
  obtain ⟨v2, Z10⟩ := C10.2.2.2.1
  obtain ⟨c2, g2, Tr2⟩ := nv_nr Y10
  obtain ⟨h22, p3, V22, F22⟩ := takeDifference_eq Tr2 Cj.1.2 Y10 hw (by omega) (by omega) (Or.inr ⟨rfl, rfl⟩)
  obtain ⟨C22, W22⟩ := cs_n2 C10 F22 V22
  obtain ⟨h28, p4, W28, F28⟩ := takeSign_eq W22 (nsec z) (sI_01 (R j))
  rw [sg_sI] at W28
  rw [if_pos (cs_o C), cs_1 C, Option.bind_some, wq_a W, Option.bind_some, ni1, p1, Option.bind_some, cs_1 C6, Option.bind_some, ← ni1, p2, Option.bind_some, cs_2 C10, Option.bind_some, wq_a Z10, Option.bind_some, wq_a (wz_q Cj.1), Option.bind_some, Option.bind_some, wq_a Z10, Option.bind_some, p3, Option.bind_some, cs_2 C22, Option.bind_some, wz_s (C22.2.1 j hj).1, Option.bind_some, p4, Option.bind_some]
  have W22' : wz h22 (z + 26) (z + 27) (z + 28) _ := ⟨(F22 _ (by omega) (by omega)).trans W10.1, nv_fr W10.2 F22 (by omega) (by omega) (by omega) (by omega)⟩
  exact ⟨h28, rfl, cs_sec C22 F28 (wz_q W28), wz_fs W22' F28 (by simp) (by simp) (by simp), W28⟩
theorem qr_bl {x y : Int} {fl : Prop} [Decidable fl] (hx : bl x.natAbs ≤ 4096) (hy : bl y.natAbs ≤ 4096) (h0 : y ≠ 0) : bl (sQR x y fl).1.natAbs ≤ 4096 ∧ bl (sQR x y fl).2.natAbs ≤ 4096 := by
  have hy0 : 0 < y.natAbs := by omega
  have m1 := Nat.mod_lt x.natAbs hy0
  have d1 := Nat.div_le_self x.natAbs y.natAbs
  unfold sQR
  by_cases hc : fl ∧ sI x ≠ sI y ∧ x.natAbs % y.natAbs ≠ 0
  · rw [if_pos hc]
    simp only []
    refine ⟨?_, ?_⟩
    · rw [Int.natAbs_neg, Int.natAbs_natCast]
      have hy1 : y.natAbs ≠ 1 := fun e => hc.2.2 (by rw [e, Nat.mod_one])
      have hx0 : 0 < x.natAbs := by
        rcases Nat.eq_zero_or_pos x.natAbs with e | e
        · exact absurd (by rw [e, Nat.zero_mod]) hc.2.2
        · exact e
      have : x.natAbs / y.natAbs < x.natAbs := Nat.div_lt_self hx0 (by omega)
      exact Nat.le_trans (bl_mono this) hx
    · rw [sg_abs]
      exact Nat.le_trans (bl_mono (Nat.sub_le _ _)) hy
  · rw [if_neg hc]
    simp only []
    refine ⟨?_, ?_⟩
    · have e : (if sI x = sI y then ((x.natAbs / y.natAbs : Nat) : Int) else -((x.natAbs / y.natAbs : Nat) : Int)).natAbs = x.natAbs / y.natAbs := by
        by_cases q : sI x = sI y
        · rw [if_pos q, Int.natAbs_natCast]
        · rw [if_neg q, Int.natAbs_neg, Int.natAbs_natCast]
      rw [e]; exact Nat.le_trans (bl_mono d1) hx
    · rw [sg_abs]
      exact Nat.le_trans (bl_mono (Nat.le_of_lt m1)) hy
theorem divide_107 {h : hp_H} {z n k l : Nat} {R : Nat → Int} {T : Nat → Nat} {x y : Int} (C : cs h z R T n) (hk : k < 8) (hl : l < 8) (hkl : k ≠ l) (W : wz h (z + 26) (z + 27) (z + 28) x) (Y : wz h (z + 29) (z + 30) (z + 31) y) (hx : bl x.natAbs ≤ 4096) (hy : bl y.natAbs ≤ 4096) : ∃ h', bX5_divide_107 z (nI k) (nI l) h = some (nI (bl x.natAbs), h') ∧ cs h' z (va_up (va_up R k x) l y) T n := by
  unfold bX5_divide_107
  obtain ⟨h8, p1, W8, F8⟩ := wtake_eq (wz_q (C.2.1 k hk).1) W (by simp) (by simp; omega) (by simp; omega) (by simp; omega)
  have C8 := cs_reg C hk F8 W8 hx
  have out : ∀ p, z + 26 ≤ p → p ∉ [z + 2 + 3 * k, z + 3 + 3 * k, z + 4 + 3 * k] := fun p hp => by
    simp only [List.mem_cons, List.not_mem_nil, or_false]; omega
  have out2 : ∀ p, z + 26 ≤ p → p ∉ [z + 2 + 3 * l, z + 3 + 3 * l, z + 4 + 3 * l] := fun p hp => by
    simp only [List.mem_cons, List.not_mem_nil, or_false]; omega
  have Y8 := wz_fs Y F8 (out _ (by omega)) (out _ (by omega)) (out _ (by omega))
  have X8 := wz_fs W F8 (out _ (by omega)) (out _ (by omega)) (out _ (by omega))
  obtain ⟨h16, p2, W16, F16⟩ := wtake_eq (wz_q (C8.2.1 l hl).1) Y8 (by simp) (by simp; omega) (by simp; omega) (by simp; omega)
  have C16 := cs_reg C8 hl F16 W16 hy
  have X16 := wz_fs X8 F16 (out2 _ (by omega)) (out2 _ (by omega)) (out2 _ (by omega))
  rw [cs_0 C, Option.bind_some, cs_r C hk, Option.bind_some, cs_1 C, Option.bind_some, p1, Option.bind_some, cs_0 C8, Option.bind_some, cs_r C8 hl, Option.bind_some, cs_2 C8, Option.bind_some, p2, Option.bind_some, cs_1 C16, Option.bind_some, wq_a (wz_q X16), Option.bind_some, bitLength_eq X16.2, Option.bind_some]
  exact ⟨h16, rfl, C16⟩
theorem divide_eq {h : hp_H} {z n : Nat} {R : Nat → Int} {T : Nat → Nat} (C : cs h z R T n) (q r a b fl : Int32) {o : Int32 × (Nat → Int)} (ho : sDivide R q r a b fl = some o) : ∃ h', fX5_divide z q r a b fl h = some (o.1, h') ∧ cs h' z o.2 T n := by
  unfold sDivide at ho
  unfold fX5_divide
  rw [if_pos (cs_o C)]
  rcases rg_cases q with ⟨e1, f1⟩ | ⟨k, hk, rfl, e1, f1⟩
  · rw [e1] at ho
    cases ho
    rw [f1, Option.bind_some, if_pos rfl]; exact ⟨h, rfl, C⟩
  rw [f1, Option.bind_some, if_neg (by decide)]
  rcases rg_cases r with ⟨e2, f2⟩ | ⟨l, hl, rfl, e2, f2⟩
  · rw [e1, e2] at ho
    cases ho
    rw [are_no (Or.inl e2), Option.bind_some, if_pos rfl]; exact ⟨h, rfl, C⟩
  rcases rg_cases a with ⟨e3, f3⟩ | ⟨i, hi, rfl, e3, f3⟩
  · rw [e1, e2, e3] at ho
    cases ho
    rw [are_no (Or.inr (Or.inl e3)), Option.bind_some, if_pos rfl]; exact ⟨h, rfl, C⟩
  rcases rg_cases b with ⟨e4, f4⟩ | ⟨j, hj, rfl, e4, f4⟩
  · rw [e1, e2, e3, e4] at ho
    cases ho
    rw [are_no (Or.inr (Or.inr e4)), Option.bind_some, if_pos rfl]; exact ⟨h, rfl, C⟩
  rw [e1, e2, e3, e4] at ho
  simp only [] at ho
  rw [are_ok e2 e3 e4, Option.bind_some, if_neg (by decide)]
  have Ci := C.2.1 i hi
  have Cj := C.2.1 j hj
  by_cases hkl : k = l
  · rw [if_pos hkl] at ho
    cases ho
    rw [if_pos (by rw [hkl])]; exact ⟨h, rfl, C⟩
  rw [if_neg hkl] at ho
  rw [if_neg (fun e => hkl ((nI_ij (by omega) (by omega)).mp e)), cs_0 C, Option.bind_some, cs_r C hi, Option.bind_some, Option.bind_some, cs_r C hj, Option.bind_some, wq_a (wz_q Cj.1), Option.bind_some, isZero_v Cj.1.2, Option.bind_some]
  by_cases h0 : R j = 0
  · rw [if_pos h0] at ho; cases ho
  rw [if_neg h0] at ho
  cases ho
  obtain ⟨h22, p1, C22, W22, Y22⟩ := cut_eq C hi hj h0
  rw [if_neg (show ¬ (R j).natAbs = 0 by omega), if_pos rfl, p1, Option.bind_some]
  have B := qr_bl (fl := fl ≠ 0) Ci.2 Cj.2 h0
  have Ci2 := C22.2.1 i hi
  have Cj2 := C22.2.1 j hj
  by_cases hc : fl ≠ 0 ∧ sI (R i) ≠ sI (R j) ∧ (R i).natAbs % (R j).natAbs ≠ 0
  · have eq : sQR (R i) (R j) (fl ≠ 0) = (-(((R i).natAbs / (R j).natAbs + 1 : Nat) : Int), sg (R j) ((R j).natAbs - (R i).natAbs % (R j).natAbs)) := by
      unfold sQR; exact if_pos hc
    rw [eq] at B
    rw [eq]
    simp only [] at B ⊢
    have d1 := Nat.div_le_self (R i).natAbs (R j).natAbs
    have Wq := wz_q W22
    have ea : (if sI (R i) = sI (R j) then (((R i).natAbs / (R j).natAbs : Nat) : Int) else -(((R i).natAbs / (R j).natAbs : Nat) : Int)).natAbs = (R i).natAbs / (R j).natAbs := by
      rw [if_neg hc.2.1, Int.natAbs_neg, Int.natAbs_natCast]
    rw [ea] at Wq
    have Yq := wz_q Y22
    rw [sg_abs] at Yq
    obtain ⟨h37, p2, C37, W37, Y37⟩ := step_down_eq C22 hj Wq Yq (Nat.le_trans (bl_mono d1) (by omega)) (Nat.le_of_lt (Nat.mod_lt _ (by omega)))
    rw [if_neg hc.1, wz_s Ci2.1, Option.bind_some, wz_s Cj2.1, Option.bind_some, if_neg hc.2.1, cs_2 C22, Option.bind_some, wq_a Yq, Option.bind_some, isZero_v Yq.2, Option.bind_some, if_neg hc.2.2, if_pos rfl, p2, Option.bind_some]
    exact divide_107 C37 hk hl hkl W37 Y37 B.1 B.2
  · have eq : sQR (R i) (R j) (fl ≠ 0) = ((if sI (R i) = sI (R j) then (((R i).natAbs / (R j).natAbs : Nat) : Int) else -(((R i).natAbs / (R j).natAbs : Nat) : Int)), sg (R i) ((R i).natAbs % (R j).natAbs)) := by
      unfold sQR; exact if_neg hc
    rw [eq] at B
    rw [eq]
    simp only [] at B ⊢
    have fin := divide_107 C22 hk hl hkl W22 Y22 B.1 B.2
    by_cases h1 : fl = 0
    · rw [if_pos h1]; exact fin
    · rw [if_neg h1, wz_s Ci2.1, Option.bind_some, wz_s Cj2.1, Option.bind_some]
      by_cases h2 : sI (R i) = sI (R j)
      · rw [if_pos h2]; rw [if_pos h2]; rw [if_pos h2] at fin; exact fin
      · have h3 : (R i).natAbs % (R j).natAbs = 0 := Decidable.byContradiction fun q => hc ⟨h1, h2, q⟩
        have Yq := wz_q Y22
        rw [sg_abs] at Yq
        rw [if_neg h2, cs_2 C22, Option.bind_some, wq_a Yq, Option.bind_some, isZero_v Yq.2, Option.bind_some, if_pos h3, if_neg (by decide)]
        exact fin
