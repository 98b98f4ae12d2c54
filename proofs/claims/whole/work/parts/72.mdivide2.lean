/-! the reference: divide -/
theorem sI_cmp {x y : Int} (hx : x ≠ 0) (hy : y ≠ 0) : sI x = sI y ↔ cmpZ x 0 = cmpZ y 0 := by
  unfold sI
  rcases cmp0 x with ⟨a1, a2⟩ | ⟨a1, a2⟩ | ⟨a1, a2⟩ <;> rcases cmp0 y with ⟨b1, b2⟩ | ⟨b1, b2⟩ | ⟨b1, b2⟩ <;> rw [a2, b2]
  · rw [if_pos a1, if_pos b1]; simp
  · exact absurd b1 hy
  · rw [if_pos a1, if_neg (by omega)]; decide
  · exact absurd a1 hx
  · exact absurd a1 hx
  · exact absurd a1 hx
  · rw [if_neg (by omega), if_pos b1]; decide
  · exact absurd b1 hy
  · rw [if_neg (by omega), if_neg (by omega)]; simp
theorem sg_cmp {x : Int} {v : Nat} (hv : v ≠ 0) (hx : x ≠ 0) : cmpZ (sg x v) 0 = cmpZ x 0 := by
  have neg : ∀ z : Int, z < 0 → cmpZ z 0 = -1 := fun z q => if_pos q
  have pos : ∀ z : Int, 0 < z → cmpZ z 0 = 1 := fun z q => by unfold cmpZ; rw [if_neg (by omega), if_neg (by omega)]
  unfold sg
  by_cases h : x < 0
  · rw [if_pos h, neg _ h, neg _ (by omega)]
  · rw [if_neg h, pos x (by omega), pos _ (by omega)]
theorem cmp_sq {x y : Int} (hx : x ≠ 0) (hy : y ≠ 0) : cmpZ x 0 * cmpZ y 0 = if sI x = sI y then 1 else -1 := by
  by_cases h : sI x = sI y
  · rw [if_pos h, (sI_cmp hx hy).mp h]
    rcases cmp0 y with ⟨b1, b2⟩ | ⟨b1, b2⟩ | ⟨b1, b2⟩ <;> rw [b2]
    · decide
    · exact absurd b1 hy
    · decide
  · rw [if_neg h]
    have hn : ¬ cmpZ x 0 = cmpZ y 0 := fun q => h ((sI_cmp hx hy).mpr q)
    rcases cmp0 x with ⟨a1, a2⟩ | ⟨a1, a2⟩ | ⟨a1, a2⟩ <;> rcases cmp0 y with ⟨b1, b2⟩ | ⟨b1, b2⟩ | ⟨b1, b2⟩ <;> rw [a2, b2] at hn ⊢
    · exact absurd rfl hn
    · exact absurd b1 hy
    · decide
    · exact absurd a1 hx
    · exact absurd a1 hx
    · exact absurd a1 hx
    · decide
    · exact absurd b1 hy
    · exact absurd rfl hn
theorem mdivide_eq {h : hp_H} {y n : Nat} {R : Nat → Int} {T : Nat → Nat} {t : Int32} (S : ms h y R T n t) (q r a b fl : Int32) : (∀ o, sDivide R q r a b fl = some o → ∃ h', fX6_divide y q r a b fl h = some (o.1, h') ∧ ms h' y o.2 T n 0) ∧ (sDivide R q r a b fl = none → ∃ h', fX6_divide y q r a b fl h = some (0, h') ∧ ms h' y R T n 1) := by
  unfold fX6_divide sDivide
  obtain ⟨h1, p0, S1⟩ := ms_0 S
  rw [if_pos (m3_o S), p0, Option.bind_some]
  have refuse : (∀ o : Int32 × (Nat → Int), (some ((-1 : Int32), R) = some o → ∃ h', (some ((-1 : Int32), h1) = some (o.1, h') ∧ ms h' y o.2 T n 0))) ∧ (some ((-1 : Int32), R) = none → ∃ h', some ((-1 : Int32), h1) = some (0, h') ∧ ms h' y R T n 1) :=
    ⟨fun o ho => by cases ho; exact ⟨h1, rfl, S1⟩, fun ho => by cases ho⟩
  rcases rg6 q with ⟨e1, f1⟩ | ⟨k, hk, rfl, e1, f1⟩
  · rw [f1, Option.bind_some, if_pos rfl, e1]; exact refuse
  rcases rg6 r with ⟨e2, f2⟩ | ⟨l, hl, rfl, e2, f2⟩
  · rw [f1, Option.bind_some, if_neg (by decide), f2, Option.bind_some, if_pos rfl, e1, e2]; exact refuse
  rcases rg6 a with ⟨e3, f3⟩ | ⟨i, hi, rfl, e3, f3⟩
  · rw [f1, Option.bind_some, if_neg (by decide), f2, Option.bind_some, if_neg (by decide), f3, Option.bind_some, if_pos rfl, e1, e2, e3]; exact refuse
  rcases rg6 b with ⟨e4, f4⟩ | ⟨j, hj, rfl, e4, f4⟩
  · rw [f1, Option.bind_some, if_neg (by decide), f2, Option.bind_some, if_neg (by decide), f3, Option.bind_some, if_neg (by decide), f4, Option.bind_some, if_pos rfl, e1, e2, e3, e4]; exact refuse
  rw [f1, Option.bind_some, if_neg (by decide), f2, Option.bind_some, if_neg (by decide), f3, Option.bind_some, if_neg (by decide), f4, Option.bind_some, if_neg (by decide), e1, e2, e3, e4]
  simp only []
  by_cases hkl : k = l
  · rw [if_pos (show nI k = nI l by rw [hkl]), if_pos hkl]; exact refuse
  rw [if_neg (fun e => hkl ((nI_ij (by omega) (by omega)).mp e)), if_neg hkl]
  have ri := m3_reg S1 hi
  have rj := m3_reg S1 hj
  rw [m3_r2 S1, Option.bind_some, rj.2.1, Option.bind_some]
  by_cases h0 : R j = 0
  · obtain ⟨h50, p1, S50, -⟩ := m3_thr S1 1
    rw [if_pos h0, h0, if_pos (show cmpZ 0 0 = (0 : Int32) by decide), p1, Option.bind_some]
    exact ⟨fun o ho => (by cases ho), fun _ => ⟨h50, rfl, S50⟩⟩
  have hs0 : ¬ cmpZ (R j) 0 = 0 := by
    rcases cmp0 (R j) with ⟨b1, b2⟩ | ⟨b1, b2⟩ | ⟨b1, b2⟩ <;> rw [b2]
    · decide
    · exact absurd b1 h0
    · decide
  rw [if_neg h0, if_neg hs0]
  refine ⟨fun o ho => ?_, fun ho => by cases ho⟩
  cases ho
  have B := qr_bl (fl := fl ≠ 0) ri.2.2.1 rj.2.2.1 h0
  obtain ⟨h30, p1, S30⟩ := toX_eq S1 hi
  obtain ⟨h32, p2, S32⟩ := toY_eq S30 hj
  obtain ⟨h34, p3, S34⟩ := split6_eq S32 (by omega) ri.2.2.1
  rw [Option.bind_some, ri.2.1, Option.bind_some, Option.bind_some, rj.2.1, Option.bind_some, p1, Option.bind_some, p2, Option.bind_some, p3, Option.bind_some, ← va_up_comm R hkl]
  have hm := Nat.mod_lt (R i).natAbs (show 0 < (R j).natAbs by omega)
  have x0 : (R i).natAbs % (R j).natAbs ≠ 0 → R i ≠ 0 := fun w e => w (by rw [e, Int.natAbs_zero, Nat.zero_mod])
  have x1 : (R i).natAbs / (R j).natAbs ≠ 0 → R i ≠ 0 := fun w e => w (by rw [e, Int.natAbs_zero, Nat.zero_div])
  have hnL := (m3_vX S34).1
  have neg : ∀ z : Int, z < 0 → cmpZ z 0 = -1 := fun z q => if_pos q
  have pos : ∀ z : Int, 0 < z → cmpZ z 0 = 1 := fun z q => by unfold cmpZ; rw [if_neg (by omega), if_neg (by omega)]
  by_cases hc : fl ≠ 0 ∧ sI (R i) ≠ sI (R j) ∧ (R i).natAbs % (R j).natAbs ≠ 0
  · have eq : sQR (R i) (R j) (fl ≠ 0) = (-(((R i).natAbs / (R j).natAbs + 1 : Nat) : Int), sg (R j) ((R j).natAbs - (R i).natAbs % (R j).natAbs)) := by
      unfold sQR; exact if_pos hc
    rw [eq] at B
    rw [eq]
    simp only [] at B ⊢
    have hi0 := x0 hc.2.2
    have hsn : ¬ cmpZ (R i) 0 = cmpZ (R j) 0 := fun w => hc.2.1 ((sI_cmp hi0 h0).mpr w)
    have b1 := bl_1 ((R i).natAbs / (R j).natAbs)
    have b2 := Nat.le_trans (bl_mono (Nat.div_le_self (R i).natAbs (R j).natAbs)) ri.2.2.1
    obtain ⟨h45, p4, V45, F45⟩ := scaled_eq (m3_vZ S34) (m := 1) (pl := 1) (by omega) (by omega) (by omega) (nL_7 (by omega))
    rw [Nat.mul_one] at p4 V45
    have S45 := m3_wZ S34 F45 V45
    obtain ⟨h48, p5, S48, -⟩ := m3_pC S45 ((R i).natAbs / (R j).natAbs + 1)
    have en : (-(((R i).natAbs / (R j).natAbs + 1 : Nat) : Int)).natAbs = (R i).natAbs / (R j).natAbs + 1 := by rw [Int.natAbs_neg, Int.natAbs_natCast]
    rw [en] at B ⊢
    rw [if_neg hc.1, m3_i8 S34, Option.bind_some, if_neg (fun w => hc.2.2 ((nLz_le hnL).mp w)), if_neg hsn, m3_r7 S34, Option.bind_some, m3_i10 S34, Option.bind_some, ni1, p4, Option.bind_some]
    simp only []
    rw [p5, Option.bind_some]
    obtain ⟨h', u1, u2⟩ := div_133 (zr := sg (R j) ((R j).natAbs - (R i).natAbs % (R j).natAbs)) (zq := -(((R i).natAbs / (R j).natAbs + 1 : Nat) : Int)) (sa := cmpZ (R i) 0) (sb := cmpZ (R j) 0) hk hl hj (Nat.le_of_lt hm) (sg_abs _ _) en B.1 (fun w => (sg_cmp w h0).symm) (fun _ => by
      rw [cmp_sq hi0 h0, if_neg hc.2.1, neg _ (by omega)]) (nL ((R i).natAbs % (R j).natAbs)) 0 hp_n h48 (by omega) (by omega) (show nL ((R i).natAbs % (R j).natAbs) < 1000000 by omega) (m3_uY S48 fr.rf (m3_gY S48)) (pc_0 hnL (m3_gY S48))
    exact ⟨h', u1, u2⟩
  · have eq : sQR (R i) (R j) (fl ≠ 0) = ((if sI (R i) = sI (R j) then (((R i).natAbs / (R j).natAbs : Nat) : Int) else -(((R i).natAbs / (R j).natAbs : Nat) : Int)), sg (R i) ((R i).natAbs % (R j).natAbs)) := by
      unfold sQR; exact if_neg hc
    rw [eq] at B
    rw [eq]
    simp only [] at B ⊢
    have en : (if sI (R i) = sI (R j) then (((R i).natAbs / (R j).natAbs : Nat) : Int) else -(((R i).natAbs / (R j).natAbs : Nat) : Int)).natAbs = (R i).natAbs / (R j).natAbs := by
      by_cases w : sI (R i) = sI (R j)
      · rw [if_pos w, Int.natAbs_natCast]
      · rw [if_neg w, Int.natAbs_neg, Int.natAbs_natCast]
    rw [en] at B
    rw [sg_abs] at B
    have fin := div_203 (zr := sg (R i) ((R i).natAbs % (R j).natAbs)) (zq := if sI (R i) = sI (R j) then (((R i).natAbs / (R j).natAbs : Nat) : Int) else -(((R i).natAbs / (R j).natAbs : Nat) : Int)) (sa := cmpZ (R i) 0) (sb := cmpZ (R j) 0) (sr := cmpZ (R i) 0) S34 hk hl (sg_abs _ _) en B.2 B.1 (fun w => (sg_cmp w (x0 w)).symm) (fun w => by
      rw [cmp_sq (x1 w) h0]
      by_cases v : sI (R i) = sI (R j)
      · rw [if_pos v, if_pos v, pos _ (by omega)]
      · rw [if_neg v, if_neg v, neg _ (by omega)])
    rw [en]
    by_cases g1 : fl = 0
    · rw [if_pos g1]; exact fin
    rw [if_neg g1, m3_i8 S34, Option.bind_some]
    by_cases g2 : (R i).natAbs % (R j).natAbs = 0
    · rw [if_pos ((nLz_le hnL).mpr g2)]; exact fin
    have g3 : sI (R i) = sI (R j) := Decidable.byContradiction fun w => hc ⟨g1, w, g2⟩
    rw [if_neg (fun w => g2 ((nLz_le hnL).mp w)), if_pos ((sI_cmp (x0 g2) h0).mp g3)]
    exact fin
