/-! A WHOLE NUMBER IN THE HEAP -/
def wq (h : hp_H) (w a b v : Nat) : Prop := (∃ s : Int32, h w = some (.inr (.inr (.inr (4, [.ref a, .int s]))))) ∧ nv h a b v
def sI (z : Int) : Int32 := if z < 0 then 1 else 0
def wz (h : hp_H) (w a b : Nat) (z : Int) : Prop := h w = some (.inr (.inr (.inr (4, [.ref a, .int (sI z)])))) ∧ nv h a b z.natAbs
theorem wz_q {h : hp_H} {w a b : Nat} {z : Int} (W : wz h w a b z) : wq h w a b z.natAbs := ⟨⟨_, W.1⟩, W.2⟩
theorem wq_o {h : hp_H} {w a b v : Nat} (W : wq h w a b v) : hp_o h w 4 = true := by
  obtain ⟨⟨s, e⟩, -⟩ := W
  simp [hp_o, e]
theorem wq_a {h : hp_H} {w a b v : Nat} (W : wq h w a b v) : hp_gr h w 4 0 = some a := by
  obtain ⟨⟨s, e⟩, -⟩ := W
  simp [hp_gr, hp_gv, e]
theorem wz_s {h : hp_H} {w a b : Nat} {z : Int} (W : wz h w a b z) : hp_gi h w 4 1 = some (sI z) := by simp [hp_gi, hp_gv, W.1]
theorem wq_ps {h : hp_H} {w a b v : Nat} (W : wq h w a b v) (h1 : a ≠ w) (h2 : b ≠ w) (s : Int32) : ∃ h', hp_pv h w 4 1 (.int s) = some h' ∧ h' w = some (.inr (.inr (.inr (4, [.ref a, .int s])))) ∧ nv h' a b v ∧ fr h h' w w := by
  obtain ⟨⟨s0, e⟩, V⟩ := W
  have F : fr h (va_up h w (some (.inr (.inr (.inr (4, [.ref a, .int s])))))) w w := fun q hq _ => va_up_ne _ _ hq
  exact ⟨_, by simp [hp_pv, e], va_up_self _ _ _, nv_fr V F h1 h1 h2 h2, F⟩
theorem sI_bo (z : Int) : hp_bo (sI z) := by unfold sI; split <;> decide
theorem sI_0 (z : Int) : sI z = 0 ↔ ¬ z < 0 := by unfold sI; split <;> simp_all
theorem wz_fs {h h' : hp_H} {w a b : Nat} {z : Int} {l : List Nat} (W : wz h w a b z) (F : fs h h' l) (h0 : w ∉ l) (h1 : a ∉ l) (h2 : b ∉ l) : wz h' w a b z := ⟨(F w h0).trans W.1, nv_fs W.2 F h1 h2⟩
theorem wq_fs {h h' : hp_H} {w a b v : Nat} {l : List Nat} (W : wq h w a b v) (F : fs h h' l) (h0 : w ∉ l) (h1 : a ∉ l) (h2 : b ∉ l) : wq h' w a b v := by
  obtain ⟨⟨s, e⟩, V⟩ := W
  exact ⟨⟨s, (F w h0).trans e⟩, nv_fs V F h1 h2⟩
theorem wq_fr {h h' : hp_H} {w a b v u : Nat} (W : wq h w a b v) (F : fr h h' a b) (h1 : w ≠ a) (h2 : w ≠ b) (V : nv h' a b u) : wq h' w a b u := by
  obtain ⟨⟨s, e⟩, -⟩ := W
  exact ⟨⟨s, (F w h1 h2).trans e⟩, V⟩
theorem nv_nr {h : hp_H} {a b v : Nat} (V : nv h a b v) : ∃ c g, nr h a b c g := by
  obtain ⟨c, g, H, -⟩ := V
  exact ⟨c, g, H.1⟩
/-- the sign: negative unless it is 0 -/
theorem takeSign_eq {h : hp_H} {w a b v : Nat} (W : wq h w a b v) (N : List.Nodup [w, a, b]) {s : Int32} (hs : s = 0 ∨ s = 1) : ∃ h', fX4_takeSign w s h = some h' ∧ wz h' w a b (if s = 0 then (v : Int) else -(v : Int)) ∧ fs h h' [w, a, b] := by
  have key : ∀ t : Int32, (t = sI (if s = 0 then (v : Int) else -(v : Int))) → hp_bo t → ∃ h', bX4_takeSign_20 w t h = some h' ∧ wz h' w a b (if s = 0 then (v : Int) else -(v : Int)) ∧ fs h h' [w, a, b] := by
    intro t ht hb
    obtain ⟨h', e1, e2, e3, F⟩ := wq_ps W (nd N 1 0) (nd N 2 0) t
    refine ⟨h', ?_, ⟨by rw [e2, ht], ?_⟩, F.fs (by simp) (by simp)⟩
    · unfold bX4_takeSign_20
      rw [if_pos hb, e1, Option.bind_some]
    · have : (if s = 0 then (v : Int) else -(v : Int)).natAbs = v := by split <;> omega
      rw [this]; exact e3
  unfold fX4_takeSign
  rw [if_pos (wq_o W)]
  rcases hs with rfl | rfl
  · rw [if_pos rfl]
    unfold bX4_takeSign_19
    exact key 0 (by simp [sI]) (Or.inl rfl)
  · rw [if_neg (by decide), wq_a W, Option.bind_some, isZero_v W.2, Option.bind_some]
    by_cases h0 : v = 0
    · rw [if_pos h0, if_neg (by decide)]
      unfold bX4_takeSign_19
      exact key 0 (by subst h0; simp [sI]) (Or.inl rfl)
    · rw [if_neg h0, if_pos rfl]
      exact key 1 (by
        rw [if_neg (show ¬ (1 : Int32) = 0 by decide), sI, if_pos (by omega)]) (Or.inr rfl)
theorem wtake_eq {h : hp_H} {w a b v x ax bx : Nat} {z : Int} (W : wq h w a b v) (X : wz h x ax bx z) (N : List.Nodup [w, a, b]) (h1 : x ∉ [w, a, b]) (h2 : ax ∉ [w, a, b]) (h3 : bx ∉ [w, a, b]) : ∃ h', fX4_take w x h = some h' ∧ wz h' w a b z ∧ fs h h' [w, a, b] := by
  obtain ⟨c, g, T⟩ := nv_nr W.2
  obtain ⟨h6, e1, V6, F6⟩ := take_eq T X.2 (nm h2 1) (nm h2 2) (nm h3 1) (nm h3 2)
  have W6 := wq_fr W F6 (nd N 0 1) (nd N 0 2) V6
  have X6 := wz_fs X (F6.fs (l := [w, a, b]) (by simp) (by simp)) h1 h2 h3
  obtain ⟨h9, e2, e3, V9, F9⟩ := wq_ps W6 (nd N 1 0) (nd N 2 0) (sI z)
  refine ⟨h9, ?_, ⟨e3, V9⟩, (F6.fs (by simp) (by simp)).tr (F9.fs (by simp) (by simp))⟩
  unfold fX4_take
  rw [if_pos (wq_o W), wq_a W, Option.bind_some, wq_a (wz_q X), Option.bind_some, e1, Option.bind_some, wz_s X6, Option.bind_some, if_pos (sI_bo z), e2, Option.bind_some]
theorem takeLong_eq {h : hp_H} {w a b v : Nat} (W : wq h w a b v) (N : List.Nodup [w, a, b]) (x : Int64) : ∃ h', fX4_takeLong w x h = some h' ∧ wz h' w a b x.toInt ∧ fs h h' [w, a, b] := by
  obtain ⟨r1, r2⟩ := lI_rg x
  obtain ⟨c, g, T⟩ := nv_nr W.2
  have ex : x = lI x.toInt := lI_of x
  obtain ⟨u, hu, eu1, eu2⟩ : ∃ u : Nat, u < 18446744073709551616 ∧ u = x.toInt.natAbs ∧ (if (0 : Int64) ≤ x then x else -x) = lN u := by
    refine ⟨x.toInt.natAbs, by omega, rfl, ?_⟩
    rw [lN_lI]
    generalize x.toInt = z at *
    subst ex
    rw [show (0 : Int64) = lI 0 from rfl]
    by_cases h0 : 0 ≤ z
    · rw [if_pos ((lI_le (by omega) (by omega) r1 r2).mpr h0)]; congr 1; omega
    · rw [if_neg (fun q => h0 ((lI_le (by omega) (by omega) r1 r2).mp q)), lI_neg]; congr 1; omega
  obtain ⟨h2, e1, V2, F2⟩ := takeUnsigned_eq T hu
  have W2 := wq_fr W F2 (nd N 0 1) (nd N 0 2) V2
  obtain ⟨h', e2, e3, V3, F3⟩ := wq_ps W2 (nd N 1 0) (nd N 2 0) (sI x.toInt)
  refine ⟨h', ?_, ⟨e3, by rw [← eu1]; exact V3⟩, (F2.fs (by simp) (by simp)).tr (F3.fs (by simp) (by simp))⟩
  have hle : (0 : Int64) ≤ x ↔ 0 ≤ x.toInt := by rw [Int64.le_iff_toInt_le]; rfl
  have e16 : bX4_takeLong_16 w x a (lN u) h = some h' := by
    unfold bX4_takeLong_16 bX4_takeLong_31
    rw [e1, Option.bind_some]
    by_cases h0 : (0 : Int64) ≤ x
    · have : sI x.toInt = 0 := by rw [sI_0]; have := hle.mp h0; omega
      rw [this] at e2
      rw [if_pos h0, if_pos (Or.inl rfl), e2, Option.bind_some]
    · have : sI x.toInt = 1 := by
        unfold sI; rw [if_pos]
        have : ¬ (0 : Int) ≤ x.toInt := fun q => h0 (hle.mpr q)
        omega
      rw [this] at e2
      rw [if_neg h0, if_pos (Or.inr rfl), e2, Option.bind_some]
  unfold fX4_takeLong
  rw [if_pos (wq_o W), wq_a W, Option.bind_some]
  by_cases h0 : (0 : Int64) ≤ x
  · rw [if_pos h0] at eu2 ⊢
    rw [← eu2] at e16; exact e16
  · rw [if_neg h0] at eu2 ⊢
    rw [← eu2] at e16; exact e16

/-! sums and products -/
theorem wsum_eq {h : hp_H} {w a b v x ax bx y ay b2 : Nat} {zx zy : Int} (W : wq h w a b v) (X : wz h x ax bx zx) (Y : wz h y ay b2 zy) (N : List.Nodup [w, a, b]) (x1 : x ∉ [w, a, b]) (x2 : ax ∉ [w, a, b]) (x3 : bx ∉ [w, a, b]) (y1 : y ∉ [w, a, b]) (y2 : ay ∉ [w, a, b]) (y3 : b2 ∉ [w, a, b]) (hx : bl zx.natAbs ≤ 4170) (hy : bl zy.natAbs ≤ 4170) {s : Int32} (hs : s = 0 ∨ s = 1) :
    ∃ h', fX4_takeSum w x y s h = some h' ∧ wz h' w a b (zx + (if s = 0 then (zy.natAbs : Int) else -(zy.natAbs : Int))) ∧ fs h h' [w, a, b] := by
  obtain ⟨c, g, T⟩ := nv_nr W.2
  have ha : a ∈ [w, a, b] := by simp
  have hb : b ∈ [w, a, b] := by simp
  have hsx : sI zx = 0 ∨ sI zx = 1 := sI_bo zx
  unfold fX4_takeSum
  rw [if_pos (wq_o W), wz_s X, Option.bind_some]
  by_cases h0 : sI zx = s
  · rw [if_pos h0, wq_a W, Option.bind_some, wq_a (wz_q X), Option.bind_some, wq_a (wz_q Y), Option.bind_some]
    obtain ⟨h40, e1, V1, F1⟩ := takeSum_eq T X.2 Y.2 hx hy (nm x2 2) (nm x3 2) (nm y2 2) (nm y3 2)
    obtain ⟨h42, e2, Z2, F2⟩ := takeSign_eq (wq_fr W F1 (nd N 0 1) (nd N 0 2) V1) N hs
    rw [e1, Option.bind_some, e2, Option.bind_some]
    refine ⟨h42, rfl, ?_, (F1.fs ha hb).tr F2⟩
    have e3 : (if s = 0 then ((zx.natAbs + zy.natAbs : Nat) : Int) else -((zx.natAbs + zy.natAbs : Nat) : Int)) = zx + (if s = 0 then (zy.natAbs : Int) else -(zy.natAbs : Int)) := by
      subst h0
      by_cases hz : zx < 0
      · rw [if_neg (by rw [sI_0]; omega), if_neg (by rw [sI_0]; omega)]; omega
      · rw [if_pos (by rw [sI_0]; omega), if_pos (by rw [sI_0]; omega)]; omega
    rw [← e3]; exact Z2
  · have hop : ∀ (p q : Int), (if s = 0 then p else q) = (if zx < 0 then p else q) := by
      intro p q
      by_cases hz : zx < 0
      · have e : sI zx = 1 := by unfold sI; rw [if_pos hz]
        have : s = 0 := by rcases hs with q | q; exact q; exact absurd (e.trans q.symm) h0
        rw [if_pos this, if_pos hz]
      · have e : sI zx = 0 := by rw [sI_0]; exact hz
        have : ¬ s = 0 := fun q => h0 (e.trans q.symm)
        rw [if_neg this, if_neg hz]
    rw [if_neg h0, wq_a (wz_q X), Option.bind_some, wq_a (wz_q Y), Option.bind_some, order_eq X.2 Y.2, Option.bind_some]
    by_cases hl : zx.natAbs < zy.natAbs
    · rw [cmpI, if_pos hl, if_pos (by decide), wq_a W, Option.bind_some, Option.bind_some, Option.bind_some]
      obtain ⟨h18, e1, V1, F1⟩ := takeDifference_eq T Y.2 X.2 (by omega) (nm y2 2) (nm y3 2) (Or.inl ⟨nm x2 2, nm x3 2⟩)
      obtain ⟨h20, e2, Z2, F2⟩ := takeSign_eq (wq_fr W F1 (nd N 0 1) (nd N 0 2) V1) N hs
      rw [e1, Option.bind_some, e2, Option.bind_some]
      refine ⟨h20, rfl, ?_, (F1.fs ha hb).tr F2⟩
      rw [hop] at Z2 ⊢
      have e3 : (if zx < 0 then ((zy.natAbs - zx.natAbs : Nat) : Int) else -((zy.natAbs - zx.natAbs : Nat) : Int)) = zx + (if zx < 0 then (zy.natAbs : Int) else -(zy.natAbs : Int)) := by
        split <;> omega
      rw [← e3]; exact Z2
    · have hc : ¬ cmpI zx.natAbs zy.natAbs < 0 := by
        unfold cmpI; rw [if_neg hl]; split <;> decide
      rw [if_neg hc, wq_a W, Option.bind_some, Option.bind_some, Option.bind_some]
      obtain ⟨h28, e1, V1, F1⟩ := takeDifference_eq T X.2 Y.2 (by omega) (nm x2 2) (nm x3 2) (Or.inl ⟨nm y2 2, nm y3 2⟩)
      obtain ⟨h32, e2, Z2, F2⟩ := takeSign_eq (wq_fr W F1 (nd N 0 1) (nd N 0 2) V1) N hsx
      have X28 := wz_fs X (F1.fs ha hb) x1 x2 x3
      rw [e1, Option.bind_some, wz_s X28, Option.bind_some, e2, Option.bind_some]
      refine ⟨h32, rfl, ?_, (F1.fs ha hb).tr F2⟩
      rw [hop]
      have e3 : (if sI zx = 0 then ((zx.natAbs - zy.natAbs : Nat) : Int) else -((zx.natAbs - zy.natAbs : Nat) : Int)) = zx + (if zx < 0 then (zy.natAbs : Int) else -(zy.natAbs : Int)) := by
        by_cases hz : zx < 0
        · rw [if_neg (by rw [sI_0]; omega), if_pos hz]; omega
        · rw [if_pos (by rw [sI_0]; omega), if_neg hz]; omega
      rw [← e3]; exact Z2
theorem wprod_eq {h : hp_H} {w a b v x ax bx y ay b2 : Nat} {zx zy : Int} (W : wq h w a b v) (X : wz h x ax bx zx) (Y : wz h y ay b2 zy) (N : List.Nodup [w, a, b]) (x1 : x ∉ [w, a, b]) (x2 : ax ∉ [w, a, b]) (x3 : bx ∉ [w, a, b]) (y1 : y ∉ [w, a, b]) (y2 : ay ∉ [w, a, b]) (y3 : b2 ∉ [w, a, b]) :
    (bl zx.natAbs + bl zy.natAbs ≤ 4097 → ∃ h', fX4_takeProduct w x y h = some (1, h') ∧ wz h' w a b (zx * zy) ∧ fs h h' [w, a, b]) ∧ (¬ bl zx.natAbs + bl zy.natAbs ≤ 4097 → fX4_takeProduct w x y h = some (0, h)) := by
  obtain ⟨c, g, T⟩ := nv_nr W.2
  have ha : a ∈ [w, a, b] := by simp
  have hb : b ∈ [w, a, b] := by simp
  have l1 := nv_lt X.2
  have l2 := nv_lt Y.2
  have e0 : fX4_takeProduct w x y h = if (nI (bl zx.natAbs + bl zy.natAbs)) ≤ (4097 : Int32) then
      (fX2_takeProduct a ax ay h).bind fun h17 => (hp_gi h17 x 4 1).bind fun v18 => (hp_gi h17 y 4 1).bind fun v20 => if v18 = v20 then bX4_takeProduct_55 w 0 h17 else bX4_takeProduct_55 w 1 h17
      else some (0, h) := by
    unfold fX4_takeProduct
    rw [if_pos (wq_o W), wq_a (wz_q X), Option.bind_some, bitLength_eq X.2, Option.bind_some, wq_a (wz_q Y), Option.bind_some, bitLength_eq Y.2, Option.bind_some, nI_add, wq_a W, Option.bind_some, Option.bind_some, Option.bind_some]
  have hle : nI (bl zx.natAbs + bl zy.natAbs) ≤ (4097 : Int32) ↔ bl zx.natAbs + bl zy.natAbs ≤ 4097 := nI_leI (b := 4097) (by omega) (by omega)
  refine ⟨fun hk => ?_, fun hk => by rw [e0, if_neg (fun q => hk (hle.mp q))]⟩
  rw [e0, if_pos (hle.mpr hk)]
  obtain ⟨h17, e1, V1, F1⟩ := takeProduct_eq T X.2 Y.2 hk (nm x2 2) (nm x3 2) (nm y2 2) (nm y3 2)
  have F1' := F1.fs ha hb
  have W17 := wq_fr W F1 (nd N 0 1) (nd N 0 2) V1
  rw [e1, Option.bind_some, wz_s (wz_fs X F1' x1 x2 x3), Option.bind_some, wz_s (wz_fs Y F1' y1 y2 y3), Option.bind_some]
  have fin : ∀ s : Int32, (s = 0 ∨ s = 1) → (if s = 0 then ((zx.natAbs * zy.natAbs : Nat) : Int) else -((zx.natAbs * zy.natAbs : Nat) : Int)) = zx * zy → ∃ h', bX4_takeProduct_55 w s h17 = some (1, h') ∧ wz h' w a b (zx * zy) ∧ fs h h' [w, a, b] := by
    intro s hs e3
    obtain ⟨h2, e2, Z2, F2⟩ := takeSign_eq W17 N hs
    refine ⟨h2, ?_, by rw [← e3]; exact Z2, F1'.tr F2⟩
    unfold bX4_takeProduct_55
    rw [e2, Option.bind_some]
  have hab : ∀ z : Int, z = if z < 0 then -(z.natAbs : Int) else (z.natAbs : Int) := fun z => by split <;> omega
  by_cases h0 : sI zx = sI zy
  · rw [if_pos h0]
    refine fin 0 (Or.inl rfl) ?_
    rw [if_pos rfl, Int.natCast_mul]
    by_cases hz : zx < 0
    · have hy : zy < 0 := by
        rcases Int.lt_or_le zy 0 with q | q
        · exact q
        · exfalso
          have : sI zy = 0 := by rw [sI_0]; omega
          rw [this, sI_0] at h0; omega
      have e1 : (zx.natAbs : Int) = -zx := by omega
      have e2 : (zy.natAbs : Int) = -zy := by omega
      rw [e1, e2, Int.neg_mul_neg]
    · have hy : ¬ zy < 0 := by
        have : sI zx = 0 := by rw [sI_0]; exact hz
        rw [this] at h0
        exact (sI_0 zy).mp h0.symm
      have e1 : (zx.natAbs : Int) = zx := by omega
      have e2 : (zy.natAbs : Int) = zy := by omega
      rw [e1, e2]
  · rw [if_neg h0]
    refine fin 1 (Or.inr rfl) ?_
    rw [if_neg (by decide), Int.natCast_mul]
    by_cases hz : zx < 0
    · have hy : ¬ zy < 0 := fun q => h0 (by unfold sI; rw [if_pos hz, if_pos q])
      have e1 : (zx.natAbs : Int) = -zx := by omega
      have e2 : (zy.natAbs : Int) = zy := by omega
      rw [e1, e2, Int.neg_mul, Int.neg_neg]
    · have hy : zy < 0 := by
        rcases Int.lt_or_le zy 0 with q | q
        · exact q
        · exact absurd (by unfold sI; rw [if_neg hz, if_neg (by omega)]) h0
      have e1 : (zx.natAbs : Int) = zx := by omega
      have e2 : (zy.natAbs : Int) = -zy := by omega
      rw [e1, e2, Int.mul_neg, Int.neg_neg]
