/-! THE CLASS'S STATE: the object at z, its 46 cells behind it; registers R, text T of n characters -/
def tx (h : hp_H) (t b : Nat) (T : Nat → Nat) (n : Nat) : Prop := h t = some (.inr (.inr (.inr (3, [.ref b, .int (nI n)])))) ∧ (∃ g : Nat → Nat, h b = some (.inl (1, 4097, fun i => nI (g i))) ∧ ∀ i, i < n → g i = T i) ∧ n ≤ 4097 ∧ ∀ i, i < n → T i < 128
def cs0 (h : hp_H) (z : Nat) : Prop := h z = some (.inr (.inr (.inr (5, [.ref (z + 1), .ref (z + 26), .ref (z + 29), .ref (z + 32), .ref (z + 39), .ref (z + 44)])))) ∧ ∃ rf : Nat → Option Nat, h (z + 1) = some (.inr (.inr (.inl (8, rf)))) ∧ ∀ i, i < 8 → rf i = some (z + 2 + 3 * i)
def csr (h : hp_H) (z : Nat) (R : Nat → Int) : Prop := ∀ k, k < 8 → wz h (z + 2 + 3 * k) (z + 3 + 3 * k) (z + 4 + 3 * k) (R k) ∧ bl (R k).natAbs ≤ 4096
def ce (h : hp_H) (z : Nat) : Prop := ∃ gr gb le lb a b c d wg wl, es h (z + 39) gr le a b c d ∧ nv h gr gb wg ∧ nv h le lb wl ∧ ((gr = z + 40 ∧ gb = z + 41 ∧ le = z + 42 ∧ lb = z + 43) ∨ (gr = z + 42 ∧ gb = z + 43 ∧ le = z + 40 ∧ lb = z + 41))
def cs (h : hp_H) (z : Nat) (R : Nat → Int) (T : Nat → Nat) (n : Nat) : Prop := cs0 h z ∧ csr h z R ∧ (∃ v, wq h (z + 26) (z + 27) (z + 28) v) ∧ (∃ v, wq h (z + 29) (z + 30) (z + 31) v) ∧ dn h (z + 32) (z + 33) (z + 34) (z + 35) (z + 36) (z + 37) (z + 38) ∧ ce h z ∧ tx h (z + 44) (z + 45) T n
theorem cs0_fs {h h' : hp_H} {z : Nat} {l : List Nat} (C : cs0 h z) (F : fs h h' l) (h0 : z ∉ l) (h1 : z + 1 ∉ l) : cs0 h' z := by
  obtain ⟨c1, rf, c2, c3⟩ := C
  exact ⟨(F z h0).trans c1, rf, (F (z + 1) h1).trans c2, c3⟩
theorem csr_fs {h h' : hp_H} {z : Nat} {R : Nat → Int} {l : List Nat} (C : csr h z R) (F : fs h h' l) (h0 : ∀ p, z + 2 ≤ p → p < z + 26 → p ∉ l) : csr h' z R := fun k hk => ⟨wz_fs (C k hk).1 F (h0 _ (by omega) (by omega)) (h0 _ (by omega) (by omega)) (h0 _ (by omega) (by omega)), (C k hk).2⟩
theorem ce_fs {h h' : hp_H} {z : Nat} {l : List Nat} (C : ce h z) (F : fs h h' l) (h0 : ∀ p, z + 39 ≤ p → p < z + 44 → p ∉ l) : ce h' z := by
  obtain ⟨gr, gb, le, lb, a, b, c, d, wg, wl, E, G, L, hh⟩ := C
  refine ⟨gr, gb, le, lb, a, b, c, d, wg, wl, es_fs E F (h0 _ (by omega) (by omega)), nv_fs G F (h0 _ ?_ ?_) (h0 _ ?_ ?_), nv_fs L F (h0 _ ?_ ?_) (h0 _ ?_ ?_), hh⟩ <;> rcases hh with ⟨rfl, rfl, rfl, rfl⟩ | ⟨rfl, rfl, rfl, rfl⟩ <;> omega
theorem tx_fs {h h' : hp_H} {t b n : Nat} {T : Nat → Nat} {l : List Nat} (X : tx h t b T n) (F : fs h h' l) (h0 : t ∉ l) (h1 : b ∉ l) : tx h' t b T n := ⟨(F t h0).trans X.1, X.2.1.elim fun g hg => ⟨g, (F b h1).trans hg.1, hg.2⟩, X.2.2⟩
theorem wq_fs' {h h' : hp_H} {w a b : Nat} {l : List Nat} (W : ∃ v, wq h w a b v) (F : fs h h' l) (h0 : w ∉ l) (h1 : a ∉ l) (h2 : b ∉ l) : ∃ v, wq h' w a b v := by
  obtain ⟨v, W⟩ := W
  exact ⟨v, wq_fs W F h0 h1 h2⟩
/-- the state, where what may have changed lies among the scratch cells or a register -/
theorem cs_fs {h h' : hp_H} {z n : Nat} {R : Nat → Int} {T : Nat → Nat} {l : List Nat} (C : cs h z R T n) (F : fs h h' l) (h0 : ∀ p, p < z + 46 → p ∉ l ∨ (z + 26 ≤ p ∧ p < z + 32)) (W1 : ∃ v, wq h' (z + 26) (z + 27) (z + 28) v) (W2 : ∃ v, wq h' (z + 29) (z + 30) (z + 31) v) : cs h' z R T n := by
  obtain ⟨c0, c1, c2, c3, c4, c5, c6⟩ := C
  have out : ∀ p, p < z + 46 → ¬ (z + 26 ≤ p ∧ p < z + 32) → p ∉ l := fun p hp hn => (h0 p hp).resolve_right hn
  exact ⟨cs0_fs c0 F (out _ (by omega) (by omega)) (out _ (by omega) (by omega)), csr_fs c1 F (fun p q1 q2 => out p (by omega) (by omega)), W1, W2, dn_fs c4 F (out _ (by omega) (by omega)) (out _ (by omega) (by omega)) (out _ (by omega) (by omega)) (out _ (by omega) (by omega)) (out _ (by omega) (by omega)) (out _ (by omega) (by omega)) (out _ (by omega) (by omega)), ce_fs c5 F (fun p q1 q2 => out p (by omega) (by omega)), tx_fs c6 F (out _ (by omega) (by omega)) (out _ (by omega) (by omega))⟩
theorem cs_res {h h' : hp_H} {z n v : Nat} {R : Nat → Int} {T : Nat → Nat} (C : cs h z R T n) (F : fs h h' [z + 26, z + 27, z + 28]) (W : wq h' (z + 26) (z + 27) (z + 28) v) : cs h' z R T n :=
  cs_fs C F (fun p hp => by
    by_cases q : z + 26 ≤ p ∧ p < z + 32
    · exact Or.inr q
    · refine Or.inl ?_
      simp only [List.mem_cons, List.not_mem_nil, or_false]; omega) ⟨v, W⟩ (wq_fs' C.2.2.2.1 F (by simp) (by simp) (by simp))
theorem cs_sec {h h' : hp_H} {z n v : Nat} {R : Nat → Int} {T : Nat → Nat} (C : cs h z R T n) (F : fs h h' [z + 29, z + 30, z + 31]) (W : wq h' (z + 29) (z + 30) (z + 31) v) : cs h' z R T n :=
  cs_fs C F (fun p hp => by
    by_cases q : z + 26 ≤ p ∧ p < z + 32
    · exact Or.inr q
    · refine Or.inl ?_
      simp only [List.mem_cons, List.not_mem_nil, or_false]; omega) (wq_fs' C.2.2.1 F (by simp) (by simp) (by simp)) ⟨v, W⟩
theorem cs_reg {h h' : hp_H} {z n k : Nat} {R : Nat → Int} {T : Nat → Nat} {x : Int} (C : cs h z R T n) (hk : k < 8) (F : fs h h' [z + 2 + 3 * k, z + 3 + 3 * k, z + 4 + 3 * k]) (W : wz h' (z + 2 + 3 * k) (z + 3 + 3 * k) (z + 4 + 3 * k) x) (hb : bl x.natAbs ≤ 4096) : cs h' z (va_up R k x) T n := by
  obtain ⟨c0, c1, c2, c3, c4, c5, c6⟩ := C
  have out : ∀ p, p < z + 2 ∨ z + 26 ≤ p → p ∉ [z + 2 + 3 * k, z + 3 + 3 * k, z + 4 + 3 * k] := fun p hp => by
    simp only [List.mem_cons, List.not_mem_nil, or_false]; omega
  refine ⟨cs0_fs c0 F (out _ (by omega)) (out _ (by omega)), fun j hj => ?_, wq_fs' c2 F (out _ (by omega)) (out _ (by omega)) (out _ (by omega)), wq_fs' c3 F (out _ (by omega)) (out _ (by omega)) (out _ (by omega)), dn_fs c4 F (out _ (by omega)) (out _ (by omega)) (out _ (by omega)) (out _ (by omega)) (out _ (by omega)) (out _ (by omega)) (out _ (by omega)), ce_fs c5 F (fun p q1 q2 => out p (by omega)), tx_fs c6 F (out _ (by omega)) (out _ (by omega))⟩
  by_cases hjk : j = k
  · subst hjk; rw [va_up_self]; exact ⟨W, hb⟩
  · rw [va_up_ne _ _ hjk]
    exact ⟨wz_fs (c1 j hj).1 F (by simp only [List.mem_cons, List.not_mem_nil, or_false]; omega) (by simp only [List.mem_cons, List.not_mem_nil, or_false]; omega) (by simp only [List.mem_cons, List.not_mem_nil, or_false]; omega), (c1 j hj).2⟩
theorem cs_o {h : hp_H} {z n : Nat} {R : Nat → Int} {T : Nat → Nat} (C : cs h z R T n) : hp_o h z 5 = true := by simp [hp_o, C.1.1]
theorem cs_0 {h : hp_H} {z n : Nat} {R : Nat → Int} {T : Nat → Nat} (C : cs h z R T n) : hp_gr h z 5 0 = some (z + 1) := by simp [hp_gr, hp_gv, C.1.1]
theorem cs_1 {h : hp_H} {z n : Nat} {R : Nat → Int} {T : Nat → Nat} (C : cs h z R T n) : hp_gr h z 5 1 = some (z + 26) := by simp [hp_gr, hp_gv, C.1.1]
theorem cs_2 {h : hp_H} {z n : Nat} {R : Nat → Int} {T : Nat → Nat} (C : cs h z R T n) : hp_gr h z 5 2 = some (z + 29) := by simp [hp_gr, hp_gv, C.1.1]
theorem cs_3 {h : hp_H} {z n : Nat} {R : Nat → Int} {T : Nat → Nat} (C : cs h z R T n) : hp_gr h z 5 3 = some (z + 32) := by simp [hp_gr, hp_gv, C.1.1]
theorem cs_4 {h : hp_H} {z n : Nat} {R : Nat → Int} {T : Nat → Nat} (C : cs h z R T n) : hp_gr h z 5 4 = some (z + 39) := by simp [hp_gr, hp_gv, C.1.1]
theorem cs_5 {h : hp_H} {z n : Nat} {R : Nat → Int} {T : Nat → Nat} (C : cs h z R T n) : hp_gr h z 5 5 = some (z + 44) := by simp [hp_gr, hp_gv, C.1.1]
theorem cs_r {h : hp_H} {z n k : Nat} {R : Nat → Int} {T : Nat → Nat} (C : cs h z R T n) (hk : k < 8) : hp_ar h (z + 1) (nI k) = some (z + 2 + 3 * k) := by
  obtain ⟨-, rf, e, hr⟩ := C.1
  have h1 : ¬ nI k < 0 := nI_lt0 (by omega)
  have h2 : (nI k).toNatClampNeg = k := nI_cl (by omega)
  simp [hp_ar, e, h1, h2, hk, hr k hk]
/-- a register's number, if it is one -/
def rg (x : Int32) : Option Nat := if x < 0 ∨ (8 : Int32) ≤ x then none else some x.toNatClampNeg
theorem rg_cases (x : Int32) : (rg x = none ∧ fX5_isRegister x = some 0) ∨ ∃ k, k < 8 ∧ x = nI k ∧ rg x = some k ∧ fX5_isRegister x = some 1 := by
  rcases pk_ix x (n := 8) (by decide) with h | h | ⟨j, hj, rfl⟩
  · refine Or.inl ⟨by unfold rg; rw [if_pos (Or.inl h)], ?_⟩
    unfold fX5_isRegister; rw [if_pos h]
  · have h0 : ¬ x < 0 := by
      intro q
      rw [Int32.lt_iff_toInt_lt] at q
      rw [Int32.le_iff_toInt_le, nI_toInt (by decide)] at h
      have : (0 : Int32).toInt = 0 := rfl
      omega
    have h : (8 : Int32) ≤ x := h
    refine Or.inl ⟨by unfold rg; rw [if_pos (Or.inr h)], ?_⟩
    unfold fX5_isRegister; rw [if_neg h0, if_pos h]
  · have h0 := nI_lt0 (show j < 2147483648 by omega)
    have h1 : ¬ (8 : Int32) ≤ nI j := fun q => by
      have := (nI_leI (a := 8) (b := j) (by omega) (by omega)).mp q; omega
    refine Or.inr ⟨j, hj, rfl, ?_, ?_⟩
    · unfold rg; rw [if_neg (fun q => q.elim h0 h1), nI_cl (by omega)]
    · unfold fX5_isRegister; rw [if_neg h0, if_neg h1]
theorem nodup3 (a : Nat) : List.Nodup [a, a + 1, a + 2] := by simp
theorem are_eq (x y w : Int32) : fX5_areRegisters x y w = some (if (rg x).isSome ∧ (rg y).isSome ∧ (rg w).isSome then 1 else 0) := by
  unfold fX5_areRegisters
  rcases rg_cases x with ⟨e1, e2⟩ | ⟨k, -, -, e1, e2⟩
  · rw [e2, Option.bind_some, if_pos rfl, e1]; simp
  · rw [e2, Option.bind_some, if_neg (by decide), e1]
    rcases rg_cases y with ⟨e3, e4⟩ | ⟨k2, -, -, e3, e4⟩
    · rw [e4, Option.bind_some, if_pos rfl, e3]; simp
    · rw [e4, Option.bind_some, if_neg (by decide), e3]
      rcases rg_cases w with ⟨e5, e6⟩ | ⟨k3, -, -, e5, e6⟩
      · rw [e6, Option.bind_some, if_pos rfl, e5]; simp
      · rw [e6, Option.bind_some, if_neg (by decide), e5]; simp
