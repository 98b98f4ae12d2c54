/-! WholeNumbers: the root -/
def sq : Nat → Nat
  | 0 => 0
  | n + 1 => if (sq n + 1) * (sq n + 1) ≤ n + 1 then sq n + 1 else sq n
theorem sq_spec : ∀ n, sq n * sq n ≤ n ∧ n < (sq n + 1) * (sq n + 1)
  | 0 => by decide
  | n + 1 => by
    obtain ⟨h1, h2⟩ := sq_spec n
    unfold sq
    by_cases h : (sq n + 1) * (sq n + 1) ≤ n + 1
    · rw [if_pos h]
      refine ⟨h, ?_⟩
      have e : (sq n + 1 + 1) * (sq n + 1 + 1) = (sq n + 1) * (sq n + 1) + 2 * sq n + 3 := by grind
      omega
    · rw [if_neg h]; omega
theorem sq_uniq {n s : Nat} (h1 : s * s ≤ n) (h2 : n < (s + 1) * (s + 1)) : sq n = s := by
  obtain ⟨g1, g2⟩ := sq_spec n
  rcases Nat.lt_trichotomy (sq n) s with h | h | h
  · exfalso
    have := Nat.mul_le_mul (show sq n + 1 ≤ s from h) (show sq n + 1 ≤ s from h)
    omega
  · exact h
  · exfalso
    have := Nat.mul_le_mul (show s + 1 ≤ sq n from h) (show s + 1 ≤ sq n from h)
    omega
/-- Newton's step stays above the root -/
theorem nw_ge {X g s : Nat} (hg : 0 < g) (hs : s * s ≤ X) : s ≤ (g + X / g) / 2 := by
  have h : 2 * s ≤ g + X / g := by
    by_cases q : 2 * s ≤ g
    · exact Nat.le_trans q (Nat.le_add_right _ _)
    · have h1 : (2 * s - g) * g ≤ X := by
        obtain ⟨d, hd⟩ : ∃ d, 2 * s = g + d := ⟨2 * s - g, by omega⟩
        rw [show 2 * s - g = d by omega]
        refine Nat.le_trans ?_ hs
        have e1 : 4 * (s * s) = (g + d) * (g + d) := by rw [← hd]; grind
        have e2 : 4 * (d * g) ≤ (g + d) * (g + d) := by
          rcases Nat.le_total g d with q | q
          · obtain ⟨c, rfl⟩ := Nat.le.dest q
            have : (g + (g + c)) * (g + (g + c)) = 4 * ((g + c) * g) + c * c := by grind
            omega
          · obtain ⟨c, rfl⟩ := Nat.le.dest q
            have : (d + c + d) * (d + c + d) = 4 * (d * (d + c)) + c * c := by grind
            omega
        omega
      have h2 : 2 * s - g ≤ X / g := (Nat.le_div_iff_mul_le hg).mpr h1
      omega
  omega
/-- and comes at least half way nearer to it -/
theorem nw_le {X g s : Nat} (hs : X < (s + 1) * (s + 1)) (hg : s < g) : (g + X / g) / 2 ≤ (g + s) / 2 := by
  have h : X / g ≤ s := by
    have : X / g < s + 1 := (Nat.div_lt_iff_lt_mul (by omega)).mpr (Nat.lt_of_lt_of_le hs (Nat.mul_le_mul_left _ hg))
    omega
  omega
theorem root_loop {z n x bx X s : Nat} {R : Nat → Int} {T : Nat → Nat} (hx : x < z + 26) (hbx : bx < z + 26) (hX0 : X ≠ 0) (hX : bl X ≤ 4096) (hs1 : s * s ≤ X) (hs2 : X < (s + 1) * (s + 1)) (hs0 : 0 < s) : ∀ (d j f g : Nat) (h : hp_H), g - s < 2 ^ d → s ≤ g → bl g ≤ 2060 → j + d ≤ 4090 → d + 1 < f → cs h z R T n → nv h x bx X → wz h (z + 26) (z + 27) (z + 28) g →
    ∃ h', bX5_takeRoot_53 z x (z + 27) (z + 30) f (nI j) h = some h' ∧ cs h' z R T n ∧ wz h' (z + 26) (z + 27) (z + 28) s
  | d, j, f + 1, g, h, hd, hsg, hg, hj, hf, C, Xn, W => by
    simp only [bX5_takeRoot_53]
    rw [if_neg (fun q => by have := (nI_leI (a := 4096) (b := j) (by omega) (by omega)).mp q; omega), cs_3 C, Option.bind_some]
    have D := C.2.2.2.2.1
    obtain ⟨D0, ⟨wq0, Q0⟩, ⟨wr0, R0⟩, ⟨wv0, V0⟩⟩ := D
    have out : ∀ p, p < z + 32 → p ∉ [z + 32, z + 33, z + 34, z + 35, z + 36, z + 37, z + 38] := fun p hp => by
      simp only [List.mem_cons, List.not_mem_nil, or_false]; omega
    have out2 : ∀ p, (p < z + 33 ∨ z + 39 ≤ p) → p ∉ [z + 33, z + 34, z + 35, z + 36, z + 37, z + 38] := fun p hp => by
      simp only [List.mem_cons, List.not_mem_nil, or_false]; omega
    have Gn : nv h (z + 27) (z + 28) g := W.2
    obtain ⟨h5, wv', p1, D5, Q5, R5, V5, F5⟩ := split_eq D0 Q0 R0 V0 Xn Gn (by omega) (by omega) (by omega) (by simp) (out _ (by omega)) (out _ (by omega)) (out _ (by omega)) (out _ (by omega))
    have C5 : cs h5 z R T n := cs_euc C F5 (fun p hp => by simp only [List.mem_cons, List.not_mem_nil, or_false] at hp; omega) ⟨D5, ⟨_, Q5⟩, ⟨_, R5⟩, ⟨_, V5⟩⟩ (ce_fs C.2.2.2.2.2.1 F5 (fun p q1 q2 => out2 p (by omega)))
    have X5 : nv h5 x bx X := nv_fs Xn F5 (out2 _ (by omega)) (out2 _ (by omega))
    have W5 : wz h5 (z + 26) (z + 27) (z + 28) g := wz_fs W F5 (out2 _ (by omega)) (out2 _ (by omega)) (out2 _ (by omega))
    have G5 : nv h5 (z + 27) (z + 28) g := W5.2
    obtain ⟨v2, W2⟩ := C5.2.2.2.1
    obtain ⟨cc, gg, Tr⟩ := nv_nr W2.2
    have lq : bl (X / g) ≤ 4096 := Nat.le_trans (bl_mono (Nat.div_le_self _ _)) hX
    obtain ⟨h11, p2, V11, F11⟩ := takeSum_eq Tr G5 Q5 (by omega) (by omega) (by omega) (by omega) (by omega) (by omega)
    obtain ⟨C11, -⟩ := cs_n2 C5 F11 V11
    obtain ⟨c1, g1, Tr1⟩ := nv_nr V11
    obtain ⟨h13, p3, V13, F13⟩ := shiftDown_eq Tr1 V11 (n := 1) (by omega) (Or.inr ⟨rfl, rfl⟩)
    obtain ⟨C13, -⟩ := cs_n2 C11 F13 V13
    have F513 : fr h5 h13 (z + 30) (z + 31) := F11.tr F13
    have X13 : nv h13 x bx X := nv_fr X5 F513 (by omega) (by omega) (by omega) (by omega)
    have G13 : nv h13 (z + 27) (z + 28) g := nv_fr G5 F513 (by omega) (by omega) (by omega) (by omega)
    have S13 : h13 (z + 26) = h5 (z + 26) := F513 _ (by omega) (by omega)
    have W13 : wz h13 (z + 26) (z + 27) (z + 28) g := ⟨S13.trans W5.1, G13⟩
    have V13' : nv h13 (z + 30) (z + 31) ((g + X / g) / 2) := V13
    rw [p1, Option.bind_some, cs_3 C5, Option.bind_some, ds_q D5, Option.bind_some, p2, Option.bind_some, ni1, p3, Option.bind_some, order_eq V13' G13, Option.bind_some]
    have a1 := nw_ge (X := X) (g := g) (s := s) (by omega) hs1
    unfold cmpI
    by_cases hlt : (g + X / g) / 2 < g
    · rw [if_pos hlt, if_pos (by decide)]
      have hsg2 : s < g := by omega
      have a2 := nw_le (X := X) (g := g) (s := s) hs2 hsg2
      obtain ⟨c3, g3, Tr3⟩ := nv_nr G13
      obtain ⟨h18, p4, V18, F18⟩ := take_eq Tr3 V13' (by omega) (by omega) (by omega) (by omega)
      obtain ⟨C18, -⟩ := cs_n1 C13 F18 V18
      have X18 : nv h18 x bx X := nv_fr X13 F18 (by omega) (by omega) (by omega) (by omega)
      have W18 : wz h18 (z + 26) (z + 27) (z + 28) (((g + X / g) / 2 : Nat) : Int) := ⟨(F18 _ (by omega) (by omega)).trans (by
        rw [W13.1]; unfold sI; rw [if_neg (by omega), if_neg (by omega)]), V18⟩
      rw [p4, Option.bind_some, Option.bind_some, nI_add]
      match d, hd, hj, hf with
      | 0, hd, _, _ => exact absurd hd (by rw [Nat.pow_zero]; omega)
      | d + 1, hd, hj, hf =>
        exact root_loop hx hbx hX0 hX hs1 hs2 hs0 d (j + 1) f ((g + X / g) / 2) h18 (by rw [Nat.pow_succ] at hd; omega) a1 (Nat.le_trans (bl_mono (Nat.le_of_lt hlt)) hg) (by omega) (by omega) C18 X18 W18
    · have hgs : g = s := by
        rcases Nat.lt_or_ge s g with q | q
        · have a2 := nw_le (X := X) (g := g) (s := s) hs2 q
          omega
        · omega
      rw [if_neg hlt, if_neg (by split <;> decide)]
      rw [hgs] at W13
      exact ⟨h13, rfl, C13, W13⟩
