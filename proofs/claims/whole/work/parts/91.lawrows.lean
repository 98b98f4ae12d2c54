/-! THE LAW'S WORLD: the class's heap, the reference's heap, the array of one long (laid by wip/lawrows.py) -/
def hU0 (s : State) : hp_H := hp_U (fun _ => none) s.heap.size
theorem hU0_A {s : State} {q : Nat} (h : hp_A (hU0 s) q) : s.heap.size ≤ q := by
  by_cases w : s.heap.size ≤ q
  · exact w
  · exact absurd (show hU0 s q = none from if_neg w) h
def LI (G : hp_G) (s : State) (y w : Nat) (hC hM : hp_H) (f : Nat → Int64) (H : Heap) (locs : List Loc) : Prop :=
  hp_P G hC H ∧ hp_P G hM H ∧ va_at G.1 vwCl (w, hp_E G.2 (.inr (.inl (1, f)))) H ∧ (∀ q, hC q ≠ none → s.heap.size ≤ q ∧ q < y) ∧ (∀ q, hM q ≠ none → y ≤ q ∧ q < w) ∧ s.heap.size ≤ y ∧ y < w ∧ va_S (hp_A (hU0 s)) s.heap H locs
section LIS
variable {G : hp_G} {s : State} {y w : Nat} {hC hC' hM hM' : hp_H} {f f' : Nat → Int64} {H H1 : Heap} {locs locs1 : List Loc}
theorem LI.yC (I : LI G s y w hC hM f H locs) : hp_Y G hC (hU0 s) s H locs := ⟨I.1, fun q hq => hp_U_ge (I.2.2.2.1 q hq).1, I.2.2.2.2.2.2.2⟩
theorem LI.yM (I : LI G s y w hC hM f H locs) : hp_Y G hM (hU0 s) s H locs := ⟨I.2.1, fun q hq => hp_U_ge (Nat.le_trans I.2.2.2.2.2.1 (I.2.2.2.2.1 q hq).1), I.2.2.2.2.2.2.2⟩
theorem LI.nw (I : LI G s y w hC hM f H locs) : hC w = none := by
  refine Classical.byContradiction fun q => ?_
  have h1 := I.2.2.2.1 w q
  have h2 := I.2.2.2.2.2.2.1
  omega
theorem LI.yW (I : LI G s y w hC hM f H locs) : hp_Y G (hcw hC w f) (hU0 s) s H locs := by
  refine ⟨fun a e he => ?_, fun q hq => ?_, I.2.2.2.2.2.2.2⟩
  · by_cases ha : a = w
    · subst ha
      have e1 : e = .inr (.inl (1, f)) := Option.some.inj (he.symm.trans (hcw_w hC a f))
      rw [e1]; exact I.2.2.1
    · unfold hcw at he
      rw [va_up_ne _ _ ha] at he
      exact I.1 a e he
  · by_cases ha : q = w
    · subst ha; exact hp_U_ge (Nat.le_trans I.2.2.2.2.2.1 (Nat.le_of_lt I.2.2.2.2.2.2.1))
    · unfold hcw at hq
      rw [va_up_ne _ _ ha] at hq
      exact I.yC.2.1 q hq
theorem LI.setC (I : LI G s y w hC hM f H locs) (Y : hp_Y G hC' (hU0 s) s H1 locs1) (hle : hp_le hC' hC) (hk : ∀ q : Nat, q < H.size → ¬ hp_A hC q → H1[q]? = H[q]?) : LI G s y w hC' hM f H1 locs1 := by
  obtain ⟨i1, i2, i3, i4, i5, i6, i7, i8⟩ := I
  refine ⟨Y.1, fun a e he => (i2 a e he).kept (hk a (i2 a e he).lt (fun z => ?_)), i3.kept (hk w i3.lt (fun z => ?_)), fun q hq => i4 q (hle q hq), i5, i6, i7, Y.2.2⟩
  · have := i4 a z
    have := i5 a (by rw [he]; exact fun z => nomatch z)
    omega
  · have := i4 w z
    omega
theorem LI.setM (I : LI G s y w hC hM f H locs) (Y : hp_Y G hM' (hU0 s) s H1 locs1) (hle : hp_le hM' hM) (hk : ∀ q : Nat, q < H.size → ¬ hp_A hM q → H1[q]? = H[q]?) : LI G s y w hC hM' f H1 locs1 := by
  obtain ⟨i1, i2, i3, i4, i5, i6, i7, i8⟩ := I
  refine ⟨fun a e he => (i1 a e he).kept (hk a (i1 a e he).lt (fun z => ?_)), Y.1, i3.kept (hk w i3.lt (fun z => ?_)), i4, fun q hq => i5 q (hle q hq), i6, i7, Y.2.2⟩
  · have := i5 a z
    have := i4 a (by rw [he]; exact fun z => nomatch z)
    omega
  · have := i5 w z
    omega
theorem LI.setW (I : LI G s y w hC hM f H locs) (Y : hp_Y G (hcw hC' w f') (hU0 s) s H1 locs1) (hle : hp_le hC' hC) (hk : ∀ q : Nat, q < H.size → ¬ hp_A (hcw hC w f) q → H1[q]? = H[q]?) : LI G s y w hC' hM f' H1 locs1 := by
  have hw := I.nw
  obtain ⟨i1, i2, i3, i4, i5, i6, i7, i8⟩ := I
  have hw' : hC' w = none := Classical.byContradiction fun q => hle w q hw
  refine ⟨hcw_P hw' Y.1, fun a e he => (i2 a e he).kept (hk a (i2 a e he).lt (fun z => ?_)), Y.1 w _ (hcw_w hC' w f'), fun q hq => i4 q (hle q hq), i5, i6, i7, Y.2.2⟩
  have h5 := i5 a (by rw [he]; exact fun z => nomatch z)
  have ha : a ≠ w := by omega
  have h1 : hcw hC w f a ≠ none := z
  unfold hcw at h1
  rw [va_up_ne _ _ ha] at h1
  have := i4 a h1
  omega
end LIS
def bz (x : Int32) : Int32 := if x = 0 then 0 else 1
def jl (a b : Int32) : Int64 := hp_lshl (Int32.toInt64 a) 32 ||| (Int32.toInt64 b &&& 4294967295)
theorem lg_cmp_self (x : Int64) : lg_cmp x x = 0 := by simp [lg_cmp]
section LR
variable {p : Program} {l : Launch} {e : Env} {s : State} {m : MethodId} {below : List Frame} {meth : Method} {c : Code} {b L : Nat} {xs : Nat → Int32} {G : hp_G} {H : Heap} {locs : List Loc} {cells slots : Nat} {Q : State → Prop} {pc : Nat} {ls : Array Slot} {rest : List Value} {lv : List (Nat × Value)}
/-- script[i + k] -/
theorem sc_ld (X : hp_X p s m #[Value.ref b] meth c code 7 RL wsL_law ret G) (hX : va_X b L xs s s.heap) (hbl : b < s.heap.size) (hS : va_S (hp_A (hU0 s)) s.heap H locs) (hl : lv_has ls 7 lv) (q0 q4 : Nat) {i k : Nat} {kc : Int32} (h0 : lv[q0]? = some (0, .ref b)) (h4 : lv[q4]? = some (4, .int (nI i))) (hk : kc = nI k) (hik : i + k < L) (hLb : L ≤ 3072) {dk : Instr}
    (d0 : decode code pc = .ok (.aload_n 0, 1)) (d1 : decode code (pc + 1) = .ok (.iload 4, 2)) (d2 : decode code (pc + 3) = .ok (dk, 1)) (d2k : ∀ {H : Heap} {rest : List Value}, W p l e room_1 s m #[Value.ref b] below meth c H locs cells slots Q (F0 m (pc + 3 + 1) ls (.int kc :: rest)) → W p l e room_1 s m #[Value.ref b] below meth c H locs cells slots Q (F0 m (pc + 3) ls rest)) (d3 : decode code (pc + 4) = .ok (.iadd, 1)) (d4 : decode code (pc + 5) = .ok (.iaload, 1))
    (kk : W p l e room_1 s m #[Value.ref b] below meth c H locs cells slots Q (F0 m (pc + 6) ls (.int (xs (i + k)) :: rest))) : W p l e room_1 s m #[Value.ref b] below meth c H locs cells slots Q (F0 m pc ls rest) := by
  refine lv_aload_n X.1 X.2.1 d0 rfl (lv_at hl q0 h0) ?_
  refine lv_iload X.1 X.2.1 d1 (lv_at hl q4 h4) ?_
  refine d2k ?_
  refine lv_iadd X.1 X.2.1 d3 ?_
  have e1 : nI i + kc = nI (i + k) := by rw [hk, nI_add]
  rw [e1]
  have e2 : (nI (i + k)).toNatClampNeg = i + k := nI_cl (by omega)
  refine va_sld X.1 X.2.1 hX hbl (fun z => by have := hU0_A z; omega) hS (fun q => q.elim (fun q => nI_lt0 (by omega) q) (fun q => by rw [e2] at q; omega)) d4 ?_
  rw [e2]
  exact kk
/-- x != 0 -/
theorem bz_ld (X : hp_X p s m #[Value.ref b] meth c code 7 RL wsL_law ret G) {x : Int32} (t7 : ((pc : Int) + 7 = ((pc + 7 : Nat) : Int))) (t8 : (((pc + 3 + 1 : Nat) : Int) + 4 = ((pc + 8 : Nat) : Int))) (d0 : decode code pc = .ok (.ifCond .eq 7, 3)) (d1 : decode code (pc + 3) = .ok (.iconst 1, 1)) (d2 : decode code (pc + 3 + 1) = .ok (.goto 4, 3)) (d3 : decode code (pc + 7) = .ok (.iconst 0, 1))
    (kk : W p l e room_1 s m #[Value.ref b] below meth c H locs cells slots Q (F0 m (pc + 8) ls (.int (bz x) :: rest))) : W p l e room_1 s m #[Value.ref b] below meth c H locs cells slots Q (F0 m pc ls (.int x :: rest)) := by
  refine lv_if_eq (tgt := pc + 7) X.1 X.2.1 d0 t7 (fun h => ?_) (fun h => ?_)
  · refine lv_iconst (v := 0) X.1 X.2.1 d3 (by decide) ?_
    rw [show bz x = 0 from if_pos h] at kk
    exact kk
  · refine lv_iconst (v := 1) X.1 X.2.1 d1 (by decide) ?_
    refine lv_goto (tgt := pc + 8) X.1 X.2.1 d2 t8 ?_
    rw [show bz x = 1 from if_neg h] at kk
    exact kk
/-- the array's one long -/
theorem hp_lald0 {h h0 : hp_H} (X : hp_X p s m #[Value.ref b] meth c code 7 RL wsL_law ret G) (Y : hp_Y G h h0 s H locs) {a : Nat} {f : Nat → Int64} (ha : h a = some (.inr (.inl (1, f)))) (hdg : decode code pc = .ok (.laload, 1))
    (kk : W p l e room_1 s m #[Value.ref b] below meth c H locs cells slots Q (F0 m (pc + 1) ls (.long (f 0) :: rest))) : W p l e room_1 s m #[Value.ref b] below meth c H locs cells slots Q (F0 m pc ls (.int 0 :: .ref a :: rest)) :=
  va_lald (D := G.1) (cl := vwCl) (ws := [(a, .inl (G.2.2.2.1, 1, .inr (.inl f)))]) (tys := hp_tys G.2) X.1 X.2.1 X.2.2.2.2.2.1 (hp_one (Y.1 a _ ha)) 0 2 rfl rfl (i := 0) (by unfold vp_in; decide) hdg kk
end LR
