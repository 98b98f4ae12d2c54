/-! CONSTRUCTOR: the reference (laid by wip/ctor6.py) -/
theorem gi_at {h : hp_H} {a ci k : Nat} {v : Int32} {fs : List Value} (ha : h a = some (.inr (.inr (.inr (ci, fs))))) (hk : fs[k]? = some (.int v)) : hp_gi h a ci k = some v := by
  unfold hp_gi hp_gv
  simp [ha, hk]
def pw (i : Nat) : Nat := 2 ^ i
theorem pw_suc (i : Nat) : pw i * 2 = pw (i + 1) := (Nat.pow_succ ..).symm
theorem pw_nL {i : Nat} (hi : i ≤ 8000) : nL (pw i) ≤ 700 := nL_7 (Nat.le_trans (bl_le.mpr (show pw i < 2 ^ (i + 1) from Nat.pow_lt_pow_right (by decide) (by omega))) (by omega))
/-- the reference's object while it is made -/
def mb (y : Nat) (ll xn : Int32) : List Value := [.ref (y + 1), .ref (y + 2), .ref (y + 3), .ref (y + 4), .int ll, .ref (y + 5), .ref (y + 6), .ref (y + 7), .int xn, .int 0, .int 0, .int 0, .ref (y + 8), .int 0]
def mi (h : hp_H) (y : Nat) (ll xn : Int32) (F : hp_H) : Prop := h y = some (.inr (.inr (.inr (6, mb y ll xn)))) ∧ ∀ q, q ≠ y → q ≠ y + 4 → q ≠ y + 5 → h q = F q
theorem mi_p8 {h F : hp_H} {y : Nat} {ll xn : Int32} (M : mi h y ll xn F) (v : Int32) : ∃ h', hp_pv h y 6 8 (.int v) = some h' ∧ mi h' y ll v F ∧ fr h h' y y :=
  ⟨_, pv_at M.1 (Nat.le_of_ble_eq_true rfl), ⟨va_up_self _ _ _, fun q h1 h2 h3 => by rw [va_up_ne _ _ h1]; exact M.2 q h1 h2 h3⟩, fun q hq _ => va_up_ne _ _ hq⟩
theorem mi_p4 {h F : hp_H} {y : Nat} {ll xn : Int32} (M : mi h y ll xn F) (v : Int32) : ∃ h', hp_pv h y 6 4 (.int v) = some h' ∧ mi h' y v xn F ∧ fr h h' y y :=
  ⟨_, pv_at M.1 (Nat.le_of_ble_eq_true rfl), ⟨va_up_self _ _ _, fun q h1 h2 h3 => by rw [va_up_ne _ _ h1]; exact M.2 q h1 h2 h3⟩, fun q hq _ => va_up_ne _ _ hq⟩
theorem mi_5 {h h' F : hp_H} {y : Nat} {ll xn : Int32} (M : mi h y ll xn F) (E : fr h h' (y + 5) (y + 5)) : mi h' y ll xn F := ⟨(E y (by omega) (by omega)).trans M.1, fun q h1 h2 h3 => (E q h3 h3).trans (M.2 q h1 h2 h3)⟩
theorem mi_4 {h h' F : hp_H} {y : Nat} {ll xn : Int32} (M : mi h y ll xn F) (E : fr h h' (y + 4) (y + 4)) : mi h' y ll xn F := ⟨(E y (by omega) (by omega)).trans M.1, fun q h1 h2 h3 => (E q h2 h2).trans (M.2 q h1 h2 h3)⟩
/-- the limit, k of its digits copied -/
def pl (h : hp_H) (y k : Nat) : Prop := ∃ g, ar h (y + 4) 320 g ∧ ∀ i, i < k → g i = di LIM i
theorem pl_wr {h : hp_H} {y k : Nat} (P : pl h y k) (hk : k < 320) : ∃ h', hp_si h 0 (y + 4) (nI k) (nI (di LIM k)) = some h' ∧ pl h' y (k + 1) ∧ fr h h' (y + 4) (y + 4) := by
  obtain ⟨g, A, hg⟩ := P
  obtain ⟨h', p1, A1, F1⟩ := ar_wr A hk (by omega) (di LIM k)
  refine ⟨h', p1, ⟨_, A1, fun i hi => ?_⟩, F1⟩
  by_cases e : i = k
  · rw [e, va_up_self]
  · rw [va_up_ne _ _ e]; exact hg i (by omega)
def rmX6_init : Room := { frames := 2, cells := 8, slots := 9096, locals := 47 }
theorem in6_X6 : ∀ w ∈ wsX60, w ∈ wsX6_init := by decide +kernel
theorem l6_22 : Cond.fieldLink RX6 22 (TX6 5).1 (TX6 5).2.1 (TX6 5).2.2.1 ∈ wsX6_init := by decide +kernel
theorem l6_34 : Cond.fieldLink RX6 34 (TX6 8).1 (TX6 8).2.1 (TX6 8).2.2.1 ∈ wsX6_init := by decide +kernel
theorem l6_19 : Cond.fieldLink RX6 19 (TX6 3).1 (TX6 3).2.1 (TX6 3).2.2.1 ∈ wsX6_init := by decide +kernel
theorem l6_42 : Cond.fieldLink RX6 42 (TX6 4).1 (TX6 4).2.1 (TX6 4).2.2.1 ∈ wsX6_init := by decide +kernel
/-- what the constructor leaves -/
def mk6 (F : hp_H) (y : Nat) (u : hp_H) : Prop := mi u y (nI (nL LIM)) (nI (nL LIM)) F ∧ mv u (y + 4) 320 LIM ∧ mv u (y + 5) 700 LIM
theorem hz_rvP {p : Program} {l : Launch} {e : Env} {R : Room} {s : State} {m : MethodId} {args : Array Value} {below : List Frame} {meth : Method} {c : Code} {H : Heap} {locs : List Loc} {cells slots : Nat} {cc : ByteArray} {nL : Nat} {own : String} {Ts : List Cond} {ret : Option FieldType} {G : hp_G} {h h0 : hp_H} {pc : Nat} {ls : Array Slot} (X : hp_X p s m args meth c cc nL own Ts ret G) (Y : hp_Y G h h0 s H locs) {post : hp_H → Prop} (hp : post h) (hr : ret = none) (hdg : decode cc pc = .ok (.return_, 1)) :
    W p l e R s m args below meth c H locs cells slots (MQ below (va_Qv post (hp_B G h0) (hp_A h0)) args s cells slots (hp_A h0)) (F0 m pc ls []) :=
  W.vret X.1 X.2.1 (X.2.2.2.2.2.2.1.trans hr) (fun t ht hW => ⟨⟨h, rfl, hp, by rw [ht]; exact Y.1, va_K.moved hW.alike X.2.2.2.2.2.1, Y.2.1⟩, Y.2.2.F ht⟩) Y.2.2.2.2 hdg X.2.2.2.2.2.2.2
set_option maxHeartbeats 4000000 in
set_option maxRecDepth 100000 in
theorem wX6_init_118 {p : Program} {l : Launch} {e : Env} {s : State} {m : MethodId} {args : Array Value} {below : List Frame} {meth : Method} {c : Code} {G : hp_G} {F hh : hp_H} {y : Nat} (X : hp_X p s m args meth c cX6_init 2 RX6 wsX6_init none G) : ∀ (f i : Nat) {h : hp_H} {H : Heap} {locs : List Loc} {ls : Array Slot}, i + f = nL LIM → hp_Y G h hh s H locs → mi h y 0 (nI (nL LIM)) F → mv h (y + 5) 700 LIM → pl h y i → lv_has ls 2 [(1, .int (nI i)), (0, .ref y)] → W p l e rmX6_init s m args below meth c H locs 8 9096 (MQ below (va_Qv (mk6 F y) (hp_B G hh) (hp_A hh)) args s 8 9096 (hp_A hh)) (F0 m 118 ls [])
  | f, i, h, H, locs, ls, he, Y, M, V, P, hl => by
    have hL := LIM_nL
    refine lv_iload_n X.1 X.2.1 dX6_init_118 rfl (lv_at hl 0 rfl) ?_
    refine lv_aload_n X.1 X.2.1 dX6_init_119 rfl (lv_at hl 1 rfl) ?_
    refine hp_geti X Y (C := RX6) (T := TX6) (N := 14) (ci := 6) (k := 8) (v := nI (nL LIM)) rfl in6_X6 (by decide) l6_34 (gi_at M.1 rfl) dX6_init_120 ?_
    refine lv_icmp_ge (tgt := 144) X.1 X.2.1 dX6_init_123 (by decide) (fun c1 => ?_) (fun c1 => ?_)
    · have h8 : nL LIM ≤ i := (nI_leI (by omega) (by omega)).mp c1
      have e8 : i = nL LIM := by omega
      rw [e8] at P
      refine lv_aload_n X.1 X.2.1 dX6_init_144 rfl (lv_at hl 1 rfl) ?_
      refine lv_aload_n X.1 X.2.1 dX6_init_145 rfl (lv_at hl 1 rfl) ?_
      refine hp_geti X Y (C := RX6) (T := TX6) (N := 14) (ci := 6) (k := 8) (v := nI (nL LIM)) rfl in6_X6 (by decide) l6_34 (gi_at M.1 rfl) dX6_init_146 ?_
      obtain ⟨h4, p4, M4, F4⟩ := mi_p4 M (nI (nL LIM))
      refine hp_put X Y (C := RX6) (T := TX6) (N := 14) (ci := 6) (k := 4) (a := y) (v := .int (nI (nL LIM))) (ty0 := tyX6) rfl in6_X6 tyX6_ok nmX6 (by decide) l6_42 rfl rfl rfl p4 dX6_init_149 (fun H locs Y => ?_)
      obtain ⟨g, A, hg⟩ := P
      exact hz_rvP X Y ⟨M4, ⟨hL, by omega, g, ar_fr A F4 (by omega) (by omega), hg⟩, mv_fr V F4 (by omega) (by omega)⟩ rfl dX6_init_152
    · have h8 : i < nL LIM := by
        rcases Nat.lt_or_ge i (nL LIM) with q | q
        · exact q
        · exact absurd ((nI_leI (by omega) (by omega)).mpr q) c1
      obtain ⟨g, rfl⟩ : ∃ g, f = g + 1 := ⟨f - 1, by omega⟩
      refine lv_aload_n X.1 X.2.1 dX6_init_126 rfl (lv_at hl 1 rfl) ?_
      refine hp_getr X Y (C := RX6) (T := TX6) (N := 14) (ci := 6) (k := 3) (v := y + 4) rfl in6_X6 (by decide) l6_19 (gr_at M.1 rfl) dX6_init_127 ?_
      refine lv_iload_n X.1 X.2.1 dX6_init_130 rfl (lv_at hl 0 rfl) ?_
      refine lv_aload_n X.1 X.2.1 dX6_init_131 rfl (lv_at hl 1 rfl) ?_
      refine hp_getr X Y (C := RX6) (T := TX6) (N := 14) (ci := 6) (k := 5) (v := y + 5) rfl in6_X6 (by decide) l6_22 (gr_at M.1 rfl) dX6_init_132 ?_
      refine lv_iload_n X.1 X.2.1 dX6_init_135 rfl (lv_at hl 0 rfl) ?_
      refine hp_iald X Y (mv_rd V h8) dX6_init_136 ?_
      obtain ⟨h5, p5, P5, F5⟩ := pl_wr P (by omega)
      refine hp_iast X Y p5 dX6_init_137 (fun H locs Y => ?_)
      refine lv_iinc (v := nI (i + 1)) (lv' := [(1, .int (nI (i + 1))), (0, .ref y)]) X.1 X.2.1 dX6_init_138 hl (k := 0) rfl (by rw [← nI_add]; rfl) (by decide) rfl (fun ls hl => ?_)
      refine lv_goto (tgt := 118) X.1 X.2.1 dX6_init_141 (by decide) ?_
      exact wX6_init_118 X g (i + 1) (by omega) Y (mi_4 M F5) (mv_fr V F5 (by omega) (by omega)) P5 hl
  termination_by f => f
set_option maxHeartbeats 4000000 in
set_option maxRecDepth 100000 in
theorem wX6_init_88 {p : Program} {l : Launch} {e : Env} {s : State} {m : MethodId} {args : Array Value} {below : List Frame} {meth : Method} {c : Code} {G : hp_G} {F hh : hp_H} {y : Nat} (X : hp_X p s m args meth c cX6_init 2 RX6 wsX6_init none G) : ∀ (f i : Nat) {h : hp_H} {H : Heap} {locs : List Loc} {ls : Array Slot}, i + f = 4096 → hp_Y G h hh s H locs → mi h y 0 (nI (nL (pw i))) F → mv h (y + 5) 700 (pw i) → pl h y 0 → lv_has ls 2 [(1, .int (nI i)), (0, .ref y)] → W p l e rmX6_init s m args below meth c H locs 8 9096 (MQ below (va_Qv (mk6 F y) (hp_B G hh) (hp_A hh)) args s 8 9096 (hp_A hh)) (F0 m 88 ls [])
  | f, i, h, H, locs, ls, he, Y, M, V, P, hl => by
    refine lv_iload_n X.1 X.2.1 dX6_init_88 rfl (lv_at hl 0 rfl) ?_
    refine lv_sipush (v := 4096) X.1 X.2.1 dX6_init_89 (by decide) ?_
    refine lv_icmp_ge (tgt := 116) X.1 X.2.1 dX6_init_92 (by decide) (fun c1 => ?_) (fun c1 => ?_)
    · have h8 : 4096 ≤ i := (nI_leI (a := 4096) (by omega) (by omega)).mp c1
      have e8 : i = 4096 := by omega
      subst e8
      refine lv_iconst (v := 0) X.1 X.2.1 dX6_init_116 (by decide) ?_
      refine lv_istore_n (lv' := [(1, .int (nI 0)), (0, .ref y)]) X.1 X.2.1 dX6_init_117 rfl hl (by decide) rfl (fun ls hl => ?_)
      exact wX6_init_118 X (nL LIM) 0 (Nat.zero_add _) Y M V P hl
    · have h8 : i < 4096 := by
        rcases Nat.lt_or_ge i 4096 with q | q
        · exact q
        · exact absurd ((nI_leI (a := 4096) (by omega) (by omega)).mpr q) c1
      obtain ⟨g, rfl⟩ : ∃ g, f = g + 1 := ⟨f - 1, by omega⟩
      refine lv_aload_n X.1 X.2.1 dX6_init_95 rfl (lv_at hl 1 rfl) ?_
      refine lv_aload_n X.1 X.2.1 dX6_init_96 rfl (lv_at hl 1 rfl) ?_
      refine hp_getr X Y (C := RX6) (T := TX6) (N := 14) (ci := 6) (k := 5) (v := y + 5) rfl in6_X6 (by decide) l6_22 (gr_at M.1 rfl) dX6_init_97 ?_
      refine lv_aload_n X.1 X.2.1 dX6_init_100 rfl (lv_at hl 1 rfl) ?_
      refine hp_geti X Y (C := RX6) (T := TX6) (N := 14) (ci := 6) (k := 8) (v := nI (nL (pw i))) rfl in6_X6 (by decide) l6_34 (gi_at M.1 rfl) dX6_init_101 ?_
      obtain ⟨h5, p5, V5, F5⟩ := twice_eq V (by rw [pw_suc]; exact pw_nL (by omega))
      rw [pw_suc] at p5 V5
      refine hp_ci Y (hp_runS X Y (As := [.ref (y + 5), .int (nI (nL (pw i)))]) (n := 2) (mX6_twice l G p5) gX6_init_X6_twice rfl rfl rfl ndX6_twice ⟨Nat.le_of_ble_eq_true rfl, Nat.le_of_ble_eq_true rfl⟩ rfl hl.1 rfl (Nat.le_of_ble_eq_true rfl) dX6_init_104 ⟨Nat.le_of_ble_eq_true rfl, Nat.le_of_ble_eq_true rfl⟩) (fun H locs Y => ?_)
      obtain ⟨h8', p8, M8, F8⟩ := mi_p8 (mi_5 M F5) (nI (nL (pw (i + 1))))
      refine hp_put X Y (C := RX6) (T := TX6) (N := 14) (ci := 6) (k := 8) (a := y) (v := .int (nI (nL (pw (i + 1))))) (ty0 := tyX6) rfl in6_X6 tyX6_ok nmX6 (by decide) l6_34 rfl rfl rfl p8 dX6_init_107 (fun H locs Y => ?_)
      refine lv_iinc (v := nI (i + 1)) (lv' := [(1, .int (nI (i + 1))), (0, .ref y)]) X.1 X.2.1 dX6_init_110 hl (k := 0) rfl (by rw [← nI_add]; rfl) (by decide) rfl (fun ls hl => ?_)
      refine lv_goto (tgt := 88) X.1 X.2.1 dX6_init_113 (by decide) ?_
      exact wX6_init_88 X g (i + 1) (by omega) Y M8 (mv_fr V5 F8 (by omega) (by omega)) (P.elim fun g0 hg => ⟨g0, ar_fr (ar_fr hg.1 F5 (by omega) (by omega)) F8 (by omega) (by omega), fun i hi => by omega⟩) hl
  termination_by f => f
def a1 (h : hp_H) (y : Nat) : hp_H := va_up (va_up (h) (y + 1) (some (.inl (0, 2560, fun _ => 0)))) y (some (.inr (.inr (.inr (6, [.ref (y + 1), .null, .null, .null, .int 0, .null, .null, .null, .int 0, .int 0, .int 0, .int 0, .null, .int 0])))))
theorem a1_y (h : hp_H) (y : Nat) : a1 h y y = some (.inr (.inr (.inr (6, [.ref (y + 1), .null, .null, .null, .int 0, .null, .null, .null, .int 0, .int 0, .int 0, .int 0, .null, .int 0])))) := va_up_self _ _ _
def a2 (h : hp_H) (y : Nat) : hp_H := va_up (va_up (a1 h y) (y + 2) (some (.inl (0, 8, fun _ => 0)))) y (some (.inr (.inr (.inr (6, [.ref (y + 1), .ref (y + 2), .null, .null, .int 0, .null, .null, .null, .int 0, .int 0, .int 0, .int 0, .null, .int 0])))))
theorem a2_y (h : hp_H) (y : Nat) : a2 h y y = some (.inr (.inr (.inr (6, [.ref (y + 1), .ref (y + 2), .null, .null, .int 0, .null, .null, .null, .int 0, .int 0, .int 0, .int 0, .null, .int 0])))) := va_up_self _ _ _
def a3 (h : hp_H) (y : Nat) : hp_H := va_up (va_up (a2 h y) (y + 3) (some (.inl (0, 8, fun _ => 0)))) y (some (.inr (.inr (.inr (6, [.ref (y + 1), .ref (y + 2), .ref (y + 3), .null, .int 0, .null, .null, .null, .int 0, .int 0, .int 0, .int 0, .null, .int 0])))))
theorem a3_y (h : hp_H) (y : Nat) : a3 h y y = some (.inr (.inr (.inr (6, [.ref (y + 1), .ref (y + 2), .ref (y + 3), .null, .int 0, .null, .null, .null, .int 0, .int 0, .int 0, .int 0, .null, .int 0])))) := va_up_self _ _ _
def a4 (h : hp_H) (y : Nat) : hp_H := va_up (va_up (a3 h y) (y + 4) (some (.inl (0, 320, fun _ => 0)))) y (some (.inr (.inr (.inr (6, [.ref (y + 1), .ref (y + 2), .ref (y + 3), .ref (y + 4), .int 0, .null, .null, .null, .int 0, .int 0, .int 0, .int 0, .null, .int 0])))))
theorem a4_y (h : hp_H) (y : Nat) : a4 h y y = some (.inr (.inr (.inr (6, [.ref (y + 1), .ref (y + 2), .ref (y + 3), .ref (y + 4), .int 0, .null, .null, .null, .int 0, .int 0, .int 0, .int 0, .null, .int 0])))) := va_up_self _ _ _
def a5 (h : hp_H) (y : Nat) : hp_H := va_up (va_up (a4 h y) (y + 5) (some (.inl (0, 700, fun _ => 0)))) y (some (.inr (.inr (.inr (6, [.ref (y + 1), .ref (y + 2), .ref (y + 3), .ref (y + 4), .int 0, .ref (y + 5), .null, .null, .int 0, .int 0, .int 0, .int 0, .null, .int 0])))))
theorem a5_y (h : hp_H) (y : Nat) : a5 h y y = some (.inr (.inr (.inr (6, [.ref (y + 1), .ref (y + 2), .ref (y + 3), .ref (y + 4), .int 0, .ref (y + 5), .null, .null, .int 0, .int 0, .int 0, .int 0, .null, .int 0])))) := va_up_self _ _ _
def a6 (h : hp_H) (y : Nat) : hp_H := va_up (va_up (a5 h y) (y + 6) (some (.inl (0, 700, fun _ => 0)))) y (some (.inr (.inr (.inr (6, [.ref (y + 1), .ref (y + 2), .ref (y + 3), .ref (y + 4), .int 0, .ref (y + 5), .ref (y + 6), .null, .int 0, .int 0, .int 0, .int 0, .null, .int 0])))))
theorem a6_y (h : hp_H) (y : Nat) : a6 h y y = some (.inr (.inr (.inr (6, [.ref (y + 1), .ref (y + 2), .ref (y + 3), .ref (y + 4), .int 0, .ref (y + 5), .ref (y + 6), .null, .int 0, .int 0, .int 0, .int 0, .null, .int 0])))) := va_up_self _ _ _
def a7 (h : hp_H) (y : Nat) : hp_H := va_up (va_up (a6 h y) (y + 7) (some (.inl (0, 700, fun _ => 0)))) y (some (.inr (.inr (.inr (6, [.ref (y + 1), .ref (y + 2), .ref (y + 3), .ref (y + 4), .int 0, .ref (y + 5), .ref (y + 6), .ref (y + 7), .int 0, .int 0, .int 0, .int 0, .null, .int 0])))))
theorem a7_y (h : hp_H) (y : Nat) : a7 h y y = some (.inr (.inr (.inr (6, [.ref (y + 1), .ref (y + 2), .ref (y + 3), .ref (y + 4), .int 0, .ref (y + 5), .ref (y + 6), .ref (y + 7), .int 0, .int 0, .int 0, .int 0, .null, .int 0])))) := va_up_self _ _ _
def a8 (h : hp_H) (y : Nat) : hp_H := va_up (va_up (a7 h y) (y + 8) (some (.inl (0, 4100, fun _ => 0)))) y (some (.inr (.inr (.inr (6, [.ref (y + 1), .ref (y + 2), .ref (y + 3), .ref (y + 4), .int 0, .ref (y + 5), .ref (y + 6), .ref (y + 7), .int 0, .int 0, .int 0, .int 0, .ref (y + 8), .int 0])))))
theorem a8_y (h : hp_H) (y : Nat) : a8 h y y = some (.inr (.inr (.inr (6, [.ref (y + 1), .ref (y + 2), .ref (y + 3), .ref (y + 4), .int 0, .ref (y + 5), .ref (y + 6), .ref (y + 7), .int 0, .int 0, .int 0, .int 0, .ref (y + 8), .int 0])))) := va_up_self _ _ _
theorem a8_b (h : hp_H) (y : Nat) : a8 h y y = some (.inr (.inr (.inr (6, mb y 0 0)))) := va_up_self _ _ _
theorem a8_1 (h : hp_H) (y : Nat) : a8 h y (y + 1) = some (.inl (0, 2560, fun _ => 0)) := by simp [a8, a7, a6, a5, a4, a3, a2, a1, va_up]
theorem a8_2 (h : hp_H) (y : Nat) : a8 h y (y + 2) = some (.inl (0, 8, fun _ => 0)) := by simp [a8, a7, a6, a5, a4, a3, a2, a1, va_up]
theorem a8_3 (h : hp_H) (y : Nat) : a8 h y (y + 3) = some (.inl (0, 8, fun _ => 0)) := by simp [a8, a7, a6, a5, a4, a3, a2, a1, va_up]
theorem a8_4 (h : hp_H) (y : Nat) : a8 h y (y + 4) = some (.inl (0, 320, fun _ => 0)) := by simp [a8, a7, a6, a5, a4, a3, a2, a1, va_up]
theorem a8_5 (h : hp_H) (y : Nat) : a8 h y (y + 5) = some (.inl (0, 700, fun _ => 0)) := by simp [a8, a7, a6, a5, a4, a3, a2, a1, va_up]
theorem a8_6 (h : hp_H) (y : Nat) : a8 h y (y + 6) = some (.inl (0, 700, fun _ => 0)) := by simp [a8, a7, a6, a5, a4, a3, a2, a1, va_up]
theorem a8_7 (h : hp_H) (y : Nat) : a8 h y (y + 7) = some (.inl (0, 700, fun _ => 0)) := by simp [a8, a7, a6, a5, a4, a3, a2, a1, va_up]
theorem a8_8 (h : hp_H) (y : Nat) : a8 h y (y + 8) = some (.inl (0, 4100, fun _ => 0)) := by simp [a8, a7, a6, a5, a4, a3, a2, a1, va_up]
theorem a8_low {h : hp_H} {y q : Nat} (hq : q < y) : a8 h y q = h q := by
  unfold a8 a7 a6 a5 a4 a3 a2 a1
  repeat rw [va_up_ne _ _ (by omega)]
set_option maxHeartbeats 4000000 in
set_option maxRecDepth 100000 in
theorem zX6_init (l : Launch) (G : hp_G) {y : Nat} {h : hp_H} (hx : h y = some (.inr (.inr (.inr (6, [.null, .null, .null, .null, .int 0, .null, .null, .null, .int 0, .int 0, .int 0, .int 0, .null, .int 0]))))) : Met l yX6_init wsX6_init rmX6_init (va_Pc [.ref y] (hp_S2 G h (y + 1))) (va_Qv (mk6 (a8 h y) y) (hp_B G (hp_U h (y + 1))) (hp_A (hp_U h (y + 1)))) 8 9096 (hp_A (hp_U h (y + 1))) := by
  refine hz_met (cc := cX6_init) (nL := 2) (ret := none) (by decide) rfl rfl ?_
  intro p e s m below meth c X Z NW hi
  have hl := lv_entry ([.ref y]) (n := 2) (Nat.le_of_ble_eq_true rfl)
  rw [lg_entry_eq]
  generalize (lg_sl ([.ref y]) ++ List.replicate (2 - (lg_sl ([.ref y])).length) Slot.unset).toArray = ls at hl ⊢
  have hl : lv_has ls 2 [(0, .ref y)] := hl
  refine lv_aload_n X.1 X.2.1 dX6_init_0 rfl (lv_at hl 0 rfl) ?_
  refine W.objInit X.1 X.2.1 X.2.2.2.1 (X.2.2.2.2.1 (.methodLink RX6 1 objectInit) (by decide +kernel)) (X.2.2.2.2.1 (.instanceMethod objectInit) (by decide +kernel)) (X.2.2.2.2.1 _ (List.mem_of_getElem? (i := 3) rfl)) rfl (by rw [X.2.2.1]; exact hl.1) rfl dX6_init_1 (Nat.le_of_ble_eq_true rfl) (Nat.le_of_ble_eq_true rfl) ?_
  refine W.eq (g2 := F0 m 4 ls []) rfl ?_
  refine lv_aload_n X.1 X.2.1 dX6_init_4 rfl (lv_at hl 0 rfl) ?_
  refine lv_sipush (v := 2560) X.1 X.2.1 dX6_init_5 (by decide) ?_
  refine hz_newa X Z (atype := .int) (ty := .int) (e0 := .inl (0, 2560, fun _ => 0)) (a0 := (2560, .inl (fun _ => 0))) (cA0 := G.2.1) (t0 := 0) (by decide +kernel) rfl rfl rfl (fun _ h => h) (fun _ => rfl) (by decide) rfl (by decide) (by decide) (by decide) dX6_init_8 (fun H Z => ?_)
  refine hz_putF X Z hi (C := RX6) (T := TX6) (N := 14) (ci := 6) (k := 0) (a := y) (v := .ref (y + 1)) (ty0 := tyX6) rfl in6_X6 tyX6_ok nmX6 (by decide) (by decide +kernel) rfl rfl rfl rfl (pv_at (by rw [va_up_ne _ _ (by omega)]; exact hx) (Nat.le_of_ble_eq_true rfl)) dX6_init_10 (fun H locs Z => ?_)
  have Z : hp_Z G (a1 h y) (hp_U h (y + 1)) s H locs (y + 2) := Z
  refine lv_aload_n X.1 X.2.1 dX6_init_13 rfl (lv_at hl 0 rfl) ?_
  refine lv_bipush (v := 8) X.1 X.2.1 dX6_init_14 (by decide) ?_
  refine hz_newa X Z (atype := .int) (ty := .int) (e0 := .inl (0, 8, fun _ => 0)) (a0 := (8, .inl (fun _ => 0))) (cA0 := G.2.1) (t0 := 0) (by decide +kernel) rfl rfl rfl (fun _ h => h) (fun _ => rfl) (by decide) rfl (by decide) (by decide) (by decide) dX6_init_16 (fun H Z => ?_)
  refine hz_putF X Z hi (C := RX6) (T := TX6) (N := 14) (ci := 6) (k := 1) (a := y) (v := .ref (y + 2)) (ty0 := tyX6) rfl in6_X6 tyX6_ok nmX6 (by decide) (by decide +kernel) rfl rfl rfl rfl (pv_at (by rw [va_up_ne _ _ (by omega)]; exact a1_y h y) (Nat.le_of_ble_eq_true rfl)) dX6_init_18 (fun H locs Z => ?_)
  have Z : hp_Z G (a2 h y) (hp_U h (y + 1)) s H locs (y + 3) := Z
  refine lv_aload_n X.1 X.2.1 dX6_init_21 rfl (lv_at hl 0 rfl) ?_
  refine lv_bipush (v := 8) X.1 X.2.1 dX6_init_22 (by decide) ?_
  refine hz_newa X Z (atype := .int) (ty := .int) (e0 := .inl (0, 8, fun _ => 0)) (a0 := (8, .inl (fun _ => 0))) (cA0 := G.2.1) (t0 := 0) (by decide +kernel) rfl rfl rfl (fun _ h => h) (fun _ => rfl) (by decide) rfl (by decide) (by decide) (by decide) dX6_init_24 (fun H Z => ?_)
  refine hz_putF X Z hi (C := RX6) (T := TX6) (N := 14) (ci := 6) (k := 2) (a := y) (v := .ref (y + 3)) (ty0 := tyX6) rfl in6_X6 tyX6_ok nmX6 (by decide) (by decide +kernel) rfl rfl rfl rfl (pv_at (by rw [va_up_ne _ _ (by omega)]; exact a2_y h y) (Nat.le_of_ble_eq_true rfl)) dX6_init_26 (fun H locs Z => ?_)
  have Z : hp_Z G (a3 h y) (hp_U h (y + 1)) s H locs (y + 4) := Z
  refine lv_aload_n X.1 X.2.1 dX6_init_29 rfl (lv_at hl 0 rfl) ?_
  refine lv_sipush (v := 320) X.1 X.2.1 dX6_init_30 (by decide) ?_
  refine hz_newa X Z (atype := .int) (ty := .int) (e0 := .inl (0, 320, fun _ => 0)) (a0 := (320, .inl (fun _ => 0))) (cA0 := G.2.1) (t0 := 0) (by decide +kernel) rfl rfl rfl (fun _ h => h) (fun _ => rfl) (by decide) rfl (by decide) (by decide) (by decide) dX6_init_33 (fun H Z => ?_)
  refine hz_putF X Z hi (C := RX6) (T := TX6) (N := 14) (ci := 6) (k := 3) (a := y) (v := .ref (y + 4)) (ty0 := tyX6) rfl in6_X6 tyX6_ok nmX6 (by decide) (by decide +kernel) rfl rfl rfl rfl (pv_at (by rw [va_up_ne _ _ (by omega)]; exact a3_y h y) (Nat.le_of_ble_eq_true rfl)) dX6_init_35 (fun H locs Z => ?_)
  have Z : hp_Z G (a4 h y) (hp_U h (y + 1)) s H locs (y + 5) := Z
  refine lv_aload_n X.1 X.2.1 dX6_init_38 rfl (lv_at hl 0 rfl) ?_
  refine lv_sipush (v := 700) X.1 X.2.1 dX6_init_39 (by decide) ?_
  refine hz_newa X Z (atype := .int) (ty := .int) (e0 := .inl (0, 700, fun _ => 0)) (a0 := (700, .inl (fun _ => 0))) (cA0 := G.2.1) (t0 := 0) (by decide +kernel) rfl rfl rfl (fun _ h => h) (fun _ => rfl) (by decide) rfl (by decide) (by decide) (by decide) dX6_init_42 (fun H Z => ?_)
  refine hz_putF X Z hi (C := RX6) (T := TX6) (N := 14) (ci := 6) (k := 5) (a := y) (v := .ref (y + 5)) (ty0 := tyX6) rfl in6_X6 tyX6_ok nmX6 (by decide) (by decide +kernel) rfl rfl rfl rfl (pv_at (by rw [va_up_ne _ _ (by omega)]; exact a4_y h y) (Nat.le_of_ble_eq_true rfl)) dX6_init_44 (fun H locs Z => ?_)
  have Z : hp_Z G (a5 h y) (hp_U h (y + 1)) s H locs (y + 6) := Z
  refine lv_aload_n X.1 X.2.1 dX6_init_47 rfl (lv_at hl 0 rfl) ?_
  refine lv_sipush (v := 700) X.1 X.2.1 dX6_init_48 (by decide) ?_
  refine hz_newa X Z (atype := .int) (ty := .int) (e0 := .inl (0, 700, fun _ => 0)) (a0 := (700, .inl (fun _ => 0))) (cA0 := G.2.1) (t0 := 0) (by decide +kernel) rfl rfl rfl (fun _ h => h) (fun _ => rfl) (by decide) rfl (by decide) (by decide) (by decide) dX6_init_51 (fun H Z => ?_)
  refine hz_putF X Z hi (C := RX6) (T := TX6) (N := 14) (ci := 6) (k := 6) (a := y) (v := .ref (y + 6)) (ty0 := tyX6) rfl in6_X6 tyX6_ok nmX6 (by decide) (by decide +kernel) rfl rfl rfl rfl (pv_at (by rw [va_up_ne _ _ (by omega)]; exact a5_y h y) (Nat.le_of_ble_eq_true rfl)) dX6_init_53 (fun H locs Z => ?_)
  have Z : hp_Z G (a6 h y) (hp_U h (y + 1)) s H locs (y + 7) := Z
  refine lv_aload_n X.1 X.2.1 dX6_init_56 rfl (lv_at hl 0 rfl) ?_
  refine lv_sipush (v := 700) X.1 X.2.1 dX6_init_57 (by decide) ?_
  refine hz_newa X Z (atype := .int) (ty := .int) (e0 := .inl (0, 700, fun _ => 0)) (a0 := (700, .inl (fun _ => 0))) (cA0 := G.2.1) (t0 := 0) (by decide +kernel) rfl rfl rfl (fun _ h => h) (fun _ => rfl) (by decide) rfl (by decide) (by decide) (by decide) dX6_init_60 (fun H Z => ?_)
  refine hz_putF X Z hi (C := RX6) (T := TX6) (N := 14) (ci := 6) (k := 7) (a := y) (v := .ref (y + 7)) (ty0 := tyX6) rfl in6_X6 tyX6_ok nmX6 (by decide) (by decide +kernel) rfl rfl rfl rfl (pv_at (by rw [va_up_ne _ _ (by omega)]; exact a6_y h y) (Nat.le_of_ble_eq_true rfl)) dX6_init_62 (fun H locs Z => ?_)
  have Z : hp_Z G (a7 h y) (hp_U h (y + 1)) s H locs (y + 8) := Z
  refine lv_aload_n X.1 X.2.1 dX6_init_65 rfl (lv_at hl 0 rfl) ?_
  refine lv_sipush (v := 4100) X.1 X.2.1 dX6_init_66 (by decide) ?_
  refine hz_newa X Z (atype := .int) (ty := .int) (e0 := .inl (0, 4100, fun _ => 0)) (a0 := (4100, .inl (fun _ => 0))) (cA0 := G.2.1) (t0 := 0) (by decide +kernel) rfl rfl rfl (fun _ h => h) (fun _ => rfl) (by decide) rfl (by decide) (by decide) (by decide) dX6_init_69 (fun H Z => ?_)
  refine hz_putF X Z hi (C := RX6) (T := TX6) (N := 14) (ci := 6) (k := 12) (a := y) (v := .ref (y + 8)) (ty0 := tyX6) rfl in6_X6 tyX6_ok nmX6 (by decide) (by decide +kernel) rfl rfl rfl rfl (pv_at (by rw [va_up_ne _ _ (by omega)]; exact a7_y h y) (Nat.le_of_ble_eq_true rfl)) dX6_init_71 (fun H locs Z => ?_)
  have Z : hp_Z G (a8 h y) (hp_U h (y + 1)) s H locs (y + 9) := Z
  have Y := Z.1
  have M0 : mi (a8 h y) y 0 0 (a8 h y) := ⟨a8_b h y, fun _ _ _ _ => rfl⟩
  refine W.widen (k := 8) (n := 9096) (by decide) (by decide) ?_
  refine lv_aload_n X.1 X.2.1 dX6_init_74 rfl (lv_at hl 0 rfl) ?_
  refine hp_getr X Y (C := RX6) (T := TX6) (N := 14) (ci := 6) (k := 5) (v := y + 5) rfl in6_X6 (by decide) l6_22 (gr_at M0.1 rfl) dX6_init_75 ?_
  refine lv_iconst (v := 0) X.1 X.2.1 dX6_init_78 (by decide) ?_
  refine lv_iconst (v := 1) X.1 X.2.1 dX6_init_79 (by decide) ?_
  obtain ⟨h1, p1, A1, F1⟩ := ar_wr (g := fun _ => 0) (a8_5 h y) (i := 0) (by decide) (by decide) 1
  refine hp_iast X Y p1 dX6_init_80 (fun H locs Y => ?_)
  refine lv_aload_n X.1 X.2.1 dX6_init_81 rfl (lv_at hl 0 rfl) ?_
  refine lv_iconst (v := 1) X.1 X.2.1 dX6_init_82 (by decide) ?_
  obtain ⟨h2, p2, M2, F2⟩ := mi_p8 (mi_5 M0 F1) 1
  refine hp_put X Y (C := RX6) (T := TX6) (N := 14) (ci := 6) (k := 8) (a := y) (v := .int 1) (ty0 := tyX6) rfl in6_X6 tyX6_ok nmX6 (by decide) l6_34 rfl rfl rfl p2 dX6_init_83 (fun H locs Y => ?_)
  refine lv_iconst (v := 0) X.1 X.2.1 dX6_init_86 (by decide) ?_
  refine lv_istore_n (lv' := [(1, .int (nI 0)), (0, .ref y)]) X.1 X.2.1 dX6_init_87 rfl hl (by decide) rfl (fun ls hl => ?_)
  exact wX6_init_88 X 4096 0 rfl Y M2 ⟨by decide, by decide, _, ar_fr A1 F2 (by omega) (by omega), fun i hi => by rw [show i = 0 from Nat.lt_one_iff.mp hi]; rfl⟩ ⟨fun _ => 0, (F2 _ (by omega) (by omega)).trans ((F1 _ (by omega) (by omega)).trans (a8_4 h y)), fun i hi => by omega⟩ hl
theorem ms_new {F h u : hp_H} {y : Nat} (hF : F = a8 h y) (K : mk6 F y u) (T : Nat → Nat) : ms u y (fun _ => 0) T 0 0 := by
  subst hF
  obtain ⟨M, V4, V5⟩ := K
  have e1 : u (y + 1) = _ := (M.2 _ (by omega) (by omega) (by omega)).trans (a8_1 h y)
  have e2 : u (y + 2) = _ := (M.2 _ (by omega) (by omega) (by omega)).trans (a8_2 h y)
  have e3 : u (y + 3) = _ := (M.2 _ (by omega) (by omega) (by omega)).trans (a8_3 h y)
  have e6 : u (y + 6) = _ := (M.2 _ (by omega) (by omega) (by omega)).trans (a8_6 h y)
  have e7 : u (y + 7) = _ := (M.2 _ (by omega) (by omega) (by omega)).trans (a8_7 h y)
  have e8 : u (y + 8) = _ := (M.2 _ (by omega) (by omega) (by omega)).trans (a8_8 h y)
  have Mm : mm u y (fun _ => 0) T 0 (fun j => if j = 0 then nI (nL LIM) else 0) 0 := by
    refine ⟨M.1, ⟨fun _ => 0, fun _ => 0, fun _ => 0, e1, e2, e3, fun k hk => ⟨rfl, rfl, (show bl (0 : Int).natAbs ≤ 4096 by decide), fun i hi => absurd hi (Nat.not_lt_zero i)⟩⟩, V4, ⟨⟨fun _ => 0, e8, fun i hi => by omega⟩, by omega, fun i hi => by omega⟩, fun j hj => ?_⟩
    rcases (show j = 0 ∨ j = 1 ∨ j = 2 by omega) with rfl | rfl | rfl
    · exact mv_ar V5
    · exact ⟨fun _ => 0, e6⟩
    · exact ⟨fun _ => 0, e7⟩
  exact ⟨_, Mm, by simp⟩
