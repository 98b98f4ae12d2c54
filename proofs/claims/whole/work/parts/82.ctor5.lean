/-! CONSTRUCTOR: WholeNumbers (laid by wip/ctor5.py) -/
theorem gr_at {h : hp_H} {a ci k v : Nat} {fs : List Value} (ha : h a = some (.inr (.inr (.inr (ci, fs))))) (hk : fs[k]? = some (.ref v)) : hp_gr h a ci k = some v := by
  unfold hp_gr hp_gv
  simp [ha, hk]
def jW (h : hp_H) (a : Nat) : hp_H := iW (va_up h a (some (.inr (.inr (.inr (4, [.null, .int 0])))))) a (a + 1)
theorem jW_at {h : hp_H} {a q : Nat} {e : hp_C} (hq : q < a) (h1 : h q = some e) : jW h a q = some e := by
  unfold jW iW
  rw [va_up_ne _ _ (by omega)]
  exact jN_at (by omega) (by rw [va_up_ne _ _ (by omega)]; exact h1)
theorem jW_0 (h : hp_H) (a : Nat) : jW h a a = some (.inr (.inr (.inr (4, [.ref (a + 1), .int 0])))) := va_up_self _ _ _
def jD (h : hp_H) (a : Nat) : hp_H := iD (va_up h a (some (.inr (.inr (.inr (1, [.null, .null, .null])))))) a (a + 1)
theorem jD_at {h : hp_H} {a q : Nat} {e : hp_C} (hq : q < a) (h1 : h q = some e) : jD h a q = some e := by
  unfold jD iD
  rw [va_up_ne _ _ (by omega)]
  refine jN_at (by omega) ?_
  rw [va_up_ne _ _ (by omega)]
  refine jN_at (by omega) ?_
  rw [va_up_ne _ _ (by omega)]
  refine jN_at (by omega) ?_
  rw [va_up_ne _ _ (by omega)]
  exact h1
def jE (h : hp_H) (a : Nat) : hp_H := iE (va_up h a (some (.inr (.inr (.inr (0, [.null, .null, .long 0, .long 0, .long 0, .long 0])))))) a (a + 1)
theorem jE_at {h : hp_H} {a q : Nat} {e : hp_C} (hq : q < a) (h1 : h q = some e) : jE h a q = some e := by
  unfold jE iE
  rw [va_up_ne _ _ (by omega)]
  refine jN_at (by omega) ?_
  rw [va_up_ne _ _ (by omega)]
  refine jN_at (by omega) ?_
  rw [va_up_ne _ _ (by omega)]
  exact h1
def jT (h : hp_H) (a : Nat) : hp_H := iT (va_up h a (some (.inr (.inr (.inr (3, [.null, .int 0])))))) a (a + 1)
theorem jT_at {h : hp_H} {a q : Nat} {e : hp_C} (hq : q < a) (h1 : h q = some e) : jT h a q = some e := by
  unfold jT iT
  rw [va_up_ne _ _ (by omega), va_up_ne _ _ (by omega), va_up_ne _ _ (by omega)]
  exact h1
/-- the registers' references, once i of them are made -/
def fR (n : Nat) : Nat → Nat → Option Nat
  | 0 => fun _ => none
  | i + 1 => va_up (fR n i) i (some (n + 1 + 3 * i))
/-- the heap, once i registers are made -/
def jL (h : hp_H) (x n : Nat) : Nat → hp_H
  | 0 => va_up (va_up h n (some (.inr (.inr (.inl (8, fun _ => none)))))) x (some (.inr (.inr (.inr (5, [.ref n, .null, .null, .null, .null, .null])))))
  | i + 1 => va_up (jW (jL h x n i) (n + 1 + 3 * i)) n (some (.inr (.inr (.inl (8, fR n (i + 1))))))
theorem jL_n {h : hp_H} {x n : Nat} (hx : x < n) : ∀ i, jL h x n i n = some (.inr (.inr (.inl (8, fR n i))))
  | 0 => by
    show va_up _ _ _ _ = _
    rw [va_up_ne _ _ (by omega), va_up_self]; rfl
  | i + 1 => va_up_self _ _ _
theorem jL_x {h : hp_H} {x n : Nat} (hx : x < n) : ∀ i, jL h x n i x = some (.inr (.inr (.inr (5, [.ref n, .null, .null, .null, .null, .null]))))
  | 0 => va_up_self _ _ _
  | i + 1 => by
    show va_up _ _ _ _ = _
    rw [va_up_ne _ _ (by omega)]
    exact jW_at (by omega) (jL_x hx i)
def k1 (h : hp_H) (x n : Nat) : hp_H := va_up (jW (jL h x n 8) (n + 25)) x (some (.inr (.inr (.inr (5, [.ref n, .ref (n + 25), .null, .null, .null, .null])))))
def k2 (h : hp_H) (x n : Nat) : hp_H := va_up (jW (k1 h x n) (n + 28)) x (some (.inr (.inr (.inr (5, [.ref n, .ref (n + 25), .ref (n + 28), .null, .null, .null])))))
def k3 (h : hp_H) (x n : Nat) : hp_H := va_up (jD (k2 h x n) (n + 31)) x (some (.inr (.inr (.inr (5, [.ref n, .ref (n + 25), .ref (n + 28), .ref (n + 31), .null, .null])))))
def k4 (h : hp_H) (x n : Nat) : hp_H := va_up (jE (k3 h x n) (n + 38)) x (some (.inr (.inr (.inr (5, [.ref n, .ref (n + 25), .ref (n + 28), .ref (n + 31), .ref (n + 38), .null])))))
def k5 (h : hp_H) (x n : Nat) : hp_H := va_up (jT (k4 h x n) (n + 43)) x (some (.inr (.inr (.inr (5, [.ref n, .ref (n + 25), .ref (n + 28), .ref (n + 31), .ref (n + 38), .ref (n + 43)])))))
def rmX5_init : Room := { frames := 3, cells := 45, slots := 6266, locals := 53 }
theorem in5_X4 : ∀ w ∈ wsX40, w ∈ wsX5_init := by decide +kernel
theorem in5_X1 : ∀ w ∈ wsX10, w ∈ wsX5_init := by decide +kernel
theorem in5_X0 : ∀ w ∈ wsX00, w ∈ wsX5_init := by decide +kernel
theorem in5_X3 : ∀ w ∈ wsX30, w ∈ wsX5_init := by decide +kernel
theorem in5_X5 : ∀ w ∈ wsX50, w ∈ wsX5_init := by decide +kernel
set_option maxHeartbeats 4000000 in
set_option maxRecDepth 100000 in
theorem wX5_init_40 {p : Program} {l : Launch} {e : Env} {s : State} {m : MethodId} {args : Array Value} {below : List Frame} {meth : Method} {c : Code} {G : hp_G} {h : hp_H} {x n : Nat} (X : hp_X p s m args meth c cX5_init 2 RX5 wsX5_init none G) (NW : hp_NW s ∧ va_AO RX4 s) (hi : meth.name = "<init>") (hxn : x < n) {H : Heap} {locs : List Loc} {ls : Array Slot} (Z : hp_Z G (jL h x n 8) (hp_U h n) s H locs (n + 25)) (hl : lv_has ls 2 [(0, .ref x)]) : W p l e rmX5_init s m args below meth c H locs 25 1160 (MQ below (va_Qv (fun u => u = k5 h x n) (hp_B2 G (hp_U h n) (n + 45)) (hp_A (hp_U h n))) args s 45 6266 (hp_A (hp_U h n))) (F0 m 40 ls []) := by
  refine lv_aload_n X.1 X.2.1 dX5_init_40 rfl (lv_at hl 0 rfl) ?_
  refine hz_new X Z (C := RX4) (T := TX4) (N := 2) (ci := 4) (ty := tyX4) (fs := [.null, .int 0]) rfl in5_X4 tyX4_ok (by decide +kernel) (by decide +kernel) (by decide +kernel) (fun j hj => by rcases (show j = 0 ∨ j = 1 by omega) with rfl | rfl <;> rfl) (by show _ ≤ 45; omega) (by show _ ≤ 6266; omega) dX5_init_41 (fun H Z => ?_)
  refine lv_dup X.1 X.2.1 dX5_init_44 rfl ?_
  refine hz_cv Z (hz_runIN X Z NW (As := []) (k := 0) (zX4_init l G (va_up_self _ _ _)) NW.1.1 gX5_init_X4_init_n15 rfl rfl rfl (by decide +kernel) (by decide +kernel) rfl (by decide +kernel) ⟨Nat.le_of_ble_eq_true rfl, Nat.le_of_ble_eq_true rfl⟩ rfl hl.1 rfl (Nat.le_of_ble_eq_true rfl) dX5_init_45 ⟨by show _ ≤ 45; omega, by show _ ≤ 6266; omega⟩) (fun H locs Z => ?_)
  refine hz_putF X Z hi (C := RX5) (T := TX5) (N := 6) (ci := 5) (k := 1) (a := x) (v := .ref (n + 25)) (ty0 := tyX5) rfl in5_X5 tyX5_ok nmX5 (by decide) (by decide +kernel) rfl rfl rfl rfl (pv_at (jW_at (show x < n + 25 by omega) (jL_x hxn 8)) (Nat.le_of_ble_eq_true rfl)) dX5_init_48 (fun H locs Z => ?_)
  refine lv_aload_n X.1 X.2.1 dX5_init_51 rfl (lv_at hl 0 rfl) ?_
  refine hz_new X Z (C := RX4) (T := TX4) (N := 2) (ci := 4) (ty := tyX4) (fs := [.null, .int 0]) rfl in5_X4 tyX4_ok (by decide +kernel) (by decide +kernel) (by decide +kernel) (fun j hj => by rcases (show j = 0 ∨ j = 1 by omega) with rfl | rfl <;> rfl) (by show _ ≤ 45; omega) (by show _ ≤ 6266; omega) dX5_init_52 (fun H Z => ?_)
  refine lv_dup X.1 X.2.1 dX5_init_55 rfl ?_
  refine hz_cv Z (hz_runIN X Z NW (As := []) (k := 0) (zX4_init l G (va_up_self _ _ _)) NW.1.1 gX5_init_X4_init_n15 rfl rfl rfl (by decide +kernel) (by decide +kernel) rfl (by decide +kernel) ⟨Nat.le_of_ble_eq_true rfl, Nat.le_of_ble_eq_true rfl⟩ rfl hl.1 rfl (Nat.le_of_ble_eq_true rfl) dX5_init_56 ⟨by show _ ≤ 45; omega, by show _ ≤ 6266; omega⟩) (fun H locs Z => ?_)
  refine hz_putF X Z hi (C := RX5) (T := TX5) (N := 6) (ci := 5) (k := 2) (a := x) (v := .ref (n + 28)) (ty0 := tyX5) rfl in5_X5 tyX5_ok nmX5 (by decide) (by decide +kernel) rfl rfl rfl rfl (pv_at (jW_at (show x < n + 28 by omega) (va_up_self _ _ _)) (Nat.le_of_ble_eq_true rfl)) dX5_init_59 (fun H locs Z => ?_)
  refine lv_aload_n X.1 X.2.1 dX5_init_62 rfl (lv_at hl 0 rfl) ?_
  refine hz_new X Z (C := RX1) (T := TX1) (N := 3) (ci := 1) (ty := tyX1) (fs := [.null, .null, .null]) rfl in5_X1 tyX1_ok (by decide +kernel) (by decide +kernel) (by decide +kernel) (fun j hj => by rcases (show j = 0 ∨ j = 1 ∨ j = 2 by omega) with rfl | rfl | rfl <;> rfl) (by show _ ≤ 45; omega) (by show _ ≤ 6266; omega) dX5_init_63 (fun H Z => ?_)
  refine lv_dup X.1 X.2.1 dX5_init_66 rfl ?_
  refine hz_cv Z (hz_runIN X Z NW (As := []) (k := 0) (zX1_init l G (va_up_self _ _ _)) NW.1.2.2.1 gX5_init_X1_init_n25 rfl rfl rfl (by decide +kernel) (by decide +kernel) rfl (by decide +kernel) ⟨Nat.le_of_ble_eq_true rfl, Nat.le_of_ble_eq_true rfl⟩ rfl hl.1 rfl (Nat.le_of_ble_eq_true rfl) dX5_init_67 ⟨by show _ ≤ 45; omega, by show _ ≤ 6266; omega⟩) (fun H locs Z => ?_)
  refine hz_putF X Z hi (C := RX5) (T := TX5) (N := 6) (ci := 5) (k := 3) (a := x) (v := .ref (n + 31)) (ty0 := tyX5) rfl in5_X5 tyX5_ok nmX5 (by decide) (by decide +kernel) rfl rfl rfl rfl (pv_at (jD_at (show x < n + 31 by omega) (va_up_self _ _ _)) (Nat.le_of_ble_eq_true rfl)) dX5_init_70 (fun H locs Z => ?_)
  refine lv_aload_n X.1 X.2.1 dX5_init_73 rfl (lv_at hl 0 rfl) ?_
  refine hz_new X Z (C := RX0) (T := TX0) (N := 6) (ci := 0) (ty := tyX0) (fs := [.null, .null, .long 0, .long 0, .long 0, .long 0]) rfl in5_X0 tyX0_ok (by decide +kernel) (by decide +kernel) (by decide +kernel) (fun j hj => by rcases (show j = 0 ∨ j = 1 ∨ j = 2 ∨ j = 3 ∨ j = 4 ∨ j = 5 by omega) with rfl | rfl | rfl | rfl | rfl | rfl <;> rfl) (by show _ ≤ 45; omega) (by show _ ≤ 6266; omega) dX5_init_74 (fun H Z => ?_)
  refine lv_dup X.1 X.2.1 dX5_init_77 rfl ?_
  refine hz_cv Z (hz_runIN X Z NW (As := []) (k := 0) (zX0_init l G (va_up_self _ _ _)) NW.1.2.2.2.2.2.2 gX5_init_X0_init_n32 rfl rfl rfl (by decide +kernel) (by decide +kernel) rfl (by decide +kernel) ⟨Nat.le_of_ble_eq_true rfl, Nat.le_of_ble_eq_true rfl⟩ rfl hl.1 rfl (Nat.le_of_ble_eq_true rfl) dX5_init_78 ⟨by show _ ≤ 45; omega, by show _ ≤ 6266; omega⟩) (fun H locs Z => ?_)
  refine hz_putF X Z hi (C := RX5) (T := TX5) (N := 6) (ci := 5) (k := 4) (a := x) (v := .ref (n + 38)) (ty0 := tyX5) rfl in5_X5 tyX5_ok nmX5 (by decide) (by decide +kernel) rfl rfl rfl rfl (pv_at (jE_at (show x < n + 38 by omega) (va_up_self _ _ _)) (Nat.le_of_ble_eq_true rfl)) dX5_init_81 (fun H locs Z => ?_)
  refine lv_aload_n X.1 X.2.1 dX5_init_84 rfl (lv_at hl 0 rfl) ?_
  refine hz_new X Z (C := RX3) (T := TX3) (N := 2) (ci := 3) (ty := tyX3) (fs := [.null, .int 0]) rfl in5_X3 tyX3_ok (by decide +kernel) (by decide +kernel) (by decide +kernel) (fun j hj => by rcases (show j = 0 ∨ j = 1 by omega) with rfl | rfl <;> rfl) (by show _ ≤ 45; omega) (by show _ ≤ 6266; omega) dX5_init_85 (fun H Z => ?_)
  refine lv_dup X.1 X.2.1 dX5_init_88 rfl ?_
  refine hz_cv Z (hz_runIN X Z NW (As := []) (k := 0) (zX3_init l G (va_up_self _ _ _)) NW.1.2.2.2.2.2.1 gX5_init_X3_init_n39 rfl rfl rfl (by decide +kernel) (by decide +kernel) rfl (by decide +kernel) ⟨Nat.le_of_ble_eq_true rfl, Nat.le_of_ble_eq_true rfl⟩ rfl hl.1 rfl (Nat.le_of_ble_eq_true rfl) dX5_init_89 ⟨by show _ ≤ 45; omega, by show _ ≤ 6266; omega⟩) (fun H locs Z => ?_)
  refine hz_putF X Z hi (C := RX5) (T := TX5) (N := 6) (ci := 5) (k := 5) (a := x) (v := .ref (n + 43)) (ty0 := tyX5) rfl in5_X5 tyX5_ok nmX5 (by decide) (by decide +kernel) rfl rfl rfl rfl (pv_at (jT_at (show x < n + 43 by omega) (va_up_self _ _ _)) (Nat.le_of_ble_eq_true rfl)) dX5_init_92 (fun H locs Z => ?_)
  refine W.widen (k := 45) (n := 6266) (by omega) (by omega) ?_
  exact hz_rv X Z rfl dX5_init_95
set_option maxHeartbeats 4000000 in
set_option maxRecDepth 100000 in
theorem wX5_init_15 {p : Program} {l : Launch} {e : Env} {s : State} {m : MethodId} {args : Array Value} {below : List Frame} {meth : Method} {c : Code} {G : hp_G} {h : hp_H} {x n : Nat} (X : hp_X p s m args meth c cX5_init 2 RX5 wsX5_init none G) (NW : hp_NW s ∧ va_AO RX4 s) (hi : meth.name = "<init>") (hxn : x < n) : ∀ (f i : Nat) {H : Heap} {locs : List Loc} {ls : Array Slot}, i + f = 8 → hp_Z G (jL h x n i) (hp_U h n) s H locs (n + 1 + 3 * i) → lv_has ls 2 [(1, .int (nI i)), (0, .ref x)] → W p l e rmX5_init s m args below meth c H locs (1 + 3 * i) (8 + 144 * i) (MQ below (va_Qv (fun u => u = k5 h x n) (hp_B2 G (hp_U h n) (n + 45)) (hp_A (hp_U h n))) args s 45 6266 (hp_A (hp_U h n))) (F0 m 15 ls [])
  | f, i, H, locs, ls, he, Z, hl => by
    refine lv_iload_n X.1 X.2.1 dX5_init_15 rfl (lv_at hl 0 rfl) ?_
    refine lv_bipush (v := 8) X.1 X.2.1 dX5_init_16 (by decide) ?_
    refine lv_icmp_ge (tgt := 40) X.1 X.2.1 dX5_init_18 (by decide) (fun c1 => ?_) (fun c1 => ?_)
    · have h8 : 8 ≤ i := (nI_leI (a := 8) (by omega) (by omega)).mp c1
      have e8 : i = 8 := by omega
      subst e8
      exact wX5_init_40 X NW hi hxn Z (lv_sub hl [1] rfl)
    · have h8 : i < 8 := by
        rcases Nat.lt_or_ge i 8 with q | q
        · exact q
        · exact absurd ((nI_leI (a := 8) (by omega) (by omega)).mpr q) c1
      obtain ⟨g, rfl⟩ : ∃ g, f = g + 1 := ⟨f - 1, by omega⟩
      refine lv_aload_n X.1 X.2.1 dX5_init_21 rfl (lv_at hl 1 rfl) ?_
      refine hp_getr X Z.1 (C := RX5) (T := TX5) (N := 6) (ci := 5) (k := 0) (v := n) rfl in5_X5 (by decide) (by decide +kernel) (gr_at (jL_x hxn i) rfl) dX5_init_22 ?_
      refine lv_iload_n X.1 X.2.1 dX5_init_25 rfl (lv_at hl 0 rfl) ?_
      refine hz_new X Z (C := RX4) (T := TX4) (N := 2) (ci := 4) (ty := tyX4) (fs := [.null, .int 0]) rfl in5_X4 tyX4_ok (by decide +kernel) (by decide +kernel) (by decide +kernel) (fun j hj => by rcases (show j = 0 ∨ j = 1 by omega) with rfl | rfl <;> rfl) (by show _ ≤ 45; omega) (by show _ ≤ 6266; omega) dX5_init_26 (fun H Z => ?_)
      refine lv_dup X.1 X.2.1 dX5_init_29 rfl ?_
      refine hz_cv Z (hz_runIN X Z NW (As := []) (k := 0) (zX4_init l G (va_up_self _ _ _)) NW.1.1 gX5_init_X4_init_n15 rfl rfl rfl (by decide +kernel) (by decide +kernel) rfl (by decide +kernel) ⟨Nat.le_of_ble_eq_true rfl, Nat.le_of_ble_eq_true rfl⟩ rfl hl.1 rfl (Nat.le_of_ble_eq_true rfl) dX5_init_30 ⟨by show _ ≤ 45; omega, by show _ ≤ 6266; omega⟩) (fun H locs Z => ?_)
      refine hz_aast X Z (a := n) (v := n + 1 + 3 * i) (N' := 8) (f := fR n i) (jW_at (show n < n + 1 + 3 * i by omega) (jL_n hxn i)) (jW_0 _ _) (i := nI i) (fun q => q.elim (fun q => nI_lt0 (by omega) q) (fun q => by rw [nI_cl (by omega)] at q; omega)) dX5_init_33 (fun H locs Z => ?_)
      rw [nI_cl (by omega)] at Z
      refine lv_iinc (v := nI (i + 1)) (lv' := [(1, .int (nI (i + 1))), (0, .ref x)]) X.1 X.2.1 dX5_init_34 hl (k := 0) rfl (by rw [← nI_add]; rfl) (by decide) rfl (fun ls hl => ?_)
      refine lv_goto (tgt := 15) X.1 X.2.1 dX5_init_37 (by decide) ?_
      refine W.widen (k := 1 + 3 * (i + 1)) (n := 8 + 144 * (i + 1)) (by omega) (by omega) ?_
      exact wX5_init_15 X NW hi hxn g (i + 1) (by omega) Z hl
  termination_by f => f
set_option maxHeartbeats 4000000 in
set_option maxRecDepth 100000 in
theorem zX5_init (l : Launch) (G : hp_G) {x n : Nat} {h : hp_H} (hx : h x = some (.inr (.inr (.inr (5, [.null, .null, .null, .null, .null, .null]))))) : Met l yX5_init wsX5_init rmX5_init (va_Pc [.ref x] (hp_S2 G h n)) (va_Qv (fun u => u = k5 h x n) (hp_B2 G (hp_U h n) (n + 45)) (hp_A (hp_U h n))) 45 6266 (hp_A (hp_U h n)) := by
  refine hz_met (cc := cX5_init) (nL := 2) (ret := none) (by decide) rfl rfl ?_
  intro p e s m below meth c X Z NW hi
  have hl := lv_entry ([.ref x]) (n := 2) (Nat.le_of_ble_eq_true rfl)
  rw [lg_entry_eq]
  generalize (lg_sl ([.ref x]) ++ List.replicate (2 - (lg_sl ([.ref x])).length) Slot.unset).toArray = ls at hl ⊢
  have hl : lv_has ls 2 [(0, .ref x)] := hl
  have hxn := Z.lt hx
  refine lv_aload_n X.1 X.2.1 dX5_init_0 rfl (lv_at hl 0 rfl) ?_
  refine W.objInit X.1 X.2.1 X.2.2.2.1 (X.2.2.2.2.1 (.methodLink RX5 3 objectInit) (by decide +kernel)) (X.2.2.2.2.1 (.instanceMethod objectInit) (by decide +kernel)) (X.2.2.2.2.1 _ (List.mem_of_getElem? (i := 3) rfl)) rfl (by rw [X.2.2.1]; exact hl.1) rfl dX5_init_1 (Nat.le_of_ble_eq_true rfl) (Nat.le_of_ble_eq_true rfl) ?_
  refine W.eq (g2 := F0 m 4 ls []) rfl ?_
  refine lv_aload_n X.1 X.2.1 dX5_init_4 rfl (lv_at hl 0 rfl) ?_
  refine lv_bipush (v := 8) X.1 X.2.1 dX5_init_5 (by decide) ?_
  refine hz_newq X Z (by decide +kernel) NW.2 (N' := 8) (by decide) rfl (by decide) (by decide) (by decide) dX5_init_7 (fun H Z => ?_)
  refine hz_putF X Z hi (C := RX5) (T := TX5) (N := 6) (ci := 5) (k := 0) (a := x) (v := .ref n) (ty0 := tyX5) rfl in5_X5 tyX5_ok nmX5 (by decide) (by decide +kernel) rfl rfl rfl rfl (pv_at (by rw [va_up_ne _ _ (by omega)]; exact hx) (Nat.le_of_ble_eq_true rfl)) dX5_init_10 (fun H locs Z => ?_)
  refine lv_iconst (v := 0) X.1 X.2.1 dX5_init_13 (by decide) ?_
  refine lv_istore_n (lv' := [(1, .int (nI 0)), (0, .ref x)]) X.1 X.2.1 dX5_init_14 rfl hl (by decide) rfl (fun ls hl => ?_)
  exact wX5_init_15 X NW hi hxn 8 0 rfl Z hl
