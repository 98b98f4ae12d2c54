/-! CONSTRUCTORS: Natural, Text, Whole, LongDivision, Euclid (laid by wip/ctor.py) -/
theorem pv_at {h : hp_H} {a ci k : Nat} {fs : List Value} {v : Value} (ha : h a = some (.inr (.inr (.inr (ci, fs))))) (hk : k < fs.length) : hp_pv h a ci k v = some (va_up h a (some (.inr (.inr (.inr (ci, fs.set k v)))))) := by
  unfold hp_pv
  rw [ha]
  exact if_pos ⟨rfl, hk⟩
def iN (h : hp_H) (x n : Nat) : hp_H := va_up (va_up h n (some (.inl (0, 140, fun _ => 0)))) x (some (.inr (.inr (.inr (2, [.ref n, .int 0])))))
def iT (h : hp_H) (x n : Nat) : hp_H := va_up (va_up h n (some (.inl (1, 4097, fun _ => 0)))) x (some (.inr (.inr (.inr (3, [.ref n, .int 0])))))
/-- a new Natural at n, its limbs at n + 1 -/
def jN (h : hp_H) (n : Nat) : hp_H := iN (va_up h n (some (.inr (.inr (.inr (2, [.null, .int 0])))))) n (n + 1)
theorem jN_at {h : hp_H} {n q : Nat} {e : hp_C} (hq : q < n) (h1 : h q = some e) : jN h n q = some e := by
  unfold jN iN
  rw [va_up_ne _ _ (by omega), va_up_ne _ _ (by omega), va_up_ne _ _ (by omega)]
  exact h1
theorem jN_0 (h : hp_H) (n : Nat) : jN h n n = some (.inr (.inr (.inr (2, [.ref (n + 1), .int 0])))) := va_up_self _ _ _
theorem jN_1 (h : hp_H) (n : Nat) : jN h n (n + 1) = some (.inl (0, 140, fun _ => 0)) := by
  unfold jN iN
  rw [va_up_ne _ _ (by omega), va_up_self]
def iW (h : hp_H) (x n : Nat) : hp_H := va_up (jN h n) x (some (.inr (.inr (.inr (4, [.ref n, .int 0])))))
def iD (h : hp_H) (x n : Nat) : hp_H := va_up (jN (va_up (jN (va_up (jN h n) x (some (.inr (.inr (.inr (1, [.ref n, .null, .null])))))) (n + 2)) x (some (.inr (.inr (.inr (1, [.ref n, .ref (n + 2), .null])))))) (n + 4)) x (some (.inr (.inr (.inr (1, [.ref n, .ref (n + 2), .ref (n + 4)])))))
def iE (h : hp_H) (x n : Nat) : hp_H := va_up (jN (va_up (jN h n) x (some (.inr (.inr (.inr (0, [.ref n, .null, .long 0, .long 0, .long 0, .long 0])))))) (n + 2)) x (some (.inr (.inr (.inr (0, [.ref n, .ref (n + 2), .long 0, .long 0, .long 0, .long 0])))))
def rmX2_init : Room := { frames := 1, cells := 1, slots := 140, locals := 12 }
set_option maxHeartbeats 4000000 in
set_option maxRecDepth 100000 in
theorem zX2_init (l : Launch) (G : hp_G) {x n : Nat} {h : hp_H} (hx : h x = some (.inr (.inr (.inr (2, [.null, .int 0]))))) : Met l yX2_init wsX2_init rmX2_init (va_Pc [.ref x] (hp_S2 G h n)) (va_Qv (fun u => u = iN h x n) (hp_B2 G (hp_U h n) (n + 1)) (hp_A (hp_U h n))) 1 140 (hp_A (hp_U h n)) := by
  refine hz_met (cc := cX2_init) (nL := 1) (ret := none) (by decide) rfl rfl ?_
  intro p e s m below meth c X Z NW hi
  have hl := lv_entry ([.ref x]) (n := 1) (Nat.le_of_ble_eq_true rfl)
  rw [lg_entry_eq]
  generalize (lg_sl ([.ref x]) ++ List.replicate (1 - (lg_sl ([.ref x])).length) Slot.unset).toArray = ls at hl ⊢
  have hl : lv_has ls 1 [(0, .ref x)] := hl
  have hxn := Z.lt hx
  refine lv_aload_n X.1 X.2.1 dX2_init_0 rfl (lv_at hl 0 rfl) ?_
  refine W.objInit X.1 X.2.1 X.2.2.2.1 (X.2.2.2.2.1 (.methodLink RX2 3 objectInit) (by decide +kernel)) (X.2.2.2.2.1 (.instanceMethod objectInit) (by decide +kernel)) (X.2.2.2.2.1 _ (List.mem_of_getElem? (i := 3) rfl)) rfl (by rw [X.2.2.1]; exact hl.1) rfl dX2_init_1 (Nat.le_of_ble_eq_true rfl) (Nat.le_of_ble_eq_true rfl) ?_
  refine W.eq (g2 := F0 m 4 ls []) rfl ?_
  refine lv_aload_n X.1 X.2.1 dX2_init_4 rfl (lv_at hl 0 rfl) ?_
  refine lv_sipush (v := 140) X.1 X.2.1 dX2_init_5 (by decide) ?_
  refine hz_newa X Z (atype := .int) (ty := .int) (e0 := .inl (0, 140, fun _ => 0)) (a0 := (140, .inl (fun _ => 0))) (cA0 := G.2.1) (t0 := 0) (by decide +kernel) rfl rfl rfl (fun _ h => h) (fun _ => rfl) (by decide) rfl (by decide) (by decide) (by decide) dX2_init_8 (fun H Z => ?_)
  refine hz_putF X Z hi (C := RX2) (T := TX2) (N := 2) (ci := 2) (k := 0) (a := x) (v := .ref n) (ty0 := tyX2) rfl (by decide +kernel) tyX2_ok nmX2 (by decide) (by decide +kernel) rfl rfl rfl rfl (pv_at (by rw [va_up_ne _ _ (by omega)]; exact hx) (Nat.le_of_ble_eq_true rfl)) dX2_init_10 (fun H locs Z => ?_)
  exact hz_rv X Z rfl dX2_init_13
def rmX3_init : Room := { frames := 1, cells := 1, slots := 4097, locals := 12 }
set_option maxHeartbeats 4000000 in
set_option maxRecDepth 100000 in
theorem zX3_init (l : Launch) (G : hp_G) {x n : Nat} {h : hp_H} (hx : h x = some (.inr (.inr (.inr (3, [.null, .int 0]))))) : Met l yX3_init wsX3_init rmX3_init (va_Pc [.ref x] (hp_S2 G h n)) (va_Qv (fun u => u = iT h x n) (hp_B2 G (hp_U h n) (n + 1)) (hp_A (hp_U h n))) 1 4097 (hp_A (hp_U h n)) := by
  refine hz_met (cc := cX3_init) (nL := 1) (ret := none) (by decide) rfl rfl ?_
  intro p e s m below meth c X Z NW hi
  have hl := lv_entry ([.ref x]) (n := 1) (Nat.le_of_ble_eq_true rfl)
  rw [lg_entry_eq]
  generalize (lg_sl ([.ref x]) ++ List.replicate (1 - (lg_sl ([.ref x])).length) Slot.unset).toArray = ls at hl ⊢
  have hl : lv_has ls 1 [(0, .ref x)] := hl
  have hxn := Z.lt hx
  refine lv_aload_n X.1 X.2.1 dX3_init_0 rfl (lv_at hl 0 rfl) ?_
  refine W.objInit X.1 X.2.1 X.2.2.2.1 (X.2.2.2.2.1 (.methodLink RX3 3 objectInit) (by decide +kernel)) (X.2.2.2.2.1 (.instanceMethod objectInit) (by decide +kernel)) (X.2.2.2.2.1 _ (List.mem_of_getElem? (i := 3) rfl)) rfl (by rw [X.2.2.1]; exact hl.1) rfl dX3_init_1 (Nat.le_of_ble_eq_true rfl) (Nat.le_of_ble_eq_true rfl) ?_
  refine W.eq (g2 := F0 m 4 ls []) rfl ?_
  refine lv_aload_n X.1 X.2.1 dX3_init_4 rfl (lv_at hl 0 rfl) ?_
  refine lv_sipush (v := 4097) X.1 X.2.1 dX3_init_5 (by decide) ?_
  refine hz_newa X Z (atype := .char) (ty := .char) (e0 := .inl (1, 4097, fun _ => 0)) (a0 := (4097, .inl (fun _ => 0))) (cA0 := G.2.2.1) (t0 := 1) (by decide +kernel) rfl rfl rfl (fun _ h => h) (fun _ => rfl) (by decide) rfl (by decide) (by decide) (by decide) dX3_init_8 (fun H Z => ?_)
  refine hz_putF X Z hi (C := RX3) (T := TX3) (N := 2) (ci := 3) (k := 0) (a := x) (v := .ref n) (ty0 := tyX3) rfl (by decide +kernel) tyX3_ok nmX3 (by decide) (by decide +kernel) rfl rfl rfl rfl (pv_at (by rw [va_up_ne _ _ (by omega)]; exact hx) (Nat.le_of_ble_eq_true rfl)) dX3_init_10 (fun H locs Z => ?_)
  exact hz_rv X Z rfl dX3_init_13
def rmX4_init : Room := { frames := 2, cells := 2, slots := 142, locals := 32 }
set_option maxHeartbeats 4000000 in
set_option maxRecDepth 100000 in
theorem zX4_init (l : Launch) (G : hp_G) {x n : Nat} {h : hp_H} (hx : h x = some (.inr (.inr (.inr (4, [.null, .int 0]))))) : Met l yX4_init wsX4_init rmX4_init (va_Pc [.ref x] (hp_S2 G h n)) (va_Qv (fun u => u = iW h x n) (hp_B2 G (hp_U h n) (n + 2)) (hp_A (hp_U h n))) 2 142 (hp_A (hp_U h n)) := by
  refine hz_met (cc := cX4_init) (nL := 1) (ret := none) (by decide) rfl rfl ?_
  intro p e s m below meth c X Z NW hi
  have hl := lv_entry ([.ref x]) (n := 1) (Nat.le_of_ble_eq_true rfl)
  rw [lg_entry_eq]
  generalize (lg_sl ([.ref x]) ++ List.replicate (1 - (lg_sl ([.ref x])).length) Slot.unset).toArray = ls at hl ⊢
  have hl : lv_has ls 1 [(0, .ref x)] := hl
  have hxn := Z.lt hx
  refine lv_aload_n X.1 X.2.1 dX4_init_0 rfl (lv_at hl 0 rfl) ?_
  refine W.objInit X.1 X.2.1 X.2.2.2.1 (X.2.2.2.2.1 (.methodLink RX4 3 objectInit) (by decide +kernel)) (X.2.2.2.2.1 (.instanceMethod objectInit) (by decide +kernel)) (X.2.2.2.2.1 _ (List.mem_of_getElem? (i := 3) rfl)) rfl (by rw [X.2.2.1]; exact hl.1) rfl dX4_init_1 (Nat.le_of_ble_eq_true rfl) (Nat.le_of_ble_eq_true rfl) ?_
  refine W.eq (g2 := F0 m 4 ls []) rfl ?_
  refine lv_aload_n X.1 X.2.1 dX4_init_4 rfl (lv_at hl 0 rfl) ?_
  refine hz_new X Z (C := RX2) (T := TX2) (N := 2) (ci := 2) (ty := tyX2) (fs := [.null, .int 0]) rfl (by decide +kernel) tyX2_ok (by decide +kernel) (by decide +kernel) (by decide +kernel) (fun j hj => by rcases (show j = 0 ∨ j = 1 by omega) with rfl | rfl <;> rfl) (by decide) (by decide) dX4_init_5 (fun H Z => ?_)
  refine lv_dup X.1 X.2.1 dX4_init_8 rfl ?_
  refine hz_cv Z (hz_runIN X Z NW (As := []) (k := 0) (zX2_init l G (va_up_self _ _ _)) NW.1.2.1 gX4_init_X2_init_n11 rfl rfl rfl (by decide +kernel) (by decide +kernel) rfl (by decide +kernel) ⟨Nat.le_of_ble_eq_true rfl, Nat.le_of_ble_eq_true rfl⟩ rfl hl.1 rfl (Nat.le_of_ble_eq_true rfl) dX4_init_9 ⟨by decide, by decide⟩) (fun H locs Z => ?_)
  refine hz_putF X Z hi (C := RX4) (T := TX4) (N := 2) (ci := 4) (k := 0) (a := x) (v := .ref n) (ty0 := tyX4) rfl (by decide +kernel) tyX4_ok nmX4 (by decide) (by decide +kernel) rfl rfl rfl rfl (pv_at (jN_at hxn hx) (Nat.le_of_ble_eq_true rfl)) dX4_init_12 (fun H locs Z => ?_)
  exact hz_rv X Z rfl dX4_init_15
def rmX1_init : Room := { frames := 2, cells := 6, slots := 426, locals := 32 }
set_option maxHeartbeats 4000000 in
set_option maxRecDepth 100000 in
theorem zX1_init (l : Launch) (G : hp_G) {x n : Nat} {h : hp_H} (hx : h x = some (.inr (.inr (.inr (1, [.null, .null, .null]))))) : Met l yX1_init wsX1_init rmX1_init (va_Pc [.ref x] (hp_S2 G h n)) (va_Qv (fun u => u = iD h x n) (hp_B2 G (hp_U h n) (n + 6)) (hp_A (hp_U h n))) 6 426 (hp_A (hp_U h n)) := by
  refine hz_met (cc := cX1_init) (nL := 1) (ret := none) (by decide) rfl rfl ?_
  intro p e s m below meth c X Z NW hi
  have hl := lv_entry ([.ref x]) (n := 1) (Nat.le_of_ble_eq_true rfl)
  rw [lg_entry_eq]
  generalize (lg_sl ([.ref x]) ++ List.replicate (1 - (lg_sl ([.ref x])).length) Slot.unset).toArray = ls at hl ⊢
  have hl : lv_has ls 1 [(0, .ref x)] := hl
  have hxn := Z.lt hx
  refine lv_aload_n X.1 X.2.1 dX1_init_0 rfl (lv_at hl 0 rfl) ?_
  refine W.objInit X.1 X.2.1 X.2.2.2.1 (X.2.2.2.2.1 (.methodLink RX1 3 objectInit) (by decide +kernel)) (X.2.2.2.2.1 (.instanceMethod objectInit) (by decide +kernel)) (X.2.2.2.2.1 _ (List.mem_of_getElem? (i := 3) rfl)) rfl (by rw [X.2.2.1]; exact hl.1) rfl dX1_init_1 (Nat.le_of_ble_eq_true rfl) (Nat.le_of_ble_eq_true rfl) ?_
  refine W.eq (g2 := F0 m 4 ls []) rfl ?_
  refine lv_aload_n X.1 X.2.1 dX1_init_4 rfl (lv_at hl 0 rfl) ?_
  refine hz_new X Z (C := RX2) (T := TX2) (N := 2) (ci := 2) (ty := tyX2) (fs := [.null, .int 0]) rfl (by decide +kernel) tyX2_ok (by decide +kernel) (by decide +kernel) (by decide +kernel) (fun j hj => by rcases (show j = 0 ∨ j = 1 by omega) with rfl | rfl <;> rfl) (by decide) (by decide) dX1_init_5 (fun H Z => ?_)
  refine lv_dup X.1 X.2.1 dX1_init_8 rfl ?_
  refine hz_cv Z (hz_runIN X Z NW (As := []) (k := 0) (zX2_init l G (va_up_self _ _ _)) NW.1.2.2.2.1 gX1_init_X2_init_n11 rfl rfl rfl (by decide +kernel) (by decide +kernel) rfl (by decide +kernel) ⟨Nat.le_of_ble_eq_true rfl, Nat.le_of_ble_eq_true rfl⟩ rfl hl.1 rfl (Nat.le_of_ble_eq_true rfl) dX1_init_9 ⟨by decide, by decide⟩) (fun H locs Z => ?_)
  refine hz_putF X Z hi (C := RX1) (T := TX1) (N := 3) (ci := 1) (k := 0) (a := x) (v := .ref n) (ty0 := tyX1) rfl (by decide +kernel) tyX1_ok nmX1 (by decide) (by decide +kernel) rfl rfl rfl rfl (pv_at (jN_at hxn hx) (Nat.le_of_ble_eq_true rfl)) dX1_init_12 (fun H locs Z => ?_)
  refine lv_aload_n X.1 X.2.1 dX1_init_15 rfl (lv_at hl 0 rfl) ?_
  refine hz_new X Z (C := RX2) (T := TX2) (N := 2) (ci := 2) (ty := tyX2) (fs := [.null, .int 0]) rfl (by decide +kernel) tyX2_ok (by decide +kernel) (by decide +kernel) (by decide +kernel) (fun j hj => by rcases (show j = 0 ∨ j = 1 by omega) with rfl | rfl <;> rfl) (by decide) (by decide) dX1_init_16 (fun H Z => ?_)
  refine lv_dup X.1 X.2.1 dX1_init_19 rfl ?_
  refine hz_cv Z (hz_runIN X Z NW (As := []) (k := 0) (zX2_init l G (va_up_self _ _ _)) NW.1.2.2.2.1 gX1_init_X2_init_n11 rfl rfl rfl (by decide +kernel) (by decide +kernel) rfl (by decide +kernel) ⟨Nat.le_of_ble_eq_true rfl, Nat.le_of_ble_eq_true rfl⟩ rfl hl.1 rfl (Nat.le_of_ble_eq_true rfl) dX1_init_20 ⟨by decide, by decide⟩) (fun H locs Z => ?_)
  refine hz_putF X Z hi (C := RX1) (T := TX1) (N := 3) (ci := 1) (k := 1) (a := x) (v := .ref (n + 2)) (ty0 := tyX1) rfl (by decide +kernel) tyX1_ok nmX1 (by decide) (by decide +kernel) rfl rfl rfl rfl (pv_at (jN_at (show x < n + 2 by omega) (va_up_self _ _ _)) (Nat.le_of_ble_eq_true rfl)) dX1_init_23 (fun H locs Z => ?_)
  refine lv_aload_n X.1 X.2.1 dX1_init_26 rfl (lv_at hl 0 rfl) ?_
  refine hz_new X Z (C := RX2) (T := TX2) (N := 2) (ci := 2) (ty := tyX2) (fs := [.null, .int 0]) rfl (by decide +kernel) tyX2_ok (by decide +kernel) (by decide +kernel) (by decide +kernel) (fun j hj => by rcases (show j = 0 ∨ j = 1 by omega) with rfl | rfl <;> rfl) (by decide) (by decide) dX1_init_27 (fun H Z => ?_)
  refine lv_dup X.1 X.2.1 dX1_init_30 rfl ?_
  refine hz_cv Z (hz_runIN X Z NW (As := []) (k := 0) (zX2_init l G (va_up_self _ _ _)) NW.1.2.2.2.1 gX1_init_X2_init_n11 rfl rfl rfl (by decide +kernel) (by decide +kernel) rfl (by decide +kernel) ⟨Nat.le_of_ble_eq_true rfl, Nat.le_of_ble_eq_true rfl⟩ rfl hl.1 rfl (Nat.le_of_ble_eq_true rfl) dX1_init_31 ⟨by decide, by decide⟩) (fun H locs Z => ?_)
  refine hz_putF X Z hi (C := RX1) (T := TX1) (N := 3) (ci := 1) (k := 2) (a := x) (v := .ref (n + 4)) (ty0 := tyX1) rfl (by decide +kernel) tyX1_ok nmX1 (by decide) (by decide +kernel) rfl rfl rfl rfl (pv_at (jN_at (show x < n + 4 by omega) (va_up_self _ _ _)) (Nat.le_of_ble_eq_true rfl)) dX1_init_34 (fun H locs Z => ?_)
  exact hz_rv X Z rfl dX1_init_37
def rmX0_init : Room := { frames := 2, cells := 4, slots := 284, locals := 32 }
set_option maxHeartbeats 4000000 in
set_option maxRecDepth 100000 in
theorem zX0_init (l : Launch) (G : hp_G) {x n : Nat} {h : hp_H} (hx : h x = some (.inr (.inr (.inr (0, [.null, .null, .long 0, .long 0, .long 0, .long 0]))))) : Met l yX0_init wsX0_init rmX0_init (va_Pc [.ref x] (hp_S2 G h n)) (va_Qv (fun u => u = iE h x n) (hp_B2 G (hp_U h n) (n + 4)) (hp_A (hp_U h n))) 4 284 (hp_A (hp_U h n)) := by
  refine hz_met (cc := cX0_init) (nL := 1) (ret := none) (by decide) rfl rfl ?_
  intro p e s m below meth c X Z NW hi
  have hl := lv_entry ([.ref x]) (n := 1) (Nat.le_of_ble_eq_true rfl)
  rw [lg_entry_eq]
  generalize (lg_sl ([.ref x]) ++ List.replicate (1 - (lg_sl ([.ref x])).length) Slot.unset).toArray = ls at hl ⊢
  have hl : lv_has ls 1 [(0, .ref x)] := hl
  have hxn := Z.lt hx
  refine lv_aload_n X.1 X.2.1 dX0_init_0 rfl (lv_at hl 0 rfl) ?_
  refine W.objInit X.1 X.2.1 X.2.2.2.1 (X.2.2.2.2.1 (.methodLink RX0 5 objectInit) (by decide +kernel)) (X.2.2.2.2.1 (.instanceMethod objectInit) (by decide +kernel)) (X.2.2.2.2.1 _ (List.mem_of_getElem? (i := 3) rfl)) rfl (by rw [X.2.2.1]; exact hl.1) rfl dX0_init_1 (Nat.le_of_ble_eq_true rfl) (Nat.le_of_ble_eq_true rfl) ?_
  refine W.eq (g2 := F0 m 4 ls []) rfl ?_
  refine lv_aload_n X.1 X.2.1 dX0_init_4 rfl (lv_at hl 0 rfl) ?_
  refine hz_new X Z (C := RX2) (T := TX2) (N := 2) (ci := 2) (ty := tyX2) (fs := [.null, .int 0]) rfl (by decide +kernel) tyX2_ok (by decide +kernel) (by decide +kernel) (by decide +kernel) (fun j hj => by rcases (show j = 0 ∨ j = 1 by omega) with rfl | rfl <;> rfl) (by decide) (by decide) dX0_init_5 (fun H Z => ?_)
  refine lv_dup X.1 X.2.1 dX0_init_8 rfl ?_
  refine hz_cv Z (hz_runIN X Z NW (As := []) (k := 0) (zX2_init l G (va_up_self _ _ _)) NW.1.2.2.2.2.1 gX0_init_X2_init_n13 rfl rfl rfl (by decide +kernel) (by decide +kernel) rfl (by decide +kernel) ⟨Nat.le_of_ble_eq_true rfl, Nat.le_of_ble_eq_true rfl⟩ rfl hl.1 rfl (Nat.le_of_ble_eq_true rfl) dX0_init_9 ⟨by decide, by decide⟩) (fun H locs Z => ?_)
  refine hz_put X Z (C := RX0) (T := TX0) (N := 6) (ci := 0) (k := 0) (a := x) (v := .ref n) (ty0 := tyX0) rfl (by decide +kernel) tyX0_ok nmX0 (by decide) (by decide +kernel) rfl rfl rfl (pv_at (jN_at hxn hx) (Nat.le_of_ble_eq_true rfl)) dX0_init_12 (fun H locs Z => ?_)
  refine lv_aload_n X.1 X.2.1 dX0_init_15 rfl (lv_at hl 0 rfl) ?_
  refine hz_new X Z (C := RX2) (T := TX2) (N := 2) (ci := 2) (ty := tyX2) (fs := [.null, .int 0]) rfl (by decide +kernel) tyX2_ok (by decide +kernel) (by decide +kernel) (by decide +kernel) (fun j hj => by rcases (show j = 0 ∨ j = 1 by omega) with rfl | rfl <;> rfl) (by decide) (by decide) dX0_init_16 (fun H Z => ?_)
  refine lv_dup X.1 X.2.1 dX0_init_19 rfl ?_
  refine hz_cv Z (hz_runIN X Z NW (As := []) (k := 0) (zX2_init l G (va_up_self _ _ _)) NW.1.2.2.2.2.1 gX0_init_X2_init_n13 rfl rfl rfl (by decide +kernel) (by decide +kernel) rfl (by decide +kernel) ⟨Nat.le_of_ble_eq_true rfl, Nat.le_of_ble_eq_true rfl⟩ rfl hl.1 rfl (Nat.le_of_ble_eq_true rfl) dX0_init_20 ⟨by decide, by decide⟩) (fun H locs Z => ?_)
  refine hz_put X Z (C := RX0) (T := TX0) (N := 6) (ci := 0) (k := 1) (a := x) (v := .ref (n + 2)) (ty0 := tyX0) rfl (by decide +kernel) tyX0_ok nmX0 (by decide) (by decide +kernel) rfl rfl rfl (pv_at (jN_at (show x < n + 2 by omega) (va_up_self _ _ _)) (Nat.le_of_ble_eq_true rfl)) dX0_init_23 (fun H locs Z => ?_)
  exact hz_rv X Z rfl dX0_init_26
