/-! THE LAW'S LOOP AND ITS START (laid by wip/lawloop.py) -/
theorem law_TW {p : Program} {s : State} {m : MethodId} {meth : Method} {c : Code} {b L : Nat} {xs : Nat → Int32} (C0 : lw_At p s m meth c b L xs) : hp_TW (hp_A (hU0 s)) s := by
  obtain ⟨hx, hb, hr, hml, hown, hts, hX, hbl, hlocks, hgv⟩ := id C0
  have hs := flat_of_before _ hgv
  have hA : ∀ a : Nat, a < s.heap.size → ¬ hp_A (hU0 s) a := fun a h1 h2 => by have := hU0_A h2; omega
  obtain ⟨a1, _, _, _, f1, -⟩ := Cond.exactly_spec (hs (Cond.exactly (.string RX5 84) "java/lang/String") (by decide +kernel))
  obtain ⟨a2, _, _, _, f2, -⟩ := Cond.exactly_spec (hs (Cond.exactly (.string RX5 117) "java/lang/String") (by decide +kernel))
  exact ⟨vx_Zqof (hts (Cond.laysStatic Bundle.tN "UNASSIGNED_STACK" Bundle.steD) (by decide +kernel)) (hts (Cond.initialized Bundle.tN) (by decide +kernel)) (hs _ (by decide +kernel)) hA, vx_Zqof (hts (Cond.laysStatic Bundle.tN "SUPPRESSED_SENTINEL" Bundle.listD) (by decide +kernel)) (hts (Cond.initialized Bundle.tN) (by decide +kernel)) (hs _ (by decide +kernel)) hA, ⟨a1, vk_R.of (hts (Cond.stringRef RX5 84 "the divisor is 0") (by decide +kernel)) f1⟩, ⟨a2, vk_R.of (hts (Cond.stringRef RX5 117 "no root of a number below 0") (by decide +kernel)) f2⟩, va_Nw.of rfl (hts dc1 (by decide +kernel)), va_Nw.of rfl (hts dc2 (by decide +kernel)), va_Nw.of rfl (hts dc3 (by decide +kernel)), va_Nw.of rfl (hts (Cond.castable nmAE nmAE) (by decide +kernel)), va_Nw.of rfl (hts (Cond.castable nmIE nmIE) (by decide +kernel))⟩
theorem law_NW {s : State} {A : Array Value} (hts : ∀ w ∈ lw_tbl, w.before A s = true) : hp_NW s ∧ va_AO RX4 s :=
  ⟨⟨va_Nw.of rfl (hts (Cond.methodLinkNest RX5 15 yX4_init RX5) (by decide +kernel)), va_Nw.of rfl (hts (Cond.methodLinkNest RX4 11 yX2_init RX5) (by decide +kernel)), va_Nw.of rfl (hts (Cond.methodLinkNest RX5 25 yX1_init RX5) (by decide +kernel)), va_Nw.of rfl (hts (Cond.methodLinkNest RX1 11 yX2_init RX5) (by decide +kernel)), va_Nw.of rfl (hts (Cond.methodLinkNest RX0 13 yX2_init RX5) (by decide +kernel)), va_Nw.of rfl (hts (Cond.methodLinkNest RX5 39 yX3_init RX5) (by decide +kernel)), va_Nw.of rfl (hts (Cond.methodLinkNest RX5 32 yX0_init RX5) (by decide +kernel))⟩, va_AO.of (hts (Cond.arrayOver (.object RX4)) (by decide +kernel))⟩
theorem law_G {s : State} {A : Array Value} (hts : ∀ w ∈ lw_tbl, w.before A s = true) : ∃ G : hp_G, hp_K G s := by
  obtain ⟨c0, i0, k0⟩ := u_known (C := RX0) (T := TX0) (N := 6) (n := 6) hts inX0 (hts (.instantiable RX0 6) (by decide +kernel))
  obtain ⟨c1, i1, k1⟩ := u_known (C := RX1) (T := TX1) (N := 3) (n := 3) hts inX1 (hts (.instantiable RX1 3) (by decide +kernel))
  obtain ⟨c2, i2, k2⟩ := u_known (C := RX2) (T := TX2) (N := 2) (n := 2) hts inX2 (hts (.instantiable RX2 2) (by decide +kernel))
  obtain ⟨c3, i3, k3⟩ := u_known (C := RX3) (T := TX3) (N := 2) (n := 2) hts inX3 (hts (.instantiable RX3 2) (by decide +kernel))
  obtain ⟨c4, i4, k4⟩ := u_known (C := RX4) (T := TX4) (N := 2) (n := 2) hts inX4 (hts (.instantiable RX4 2) (by decide +kernel))
  obtain ⟨c5, i5, k5⟩ := u_known (C := RX5) (T := TX5) (N := 6) (n := 6) hts inX5 (hts (.instantiable RX5 6) (by decide +kernel))
  obtain ⟨c6, i6, k6⟩ := u_known (C := RX6) (T := TX6) (N := 14) (n := 14) hts inX6 (hts (.instantiable RX6 14) (by decide +kernel))
  obtain ⟨aI, kI, pI, f1, f2, f3⟩ := Cond.arrayClass_spec (hts (.arrayClass .int) (by decide +kernel))
  obtain ⟨aC, kC, pC, g1, g2, g3⟩ := Cond.arrayClass_spec (hts (.arrayClass .char) (by decide +kernel))
  obtain ⟨aL, kL, pL, h1, h2, h3⟩ := Cond.arrayClass_spec (hts (.arrayClass .long) (by decide +kernel))
  obtain ⟨pW, aW, kW, w1, w2, w3, w4, w5⟩ := Cond.arrayOver_spec (hts (.arrayOver (.object RX4)) (by decide +kernel))
  refine ⟨((fun k => [c0, c1, c2, c3, c4, c5, c6].getD k 0, fun k => [i0, i1, i2, i3, i4, i5, i6].getD k i0), (aI, aC, aL, aW)), fun k q hq => ?_, fun k q hq => ?_⟩
  · match k, hq with
    | 0, hq => cases hq; exact k0
    | 1, hq => cases hq; exact k1
    | 2, hq => cases hq; exact k2
    | 3, hq => cases hq; exact k3
    | 4, hq => cases hq; exact k4
    | 5, hq => cases hq; exact k5
    | 6, hq => cases hq; exact k6
    | k + 7, hq => simp [vwCl] at hq
  · match k, hq with
    | 0, hq => cases hq; exact ⟨fun n z => ⟨fun k h => (by cases h), kI, f2, pI, f3⟩, f1⟩
    | 1, hq => cases hq; exact ⟨fun n z => ⟨fun k h => (by cases h), kC, g2, pC, g3⟩, g1⟩
    | 2, hq => cases hq; exact ⟨fun n z => ⟨fun k h => (by cases h), kL, h2, pL, h3⟩, h1⟩
    | 3, hq => cases hq; exact ⟨fun n z => ⟨fun k h => (by cases h), kW, w3, pW, w4⟩, kW, pW, w3, w4, w1, w5⟩
    | k + 4, hq => simp [hp_tys] at hq
theorem law_sw (v : Int32) : (v.toInt < 0 ∨ 18 < v.toInt) ∨ v.toInt = 0 ∨ v.toInt = 1 ∨ v.toInt = 2 ∨ v.toInt = 3 ∨ v.toInt = 4 ∨ v.toInt = 5 ∨ v.toInt = 6 ∨ v.toInt = 7 ∨ v.toInt = 8 ∨ v.toInt = 9 ∨ v.toInt = 10 ∨ v.toInt = 11 ∨ v.toInt = 12 ∨ v.toInt = 13 ∨ v.toInt = 14 ∨ v.toInt = 15 ∨ v.toInt = 16 ∨ v.toInt = 17 ∨ v.toInt = 18 := by omega
theorem law_go {L k : Nat} (hL : L ≤ 3072) (hk : k ≤ 513) : Int32.ofNat L - 6 < nI (6 * k) ↔ L < 6 * k + 6 := by
  show nI L - 6 < nI (6 * k) ↔ _
  rw [nI_iI, nI_iI, show (6 : Int32) = iI 6 from rfl, iI_sub, iI_lt (by omega) (by omega) (by omega) (by omega)]
  omega
def LWs (p : Program) (l : Launch) (e : Env) (s : State) (m : MethodId) (below : List Frame) (meth : Method) (c : Code) (b : Nat) (G : hp_G) (y w z k : Nat) : Prop := ∀ (hC hM : hp_H) (f : Nat → Int64) (R : Nat → Int) (T : Nat → Nat) (n : Nat) (t : Int32) (H : Heap) (locs : List Loc) (ls : Array Slot), LI G s y w hC hM f H locs → cs hC z R T n → ms hM y R T n t → lv_has ls 7 [(4, .int (nI (6 * k))), (3, .ref w), (2, .ref y), (1, .ref z), (0, .ref b)] → W p l e room_1 s m #[Value.ref b] below meth c H locs (56 + k) (15383 + 6 * k) (lw_Z below #[Value.ref b] s) (F0 m 23 ls [])
set_option maxHeartbeats 4000000 in
set_option maxRecDepth 100000 in
theorem law_step {p : Program} {l : Launch} {e : Env} {s : State} {m : MethodId} {below : List Frame} {meth : Method} {c : Code} {b L : Nat} {xs : Nat → Int32} {G : hp_G} {y w z : Nat} (hst : l.stackTraces = false) (TW : hp_TW (hp_A (hU0 s)) s) (X : hp_X p s m #[Value.ref b] meth c code 7 RL wsL_law ret G) (hX : va_X b L xs s s.heap) (hbl : b < s.heap.size) (hLb : L ≤ 3072) {k : Nat} (hk : k ≤ 513) (ih : 6 * k + 6 ≤ L → LWs p l e s m below meth c b G y w z (k + 1)) : LWs p l e s m below meth c b G y w z k := by
  intro hC hM f R T n t H locs ls I C M hl
  refine lv_iload X.1 X.2.1 dL_law_23 (lv_at hl 0 rfl) ?_
  refine lv_aload_n X.1 X.2.1 dL_law_25 rfl (lv_at hl 4 rfl) ?_
  refine va_slen X.1 X.2.1 hX hbl (fun z => by have := hU0_A z; omega) I.2.2.2.2.2.2.2 dL_law_26 ?_
  refine lv_bipush (v := 6) X.1 X.2.1 dL_law_27 (by decide) ?_
  refine lv_isub X.1 X.2.1 dL_law_29 ?_
  refine lv_icmp_gt (tgt := 950) X.1 X.2.1 dL_law_30 (by decide) (fun h => ?_) (fun h => ?_)
  · refine lv_iconst (v := 1) X.1 X.2.1 dL_law_950 (by decide) ?_
    refine va_forget (fun q hq => hU0_A (I.2.2.2.2.2.2.2.2.2 q hq)) ?_
    refine W.widen (k := 601024) (n := 7293033) (by omega) (by omega) ?_
    exact lw_ret X.1 X.2.1 X.2.2.2.2.2.2.1 X.2.2.2.2.2.2.2 dL_law_951
  have hi : 6 * k + 6 ≤ L := by
    rcases Nat.lt_or_ge L (6 * k + 6) with q | q
    · exact absurd ((law_go hLb hk).mpr q) h
    · exact q
  have ih := ih hi
  have fin : ∀ (hC' hM' : hp_H) (f' : Nat → Int64) (R' : Nat → Int) (T' : Nat → Nat) (n' : Nat) (t' : Int32) (H1 : Heap) (locs1 : List Loc) (ls1 : Array Slot), LI G s y w hC' hM' f' H1 locs1 → cs hC' z R' T' n' → ms hM' y R' T' n' t' → lv_has ls1 7 [(4, .int (nI (6 * k))), (3, .ref w), (2, .ref y), (1, .ref z), (0, .ref b)] → W p l e room_1 s m #[Value.ref b] below meth c H1 locs1 (56 + k + 1) (15383 + 6 * k + 6) (lw_Z below #[Value.ref b] s) (F0 m 944 ls1 []) := by
    intro hC' hM' f' R' T' n' t' H1 locs1 ls1 I1 C1 M1 hl1
    refine lv_iinc (v := nI (6 * (k + 1))) (lv' := [(4, .int (nI (6 * (k + 1)))), (3, .ref w), (2, .ref y), (1, .ref z), (0, .ref b)]) X.1 X.2.1 dL_law_944 hl1 (k := 0) rfl (by rw [show 6 * (k + 1) = 6 * k + 6 by omega, ← nI_add]; rfl) (by decide) rfl (fun ls hl => ?_)
    refine lv_goto (tgt := 23) X.1 X.2.1 dL_law_947 (by decide) ?_
    exact ih hC' hM' f' R' T' n' t' H1 locs1 ls I1 C1 M1 hl
  refine lv_aload_n X.1 X.2.1 dL_law_33 rfl (lv_at hl 4 rfl) ?_
  refine lv_iload X.1 X.2.1 dL_law_34 (lv_at hl 0 rfl) ?_
  have e2 : (nI (6 * k)).toNatClampNeg = 6 * k := nI_cl (by omega)
  refine va_sld X.1 X.2.1 hX hbl (fun z => by have := hU0_A z; omega) I.2.2.2.2.2.2.2 (fun q => q.elim (fun q => nI_lt0 (by omega) q) (fun q => by rw [e2] at q; omega)) dL_law_36 ?_
  refine lv_bipush (v := 31) X.1 X.2.1 dL_law_37 (by decide) ?_
  refine lv_iand X.1 X.2.1 dL_law_39 ?_
  generalize xs (nI (6 * k)).toNatClampNeg &&& 31 = v
  have hc1 : 56 + k + 1 ≤ 601024 := by omega
  have hs1 : 15383 + 6 * k + 6 ≤ 7293033 := by omega
  rcases law_sw v with q | q | q | q | q | q | q | q | q | q | q | q | q | q | q | q | q | q | q | q
  · refine lv_tableOut (tgt := 944) X.1 X.2.1 dL_law_40 q (by decide) ?_
    refine W.widen (k := 56 + k + 1) (n := 15383 + 6 * k + 6) (by omega) (by omega) ?_
    exact fin hC hM f R T n t H locs ls I C M hl
  · refine lv_tableIn (tgt := 132) (off := 92) X.1 X.2.1 dL_law_40 (by omega) (by omega) (by rw [q]; rfl) (by decide) ?_
    exact law_0 X hX hbl hLb hi hc1 hs1 I C M hl fin
  · refine lv_tableIn (tgt := 201) (off := 161) X.1 X.2.1 dL_law_40 (by omega) (by omega) (by rw [q]; rfl) (by decide) ?_
    exact law_1 X hX hbl hLb hi hc1 hs1 I C M hl fin
  · refine lv_tableIn (tgt := 262) (off := 222) X.1 X.2.1 dL_law_40 (by omega) (by omega) (by rw [q]; rfl) (by decide) ?_
    exact law_2 hst TW X hX hbl hLb hi hc1 hs1 I C M hl fin
  · refine lv_tableIn (tgt := 382) (off := 342) X.1 X.2.1 dL_law_40 (by omega) (by omega) (by rw [q]; rfl) (by decide) ?_
    exact law_3 X hX hbl hLb hi hc1 hs1 I C M hl fin
  · refine lv_tableIn (tgt := 431) (off := 391) X.1 X.2.1 dL_law_40 (by omega) (by omega) (by rw [q]; rfl) (by decide) ?_
    exact law_4 hst TW X hX hbl hLb hi hc1 hs1 I C M hl fin
  · refine lv_tableIn (tgt := 499) (off := 459) X.1 X.2.1 dL_law_40 (by omega) (by omega) (by rw [q]; rfl) (by decide) ?_
    exact law_5 X hX hbl hLb hi hc1 hs1 I C M hl fin
  · refine lv_tableIn (tgt := 548) (off := 508) X.1 X.2.1 dL_law_40 (by omega) (by omega) (by rw [q]; rfl) (by decide) ?_
    exact law_6 X hX hbl hLb hi hc1 hs1 I C M hl fin
  · refine lv_tableIn (tgt := 597) (off := 557) X.1 X.2.1 dL_law_40 (by omega) (by omega) (by rw [q]; rfl) (by decide) ?_
    exact law_7 X hX hbl hLb hi hc1 hs1 I C M hl fin
  · refine lv_tableIn (tgt := 634) (off := 594) X.1 X.2.1 dL_law_40 (by omega) (by omega) (by rw [q]; rfl) (by decide) ?_
    exact law_8 X hX hbl hLb hi hc1 hs1 I C M hl fin
  · refine lv_tableIn (tgt := 659) (off := 619) X.1 X.2.1 dL_law_40 (by omega) (by omega) (by rw [q]; rfl) (by decide) ?_
    exact law_9 X hX hbl hLb hi hc1 hs1 I C M hl fin
  · refine lv_tableIn (tgt := 684) (off := 644) X.1 X.2.1 dL_law_40 (by omega) (by omega) (by rw [q]; rfl) (by decide) ?_
    exact law_10 X hX hbl hLb hi hc1 hs1 I C M hl fin
  · refine lv_tableIn (tgt := 721) (off := 681) X.1 X.2.1 dL_law_40 (by omega) (by omega) (by rw [q]; rfl) (by decide) ?_
    exact law_11 X hX hbl hLb hi hc1 hs1 I C M hl fin
  · refine lv_tableIn (tgt := 758) (off := 718) X.1 X.2.1 dL_law_40 (by omega) (by omega) (by rw [q]; rfl) (by decide) ?_
    exact law_12 X hX hbl hLb hi hc1 hs1 I C M hl fin
  · refine lv_tableIn (tgt := 784) (off := 744) X.1 X.2.1 dL_law_40 (by omega) (by omega) (by rw [q]; rfl) (by decide) ?_
    exact law_13 X hX hbl hLb hi hc1 hs1 I C M hl fin
  · refine lv_tableIn (tgt := 809) (off := 769) X.1 X.2.1 dL_law_40 (by omega) (by omega) (by rw [q]; rfl) (by decide) ?_
    exact law_14 X hX hbl hLb hi hc1 hs1 I C M hl fin
  · refine lv_tableIn (tgt := 846) (off := 806) X.1 X.2.1 dL_law_40 (by omega) (by omega) (by rw [q]; rfl) (by decide) ?_
    exact law_15 X hX hbl hLb hi hc1 hs1 I C M hl fin
  · refine lv_tableIn (tgt := 871) (off := 831) X.1 X.2.1 dL_law_40 (by omega) (by omega) (by rw [q]; rfl) (by decide) ?_
    exact law_16 X hX hbl hLb hi hc1 hs1 I C M hl fin
  · refine lv_tableIn (tgt := 882) (off := 842) X.1 X.2.1 dL_law_40 (by omega) (by omega) (by rw [q]; rfl) (by decide) ?_
    exact law_17 X hX hbl hLb hi hc1 hs1 I C M hl fin
  · refine lv_tableIn (tgt := 907) (off := 867) X.1 X.2.1 dL_law_40 (by omega) (by omega) (by rw [q]; rfl) (by decide) ?_
    exact law_18 X hX hbl hLb hi hc1 hs1 I C M hl fin
theorem law_loop {p : Program} {l : Launch} {e : Env} {s : State} {m : MethodId} {below : List Frame} {meth : Method} {c : Code} {b L : Nat} {xs : Nat → Int32} {G : hp_G} {y w z : Nat} (hst : l.stackTraces = false) (TW : hp_TW (hp_A (hU0 s)) s) (X : hp_X p s m #[Value.ref b] meth c code 7 RL wsL_law ret G) (hX : va_X b L xs s s.heap) (hbl : b < s.heap.size) (hLb : L ≤ 3072) : ∀ f k, k + f = 513 → LWs p l e s m below meth c b G y w z k
  | 0, k, hk => law_step hst TW X hX hbl hLb (by omega) (fun h => by omega)
  | f + 1, k, hk => law_step hst TW X hX hbl hLb (by omega) (fun _ => law_loop hst TW X hX hbl hLb f (k + 1) (by omega))
def hz0 : hp_H := fun _ => none
/-- two heaps, below and from y on -/
def hE2 (y : Nat) (hC hM : hp_H) : hp_H := fun q => if q < y then hC q else hM q
set_option maxHeartbeats 4000000 in
set_option maxRecDepth 100000 in
theorem whole_start {p : Program} {e : Env} {s : State} {m : MethodId} {below : List Frame} {meth : Method} {c : Code} (l : Launch) (hst : l.stackTraces = false) {b L : Nat} {xs : Nat → Int32} (hL : L ≤ 3072) (C0 : lw_At p s m meth c b L xs) : W p l e room_1 s m #[Value.ref b] below meth c s.heap [] 0 0 (lw_Z below #[Value.ref b] s) (entryFrame m ([Value.ref b] : List Value).toArray 7) := by
  have TW := law_TW C0
  obtain ⟨hx, hb, hr, hml, hown, hts, hX, hbl, hlocks, hgv⟩ := id C0
  have NW := law_NW hts
  obtain ⟨G, hK⟩ := law_G hts
  have X : hp_X p s m #[Value.ref b] meth c code 7 RL wsL_law ret G := ⟨hx, hb, hml, hown, fun w hw => hts w (wsL_law_in w hw), hK, hr, hlocks⟩
  have hl := lv_entry ([.ref b]) (n := 7) (Nat.le_of_ble_eq_true rfl)
  rw [lg_entry_eq]
  generalize (lg_sl ([.ref b]) ++ List.replicate (7 - (lg_sl ([.ref b])).length) Slot.unset).toArray = ls at hl ⊢
  have hl : lv_has ls 7 [(0, .ref b)] := hl
  have Z : hp_Z G hz0 (hU0 s) s s.heap [] s.heap.size := ⟨⟨fun a e he => (by unfold hz0 at he; cases he), fun q hq => absurd rfl hq, va_S.rf⟩, rfl, fun q hq => hp_U_ge hq⟩
  obtain ⟨z, hz⟩ : ∃ z, z = s.heap.size := ⟨_, rfl⟩
  rw [← hz] at Z
  refine hz_new X Z (C := RX5) (T := TX5) (N := 6) (ci := 5) (ty := tyX5) (fs := [.null, .null, .null, .null, .null, .null]) rfl inlX5 tyX5_ok (by decide +kernel) (by decide +kernel) (by decide +kernel) (fun j hj => by rcases (show j = 0 ∨ j = 1 ∨ j = 2 ∨ j = 3 ∨ j = 4 ∨ j = 5 by omega) with rfl | rfl | rfl | rfl | rfl | rfl <;> rfl) (by decide) (by decide) dL_law_0 (fun H Z => ?_)
  refine lv_dup X.1 X.2.1 dL_law_3 rfl ?_
  refine hz_cv Z (hz_runI X Z NW (As := []) (k := 0) (zX5_init l G (va_up_self _ _ _)) (by decide +kernel) gL_law_X5_init rfl rfl rfl (by decide +kernel) (by decide +kernel) rfl (by decide +kernel) ⟨Nat.le_of_ble_eq_true rfl, Nat.le_of_ble_eq_true rfl⟩ rfl hl.1 rfl (Nat.le_of_ble_eq_true rfl) dL_law_4 ⟨by decide, by decide⟩) (fun H locs Z => ?_)
  refine lv_astore_n (lv' := [(1, .ref z), (0, .ref b)]) X.1 X.2.1 dL_law_7 rfl hl (by decide) rfl (fun ls hl => ?_)
  generalize hCe : k5 (va_up hz0 z (some (.inr (.inr (.inr (5, [.null, .null, .null, .null, .null, .null])))))) z (z + 1) = hC at Z
  have C : cs hC z (fun _ => 0) (fun _ => 0) 0 := by rw [← hCe]; exact cs_new _ z _
  obtain ⟨y, hy⟩ : ∃ y, y = z + 1 + 45 := ⟨_, rfl⟩
  rw [← hy] at Z
  have dC : ∀ q, hC q ≠ none → s.heap.size ≤ q ∧ q < y := fun q hq => ⟨hU0_A (Z.1.2.1 q hq), by
    obtain ⟨e9, he⟩ := Option.ne_none_iff_exists'.mp hq
    exact Z.lt he⟩
  refine hz_new X Z (C := RX6) (T := TX6) (N := 14) (ci := 6) (ty := tyX6) (fs := [.null, .null, .null, .null, .int 0, .null, .null, .null, .int 0, .int 0, .int 0, .int 0, .null, .int 0]) rfl inlX6 tyX6_ok (by decide +kernel) (by decide +kernel) (by decide +kernel) (fun j hj => by rcases (show j = 0 ∨ j = 1 ∨ j = 2 ∨ j = 3 ∨ j = 4 ∨ j = 5 ∨ j = 6 ∨ j = 7 ∨ j = 8 ∨ j = 9 ∨ j = 10 ∨ j = 11 ∨ j = 12 ∨ j = 13 by omega) with rfl | rfl | rfl | rfl | rfl | rfl | rfl | rfl | rfl | rfl | rfl | rfl | rfl | rfl <;> rfl) (by decide) (by decide) dL_law_8 (fun H Z => ?_)
  refine lv_dup X.1 X.2.1 dL_law_11 rfl ?_
  generalize hM0 : (va_up hz0 y (some (.inr (.inr (.inr (6, [.null, .null, .null, .null, .int 0, .null, .null, .null, .int 0, .int 0, .int 0, .int 0, .null, .int 0]))))) : hp_H) = h6
  have h6y : h6 y = some (.inr (.inr (.inr (6, [.null, .null, .null, .null, .int 0, .null, .null, .null, .int 0, .int 0, .int 0, .int 0, .null, .int 0])))) := by rw [← hM0]; exact va_up_self _ _ _
  have h6n : ∀ q, h6 q ≠ none → q = y := fun q hq => Classical.byContradiction fun n => hq (by rw [← hM0, va_up_ne _ _ n]; rfl)
  have Z6 : hp_Z G h6 (hU0 s) s H locs (y + 1) := ⟨⟨fun a e he => by
      have ha := h6n a (by rw [he]; exact fun z => nomatch z)
      subst ha
      exact Z.1.1 a e (by rw [va_up_self, ← he, h6y]), fun q hq => by
      have ha := h6n q hq
      subst ha
      exact Z.1.2.1 q (by rw [va_up_self]; exact fun z => nomatch z), Z.1.2.2⟩, Z.2.1, Z.2.2⟩
  have hU6 := hp_U_sub Z6.1.2.1 Z6.above
  refine va_callv (hz_runI X Z6 NW (As := []) (k := 0) (zX6_init l G h6y) (by decide +kernel) gL_law_X6_init rfl rfl rfl (by decide +kernel) (by decide +kernel) rfl (by decide +kernel) ⟨Nat.le_of_ble_eq_true rfl, Nat.le_of_ble_eq_true rfl⟩ rfl hl.1 rfl (Nat.le_of_ble_eq_true rfl) dL_law_12 ⟨by decide, by decide⟩) Z6.1.2.2 (fun q _ z => hU6 q z) hU6 (fun hM t H1 locs1 ht hvm hp hB hz9 hk9 hS9 => ?_)
  have M : ms hM y (fun _ => 0) (fun _ => 0) 0 0 := ms_new rfl hp _
  have dM : ∀ q, hM q ≠ none → y ≤ q := fun q hq => by
    have h1 := hB.2.2 q hq
    by_cases w : y + 1 ≤ q
    · omega
    · have h2 : h6 q ≠ none := fun z => h1 (by unfold hp_U; rw [if_neg w]; exact z)
      rw [h6n q h2]; exact Nat.le_refl _
  have PM : hp_P G hM H1 := by rw [← ht]; exact hB.1
  have PC : hp_P G hC H1 := fun a e he => by
    have hd := dC a (by rw [he]; exact fun z => nomatch z)
    have h1 : va_at G.1 vwCl (a, hp_E G.2 e) H := Z.1.1 a e (by rw [va_up_ne _ _ (by omega)]; exact he)
    exact h1.kept (hk9 a h1.lt (fun z => by
      by_cases w : y + 1 ≤ a
      · omega
      · have h2 : h6 a ≠ none := fun q => z (by unfold hp_U; rw [if_neg w]; exact q)
        have := h6n a h2
        omega))
  refine lv_astore_n (lv' := [(2, .ref y), (1, .ref z), (0, .ref b)]) X.1 X.2.1 dL_law_15 rfl hl (by decide) rfl (fun ls hl => ?_)
  refine lv_iconst (v := 1) X.1 X.2.1 dL_law_16 (by decide) ?_
  obtain ⟨w, hw⟩ : ∃ w, w = H1.size := ⟨_, rfl⟩
  have yw : y < w := by
    have h0 := Z6.2.1
    omega
  have ZE : hp_Z G (hE2 y hC hM) (hU0 s) s H1 locs1 w := ⟨⟨fun a e he => by
      unfold hE2 at he
      by_cases q : a < y
      · rw [if_pos q] at he; exact PC a e he
      · rw [if_neg q] at he; exact PM a e he, fun a ha => by
      unfold hE2 at ha
      by_cases q : a < y
      · rw [if_pos q] at ha; exact hp_U_ge (dC a ha).1
      · rw [if_neg q] at ha; exact hp_U_ge (by have := dM a ha; omega), hS9⟩, hw.symm, fun q hq => hp_U_ge hq⟩
  refine hz_newa X ZE (atype := .long) (ty := .long) (e0 := .inr (.inl (1, fun _ => 0))) (a0 := (1, .inr (.inl (fun _ => 0)))) (cA0 := G.2.2.2.1) (t0 := 2) (by decide +kernel) rfl rfl rfl (fun _ h => h) (fun _ => rfl) (by decide) rfl (by decide) (by decide) (by decide) dL_law_17 (fun H2 Z2 => ?_)
  have I : LI G s y w hC hM (fun _ => 0) H2 locs1 := by
    refine ⟨fun a e he => ?_, fun a e he => ?_, Z2.1.1 w _ (va_up_self _ _ _), dC, fun q hq => ⟨dM q hq, ?_⟩, by omega, yw, Z2.1.2.2⟩
    · have hd := dC a (by rw [he]; exact fun z => nomatch z)
      exact Z2.1.1 a e (by rw [va_up_ne _ _ (by omega)]; unfold hE2; rw [if_pos hd.2]; exact he)
    · have hd := dM a (by rw [he]; exact fun z => nomatch z)
      have hlt : a < H1.size := (PM a e he).lt
      exact Z2.1.1 a e (by rw [va_up_ne _ _ (by omega)]; unfold hE2; rw [if_neg (by omega)]; exact he)
    · obtain ⟨e9, he⟩ := Option.ne_none_iff_exists'.mp hq
      have hlt : q < H1.size := (PM q e9 he).lt
      omega
  refine lv_astore_n (lv' := [(3, .ref w), (2, .ref y), (1, .ref z), (0, .ref b)]) X.1 X.2.1 dL_law_19 rfl hl (by decide) rfl (fun ls hl => ?_)
  refine lv_iconst (v := 0) X.1 X.2.1 dL_law_20 (by decide) ?_
  refine lv_istore (lv' := [(4, .int (nI (6 * 0))), (3, .ref w), (2, .ref y), (1, .ref z), (0, .ref b)]) X.1 X.2.1 dL_law_21 hl (by decide) rfl (fun ls hl => ?_)
  refine W.widen (k := 56 + 0) (n := 15383 + 6 * 0) (by decide) (by decide) ?_
  exact law_loop hst TW X hX hbl hL 513 0 rfl hC hM _ _ _ _ _ _ _ _ I C M hl
