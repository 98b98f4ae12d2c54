abbrev hp_bo (v : Int32) : Prop := v = 0 ∨ v = 1
theorem hp_bo_n {v : Int32} (h : v = 0 ∨ v = 1) : narrow .boolean (.int v) = .int v := by rcases h with rfl | rfl <;> rfl
theorem hp_bo_f {v : Int32} (h : v = 0 ∨ v = 1) : fits .boolean (.int v) = true := by rcases h with rfl | rfl <;> rfl
theorem hp_out3 {x : Int32} (h0 : ¬ x = 0) (h1 : ¬ x = 1) (h2 : ¬ x = 2) : x.toInt < 0 ∨ 2 < x.toInt := by
  by_cases h : x.toInt < 0
  · exact Or.inl h
  · refine Or.inr ?_
    have e0 : x.toInt ≠ 0 := fun q => h0 (Int32.toInt_inj.mp (by rw [q]; rfl))
    have e1 : x.toInt ≠ 1 := fun q => h1 (Int32.toInt_inj.mp (by rw [q]; rfl))
    have e2 : x.toInt ≠ 2 := fun q => h2 (Int32.toInt_inj.mp (by rw [q]; rfl))
    omega
section HPW
variable {p : Program} {l : Launch} {e : Env} {R : Room} {s : State} {m : MethodId} {args : Array Value} {below : List Frame} {meth : Method} {c : Code} {H : Heap} {locs : List Loc} {cells slots : Nat} {Q : State → Prop}
variable {cc : ByteArray} {nL : Nat} {own : String} {Ts : List Cond} {ret : Option FieldType} {G : hp_G} {h h0 h' : hp_H} {pc : Nat} {ls : Array Slot} {rest : List Value}
theorem hp_ti {x y : Int32} (he : x = y) (k : W p l e R s m args below meth c H locs cells slots Q (F0 m pc ls (.int y :: rest))) : W p l e R s m args below meth c H locs cells slots Q (F0 m pc ls (.int x :: rest)) := by rw [he]; exact k
theorem hp_tj {x y : Int64} (he : x = y) (k : W p l e R s m args below meth c H locs cells slots Q (F0 m pc ls (.long y :: rest))) : W p l e R s m args below meth c H locs cells slots Q (F0 m pc ls (.long x :: rest)) := by rw [he]; exact k
/-- getfield -/
theorem hp_get (X : hp_X p s m args meth c cc nL own Ts ret G) (Y : hp_Y G h h0 s H locs) {C : String} {T : u_T} {N ci k index a : Nat} {v : Value} (hc : vwCl[ci]? = some (C, T, N)) (hin : ∀ w ∈ u_ws C T N, w ∈ Ts) (hk : k < N) (hl : Cond.fieldLink own index (T k).1 (T k).2.1 (T k).2.2.1 ∈ Ts) (hv : hp_gv h a ci k = some v) (hdg : decode cc pc = .ok (.getfield index, 3))
    (kk : W p l e R s m args below meth c H locs cells slots Q (F0 m (pc + 3) ls (v :: rest))) : W p l e R s m args below meth c H locs cells slots Q (F0 m pc ls (.ref a :: rest)) := by
  obtain ⟨hx, hb, hml, hown, hts, hK, hr, hlk⟩ := X
  obtain ⟨fs, ha, hf⟩ := hp_gv_spec hv
  exact va_get (D := G.1) (cl := vwCl) (ws := [(a, .inr (ci, fs))]) (tys := hp_tys G.2) hx hb hts hin hown hK (hp_one (Y.1 a _ ha)) 0 rfl hc k hk (hts _ hl) (fun _ q => q) hf hdg kk
theorem hp_geti (X : hp_X p s m args meth c cc nL own Ts ret G) (Y : hp_Y G h h0 s H locs) {C : String} {T : u_T} {N ci k index a : Nat} {v : Int32} (hc : vwCl[ci]? = some (C, T, N)) (hin : ∀ w ∈ u_ws C T N, w ∈ Ts) (hk : k < N) (hl : Cond.fieldLink own index (T k).1 (T k).2.1 (T k).2.2.1 ∈ Ts) (hv : hp_gi h a ci k = some v) (hdg : decode cc pc = .ok (.getfield index, 3))
    (kk : W p l e R s m args below meth c H locs cells slots Q (F0 m (pc + 3) ls (.int v :: rest))) : W p l e R s m args below meth c H locs cells slots Q (F0 m pc ls (.ref a :: rest)) := hp_get X Y hc hin hk hl (hp_gi_spec hv) hdg kk
theorem hp_getj (X : hp_X p s m args meth c cc nL own Ts ret G) (Y : hp_Y G h h0 s H locs) {C : String} {T : u_T} {N ci k index a : Nat} {v : Int64} (hc : vwCl[ci]? = some (C, T, N)) (hin : ∀ w ∈ u_ws C T N, w ∈ Ts) (hk : k < N) (hl : Cond.fieldLink own index (T k).1 (T k).2.1 (T k).2.2.1 ∈ Ts) (hv : hp_gj h a ci k = some v) (hdg : decode cc pc = .ok (.getfield index, 3))
    (kk : W p l e R s m args below meth c H locs cells slots Q (F0 m (pc + 3) ls (.long v :: rest))) : W p l e R s m args below meth c H locs cells slots Q (F0 m pc ls (.ref a :: rest)) := hp_get X Y hc hin hk hl (hp_gj_spec hv) hdg kk
theorem hp_getr (X : hp_X p s m args meth c cc nL own Ts ret G) (Y : hp_Y G h h0 s H locs) {C : String} {T : u_T} {N ci k index a v : Nat} (hc : vwCl[ci]? = some (C, T, N)) (hin : ∀ w ∈ u_ws C T N, w ∈ Ts) (hk : k < N) (hl : Cond.fieldLink own index (T k).1 (T k).2.1 (T k).2.2.1 ∈ Ts) (hv : hp_gr h a ci k = some v) (hdg : decode cc pc = .ok (.getfield index, 3))
    (kk : W p l e R s m args below meth c H locs cells slots Q (F0 m (pc + 3) ls (.ref v :: rest))) : W p l e R s m args below meth c H locs cells slots Q (F0 m pc ls (.ref a :: rest)) := hp_get X Y hc hin hk hl (hp_gr_spec hv) hdg kk
/-- putfield -/
theorem hp_put (X : hp_X p s m args meth c cc nL own Ts ret G) (Y : hp_Y G h h0 s H locs) {C : String} {T : u_T} {N ci k index a : Nat} {v : Value} {ty0 : Nat → FieldType} (hc : vwCl[ci]? = some (C, T, N)) (hin : ∀ w ∈ u_ws C T N, w ∈ Ts) (hty : ∀ k, k < N → parseFieldDescriptor (T k).2.2.1 = some (ty0 k)) (hnm : ∀ a, a < N → ∀ b, b < N → a ≠ b → (T a).2.1 ≠ (T b).2.1) (hk : k < N) (hl : Cond.fieldLink own index (T k).1 (T k).2.1 (T k).2.2.1 ∈ Ts) (hfin : (T k).2.2.2 = false) (hn : narrow (ty0 k) v = v) (hfit : fits (ty0 k) v = true)
    (hv : hp_pv h a ci k v = some h') (hdg : decode cc pc = .ok (.putfield index, 3))
    (kk : ∀ (H1 : Heap) (locs1 : List Loc), hp_Y G h' h0 s H1 locs1 → W p l e R s m args below meth c H1 locs1 cells slots Q (F0 m (pc + 3) ls rest)) : W p l e R s m args below meth c H locs cells slots Q (F0 m pc ls (v :: .ref a :: rest)) := by
  obtain ⟨hx, hb, hml, hown, hts, hK, hr, hlk⟩ := X
  obtain ⟨fs, ha, hlen, rfl⟩ := hp_pv_spec hv
  have hap := va_apart (D := G.1) (cl := vwCl) (tys := hp_tys G.2) (own := own) hts hin ty0 hty hnm hK hc
  obtain ⟨r, h1, cell, q1, q2, q3, q4⟩ := Y.1 a _ ha
  have hr' : r = (C, T, N) := Option.some.inj (h1.symm.trans hc)
  subst hr'
  obtain ⟨hS, hfc, kC, hkC, hkind⟩ := hK.1 ci _ hc
  obtain ⟨cf, kf, fi, f, hi, hsl⟩ := hS k hk
  have hlay := hts _ (hin _ (u_in_lay hk))
  unfold u_lay at hlay
  rw [if_neg (by rw [hfin]; decide)] at hlay
  have hst := (u_facts hfc hkC (u_lays hts hin hk) hi).1
  have h6 := u_store hfc hkC hkind hlay hi (hty k hk) hn hfit
  refine W.putK hx hb (f := f) ⟨hown, hts _ hl, ⟨_, _, _, hi⟩, hst⟩ (by rw [q2]; exact h6) q1 q3 (by rw [hsl]; exact k2_hasslot (q4 k hk)) rfl rfl hdg fun H' e1 e2 e3 => ?_
  rw [hsl] at e1 ⊢
  exact kk H' _ (Y.up ha ⟨_, hc, t_OB.to (V := updV (vp_V fs) k v) ⟨_, e1, q2, q3, t_set q4 hap hk v⟩ (fun j _ => vp_updV_set hlen v j)⟩ e2 e3)
/-- arrays -/
theorem hp_iald (X : hp_X p s m args meth c cc nL own Ts ret G) (Y : hp_Y G h h0 s H locs) {a : Nat} {i v : Int32} (hv : hp_ai h 0 a i = some v) (hdg : decode cc pc = .ok (.iaload, 1))
    (kk : W p l e R s m args below meth c H locs cells slots Q (F0 m (pc + 1) ls (.int v :: rest))) : W p l e R s m args below meth c H locs cells slots Q (F0 m pc ls (.int i :: .ref a :: rest)) := by
  obtain ⟨hx, hb, hml, hown, hts, hK, hr, hlk⟩ := X
  obtain ⟨n, f, ha, hi, rfl⟩ := hp_ai_spec hv
  exact va_iald (D := G.1) (cl := vwCl) (ws := [(a, .inl (G.2.1, n, .inl f))]) (tys := hp_tys G.2) hx hb hK (hp_one (Y.1 a _ ha)) 0 0 rfl rfl hi hdg kk
theorem hp_cald (X : hp_X p s m args meth c cc nL own Ts ret G) (Y : hp_Y G h h0 s H locs) {a : Nat} {i v : Int32} (hv : hp_ai h 1 a i = some v) (hdg : decode cc pc = .ok (.caload, 1))
    (kk : W p l e R s m args below meth c H locs cells slots Q (F0 m (pc + 1) ls (.int v :: rest))) : W p l e R s m args below meth c H locs cells slots Q (F0 m pc ls (.int i :: .ref a :: rest)) := by
  obtain ⟨hx, hb, hml, hown, hts, hK, hr, hlk⟩ := X
  obtain ⟨n, f, ha, hi, rfl⟩ := hp_ai_spec hv
  exact va_cald (D := G.1) (cl := vwCl) (ws := [(a, .inl (G.2.2.1, n, .inl f))]) (tys := hp_tys G.2) hx hb hK (hp_one (Y.1 a _ ha)) 0 1 rfl rfl hi hdg kk
theorem hp_aald (X : hp_X p s m args meth c cc nL own Ts ret G) (Y : hp_Y G h h0 s H locs) {a v : Nat} {i : Int32} (hv : hp_ar h a i = some v) (hdg : decode cc pc = .ok (.aaload, 1))
    (kk : W p l e R s m args below meth c H locs cells slots Q (F0 m (pc + 1) ls (.ref v :: rest))) : W p l e R s m args below meth c H locs cells slots Q (F0 m pc ls (.int i :: .ref a :: rest)) := by
  obtain ⟨hx, hb, hml, hown, hts, hK, hr, hlk⟩ := X
  obtain ⟨n, f, ha, hi, hf⟩ := hp_ar_spec hv
  refine va_aldq (D := G.1) (cl := vwCl) (ws := [(a, .inl (G.2.2.2.2, n, .inr (.inr (.inr (.inr f)))))]) (tys := hp_tys G.2) (C := RX4) hx hb hK (hp_one (Y.1 a _ ha)) 0 3 rfl rfl hi hdg ?_
  rw [hf]
  exact kk
theorem hp_iast (X : hp_X p s m args meth c cc nL own Ts ret G) (Y : hp_Y G h h0 s H locs) {a : Nat} {i v : Int32} (hv : hp_si h 0 a i v = some h') (hdg : decode cc pc = .ok (.iastore, 1))
    (kk : ∀ (H1 : Heap) (locs1 : List Loc), hp_Y G h' h0 s H1 locs1 → W p l e R s m args below meth c H1 locs1 cells slots Q (F0 m (pc + 1) ls rest)) : W p l e R s m args below meth c H locs cells slots Q (F0 m pc ls (.int v :: .int i :: .ref a :: rest)) := by
  obtain ⟨hx, hb, hml, hown, hts, hK, hr, hlk⟩ := X
  obtain ⟨n, f, ha, hi, rfl⟩ := hp_si_spec hv
  refine W.iast hx hb (Y.1 a _ ha) ((hK.2 0 _ rfl).1 n (fun j => .int (f j))) (fun q => by cases q) (by show ¬ (i < 0 ∨ (arrV _ _ _).slots.size ≤ _); rw [arrV_size]; exact hi) rfl rfl hdg fun H1 e z oq => ?_
  refine kk H1 _ (Y.up ha ?_ z oq)
  show H1[a]? = some (vp_cell _ _)
  rw [e]
  show some (Cell.setSlot (vp_cell _ (n, Sum.inl f)) _ _) = some (vp_cell _ (n, Sum.inl _))
  rw [vp_cell_i, vp_cell_i, arrV_store]
  congr 2
  funext q
  by_cases hq : q = i.toNatClampNeg
  · subst hq
    simp [updV, upd]
  · simp [updV, upd, hq]
theorem hp_cast (X : hp_X p s m args meth c cc nL own Ts ret G) (Y : hp_Y G h h0 s H locs) {a : Nat} {i v : Int32} (hv : hp_si h 1 a i (vp_nar .char v) = some h') (hdg : decode cc pc = .ok (.castore, 1))
    (kk : ∀ (H1 : Heap) (locs1 : List Loc), hp_Y G h' h0 s H1 locs1 → W p l e R s m args below meth c H1 locs1 cells slots Q (F0 m (pc + 1) ls rest)) : W p l e R s m args below meth c H locs cells slots Q (F0 m pc ls (.int v :: .int i :: .ref a :: rest)) := by
  obtain ⟨hx, hb, hml, hown, hts, hK, hr, hlk⟩ := X
  obtain ⟨n, f, ha, hi, rfl⟩ := hp_si_spec hv
  refine W.cast hx hb (Y.1 a _ ha) ((hK.2 1 _ rfl).1 n (fun j => .int (f j))) (fun q => by cases q) (by show ¬ (i < 0 ∨ (arrV _ _ _).slots.size ≤ _); rw [arrV_size]; exact hi) rfl rfl hdg fun H1 e z oq => ?_
  refine kk H1 _ (Y.up ha ?_ z oq)
  show H1[a]? = some (vp_cell _ _)
  rw [e]
  show some (Cell.setSlot (vp_cell _ (n, Sum.inl f)) _ _) = some (vp_cell _ (n, Sum.inl _))
  rw [vp_cell_i, vp_cell_i, arrV_store]
  congr 2
  funext q
  by_cases hq : q = i.toNatClampNeg
  · subst hq
    simp [updV, upd, vp_nar]
    try rfl
  · simp [updV, upd, hq]
theorem hp_last (X : hp_X p s m args meth c cc nL own Ts ret G) (Y : hp_Y G h h0 s H locs) {a : Nat} {i : Int32} {v : Int64} (hv : hp_sj h a i v = some h') (hdg : decode cc pc = .ok (.lastore, 1))
    (kk : ∀ (H1 : Heap) (locs1 : List Loc), hp_Y G h' h0 s H1 locs1 → W p l e R s m args below meth c H1 locs1 cells slots Q (F0 m (pc + 1) ls rest)) : W p l e R s m args below meth c H locs cells slots Q (F0 m pc ls (.long v :: .int i :: .ref a :: rest)) := by
  obtain ⟨hx, hb, hml, hown, hts, hK, hr, hlk⟩ := X
  obtain ⟨n, f, ha, hi, rfl⟩ := hp_sj_spec hv
  refine W.last hx hb (Y.1 a _ ha) ((hK.2 2 _ rfl).1 n (fun j => .long (f j))) (fun q => by cases q) (by show ¬ (i < 0 ∨ (arrV _ _ _).slots.size ≤ _); rw [arrV_size]; exact hi) rfl rfl hdg fun H1 e z oq => ?_
  refine kk H1 _ (Y.up ha ?_ z oq)
  show H1[a]? = some (vp_cell _ _)
  rw [e]
  show some (Cell.setSlot (arrV _ n (fun j => Value.long (f j))) _ _) = some (arrV _ n (fun j => Value.long (vp_updL f i.toNatClampNeg v j)))
  rw [arrV_store]
  congr 2
  funext q
  by_cases hq : q = i.toNatClampNeg
  · subst hq
    simp [updV, vp_updL]
  · simp [updV, vp_updL, hq]
/-- System.arraycopy(a, 0, b, 0, n) of ints -/
theorem hp_acp (X : hp_X p s m args meth c cc nL own Ts ret G) (Y : hp_Y G h h0 s H locs) (hsz : ls.size = nL) {index a b : Nat} {n : Int32} (l1 : Cond.methodLink own index arraycopyName ∈ Ts) (l2 : Cond.native arraycopyName ∈ Ts) (l3 : Cond.static arraycopyName ∈ Ts) (l4 : Cond.initialized "java/lang/System" ∈ Ts)
    (hframes : 1 ≤ R.frames) (hlocals : (rest.map fun v => v.category).sum + (nativeFrameWords "java/lang/System" "arraycopy" 5 + 11) ≤ R.locals) (hv : hp_cp h a b n = some h') (hdg : decode cc pc = .ok (.invokestatic index, 3))
    (kk : ∀ (H1 : Heap) (locs1 : List Loc), hp_Y G h' h0 s H1 locs1 → W p l e R s m args below meth c H1 locs1 cells slots Q (F0 m (pc + 3) ls rest)) : W p l e R s m args below meth c H locs cells slots Q (F0 m pc ls (.int n :: .int 0 :: .ref b :: .int 0 :: .ref a :: rest)) := by
  obtain ⟨hx, hb, hml, hown, hts, hK, hr, hlk⟩ := X
  obtain ⟨na, f, nb, g, ea, eb, hab, h3, h4, h5, rfl⟩ := hp_cp_spec hv
  have nn : ∀ z : Int32, ¬ z < 0 → z.toInt = (z.toNatClampNeg : Int) := by
    intro z hz
    have hz0 : (0 : Int) ≤ z.toInt := by
      have := Int32.not_lt.mp hz
      simpa using Int32.le_iff_toInt_le.mp this
    show z.toInt = ((z.toInt.toNat : Nat) : Int)
    omega
  have z0 : (0 : Int32).toNatClampNeg = 0 := rfl
  have z1 : ¬ (0 : Int32) < 0 := by decide
  intro T hT X
  have hc0 : H[a]? = some (vp_cell G.2.1 (na, .inl f)) := Y.1 a _ ea
  have hc1 : H[b]? = some (vp_cell G.2.1 (nb, .inl g)) := Y.1 b _ eb
  obtain ⟨-, k0, hk0, cm0, hkk0⟩ := (hK.2 0 _ rfl).1 na (fun j => .int (f j))
  obtain ⟨-, k1, hk1, cm1, hkk1⟩ := (hK.2 0 _ rfl).1 nb (fun j => .int (g j))
  obtain ⟨vm', X', step⟩ := X.arraycopy hx hown (hts _ l1) (hts _ l2) (hts _ l3) (hts _ l4) (src := a) (dst := b) (cs := vp_cell G.2.1 (na, .inl f)) (cd := vp_cell G.2.1 (nb, .inl g)) (srcPos := 0) (destPos := 0) (n := n) (by rw [hT]; exact hc0) (by rw [hT]; exact hc1)
    (fun _ h => by cases h) (fun _ h => by cases h) (fun h => by cases h) (fun h => by cases h) hk0 hk1 hkk0 hkk1 (by simp [refKind]) z1 z1 h3
    (by rw [nn 0 z1, nn n h3, z0]; show ¬ _ > ((arrV _ na (fun j => Value.int (f j))).slots.size : Int); rw [arrV_size]; omega)
    (by rw [nn 0 z1, nn n h3, z0]; show ¬ _ > ((arrV _ nb (fun j => Value.int (g j))).slots.size : Int); rw [arrV_size]; omega)
    (fun vm₁ _ i hi => by
      have e : (vp_cell G.2.1 (na, .inl f)).slots.getD ((0 : Int32).toNatClampNeg + i) .null = .int (f ((0 : Int32).toNatClampNeg + i)) := by
        show (arrV _ na (fun j => Value.int (f j))).slots.getD _ _ = _
        rw [Array.getD_eq_getD_getElem?, arrV_read _ _ (by rw [z0]; omega)]
        rfl
      refine ⟨?_, ?_⟩
      · rw [e]
        rfl
      · rw [e]
        exact trivial)
    (g := F0 m pc ls (.int n :: .int 0 :: .ref b :: .int 0 :: .ref a :: rest)) rfl (by rw [hml]; exact hsz) (rest := rest) rfl (by rw [hb]; exact hdg) hframes (by show 2 * 0 + _ + _ ≤ _; omega)
  have e1 : copied (vp_cell G.2.1 (na, .inl f)) (vp_cell G.2.1 (nb, .inl g)) 0 0 n = vp_cell G.2.1 (nb, .inl (va_cpy f g 0 0 n.toNatClampNeg)) := va_copied (fun z => .int z) G.2.1 G.2.1 f g (by rw [z0]; omega)
  rw [e1] at X' step
  have hl : b < H.size := (Array.getElem?_eq_some_iff.mp hc1).1
  have hheap : ((T.setVm vm').setCell b (vp_cell G.2.1 (nb, .inl (va_cpy f g 0 0 n.toNatClampNeg)))).heap = H.setIfInBounds b (vp_cell G.2.1 (nb, .inl (va_cpy f g 0 0 n.toNatClampNeg))) := by rw [← hT]; rfl
  have oq : ∀ q : Nat, q ≠ b → (H.setIfInBounds b (vp_cell G.2.1 (nb, .inl (va_cpy f g 0 0 n.toNatClampNeg))))[q]? = H[q]? := fun q hq => by simp [Array.getElem?_setIfInBounds, Ne.symm hq]
  have hbn : h b ≠ none := by rw [eb]; exact fun q => by cases q
  obtain ⟨t, a1, b1⟩ := kk _ _ ⟨Y.1.up (e := .inl (0, nb, va_cpy f g 0 0 n.toNatClampNeg)) (show (H.setIfInBounds b _)[b]? = some _ by simp [Array.getElem?_setIfInBounds, hl]; rfl) oq, Y.2.1.up hbn _, by simp; exact Y.2.2.1, fun q g1 g2 => by
      rw [oq q (fun e => g2 (by rw [e]; exact Y.2.1 b hbn))]
      exact Y.2.2.2.1 q g1 g2, fun q hq => by
      rcases List.mem_append.mp hq with h | h
      · exact Y.2.2.2.2 q h
      · obtain ⟨z, -, hz⟩ := List.mem_map.mp h
        rw [← hz]
        exact Y.2.1 b hbn⟩ _ hheap X'
  exact ⟨t, step t a1, b1⟩
/-- calls: what a callee needs, out of the words -/
theorem hp_recv (X : hp_X p s m args meth c cc nL own Ts ret G) (Y : hp_Y G h h0 s H locs) {b ci : Nat} {q : vw_C} (hc : vwCl[ci]? = some q) (ho : hp_o h b ci = true) : ∃ cell : Cell, H[b]? = some cell ∧ cell.vm.isStatics = false ∧ s.vm.findClass q.1 = some cell.cls := by
  obtain ⟨fs, ha⟩ := hp_o_spec ho
  exact va_recv (ws := [(b, .inr (ci, fs))]) X.2.2.2.2.2.1 (hp_one (Y.1 b _ ha)) hc (q0 := 0) rfl
theorem hp_pre (X : hp_X p s m args meth c cc nL own Ts ret G) (Y : hp_Y G h h0 s H locs) {av : List Value} : ∀ U : State, U.heap = H → s.WarmedH U.vm → va_Pc av (hp_S G h) av.toArray U := fun U hU hW => ⟨rfl, by rw [hU]; exact Y.1, va_K.moved hW.alike X.2.2.2.2.2.1⟩
theorem hp_back (Y : hp_Y G h h0 s H locs) {H1 : Heap} {locs1 : List Loc} {t : State} (ht : t.heap = H1) (hB : hp_B G h h' t) (hS : va_S (hp_A h0) s.heap H1 locs1) : hp_Y G h' h0 s H1 locs1 := by
  obtain ⟨h1, h2, h3⟩ := hB
  rw [ht] at h1
  exact ⟨h1, h3.tr Y.2.1, hS⟩
section CALLS
variable {y : MethodName} {ws ws' : List Cond} {rm : Room} {bytes : ByteArray} {maxL index n ci b : Nat} {rty : Option FieldType} {As : List Value} {T : u_T} {N : Nat}
theorem hp_runV (X : hp_X p s m args meth c cc nL own Ts ret G) (Y : hp_Y G h h0 s H locs) {Qc : Array Value → State → Outcome → State → Prop} (hM : Met l y ws rm (va_Pc (.ref b :: As) (hp_S G h)) Qc 0 0 (hp_A h))
    (hc : vwCl[ci]? = some (y.cls, T, N)) (ho : hp_o h b ci = true) (hT : GoodIn Ts (wsV own index y.cls y ws)) (hw : ws = Cond.code y bytes maxL rty :: ws') (hrc : rm.cells = 0) (hrs : rm.slots = 0)
    (hd : y.cls ≠ "java/lang/invoke/MethodHandle" ∧ y.cls ≠ "java/lang/invoke/VarHandle" ∧ (parseMethodDescriptor y.desc).map (fun d => d.parameters.length) = some n) (hR : rm.frames + 1 ≤ R.frames ∧ 8 + (maxL + 11) + rm.locals ≤ R.locals)
    (hn : As.length = n) (hsize : ls.size = nL) {st0 : List Value} (hst : st0 = As.reverse ++ .ref b :: rest) (hW : (rest.map fun v => v.category).sum ≤ 8) (hdg : decode cc pc = .ok (.invokevirtual index, 3)) (hf : cells ≤ R.cells ∧ slots ≤ R.slots) :
    va_Run p l e R s m args below meth c H locs cells slots 0 0 (F0 m pc ls st0) rest (Qc (Value.ref b :: As).toArray) (hp_A h) :=
  va_runV ⟨X.1, X.2.1, X.2.2.1, X.2.2.2.1, X.2.2.2.2.1⟩ hM (cwV n X.2.2.2.2.1 hT hw hrc hrs ⟨rfl, hd⟩ hR) ⟨hp_blind G h _, hp_recv X Y hc ho, hp_pre X Y⟩ rfl hn hsize hst (lv_room hW) hdg ⟨hf.1, hf.2⟩
theorem hp_runS (X : hp_X p s m args meth c cc nL own Ts ret G) (Y : hp_Y G h h0 s H locs) {Qc : Array Value → State → Outcome → State → Prop} (hM : Met l y ws rm (va_Pc As (hp_S G h)) Qc 0 0 (hp_A h))
    (hT : GoodIn Ts (va_wsS own index y ws)) (hw : ws = Cond.code y bytes maxL rty :: ws') (hrc : rm.cells = 0) (hrs : rm.slots = 0)
    (hd : y.cls ≠ "java/lang/invoke/MethodHandle" ∧ y.cls ≠ "java/lang/invoke/VarHandle" ∧ (parseMethodDescriptor y.desc).map (fun d => d.parameters.length) = some n) (hR : rm.frames + 1 ≤ R.frames ∧ 8 + (maxL + 11) + rm.locals ≤ R.locals)
    (hn : As.length = n) (hsize : ls.size = nL) {st0 : List Value} (hst : st0 = As.reverse ++ rest) (hW : (rest.map fun v => v.category).sum ≤ 8) (hdg : decode cc pc = .ok (.invokestatic index, 3)) (hf : cells ≤ R.cells ∧ slots ≤ R.slots) :
    va_Run p l e R s m args below meth c H locs cells slots 0 0 (F0 m pc ls st0) rest (Qc As.toArray) (hp_A h) :=
  va_runS ⟨X.1, X.2.1, X.2.2.1, X.2.2.2.1, X.2.2.2.2.1⟩ hM (va_cwS n X.2.2.2.2.1 hT hw hrc hrs hd hR) ⟨hp_blind G h _, hp_pre X Y⟩ rfl hn hsize hst (lv_room hW) hdg ⟨hf.1, hf.2⟩
theorem hp_ci (Y : hp_Y G h h0 s H locs) {a : Array Value} {r : Int32} {st0 : List Value} (hr : va_Run p l e R s m args below meth c H locs cells slots 0 0 (F0 m pc ls st0) rest (va_Qi (fun r' u => r' = r ∧ u = h') (hp_B G h) (hp_A h) a) (hp_A h))
    (kk : ∀ (H1 : Heap) (locs1 : List Loc), hp_Y G h' h0 s H1 locs1 → W p l e R s m args below meth c H1 locs1 cells slots Q (F0 m (pc + 3) ls (.int r :: rest))) : W p l e R s m args below meth c H locs cells slots Q (F0 m pc ls st0) :=
  va_calli hr Y.2.2 (fun q _ z => Y.2.1 q z) Y.2.1 (fun r' u t H1 locs1 ht hvm hp hB hz hk hS => by
    obtain ⟨rfl, rfl⟩ := hp
    exact kk H1 locs1 (hp_back Y ht hB hS))
theorem hp_cj (Y : hp_Y G h h0 s H locs) {a : Array Value} {r : Int64} {st0 : List Value} (hr : va_Run p l e R s m args below meth c H locs cells slots 0 0 (F0 m pc ls st0) rest (va_Ql (fun r' u => r' = r ∧ u = h') (hp_B G h) (hp_A h) a) (hp_A h))
    (kk : ∀ (H1 : Heap) (locs1 : List Loc), hp_Y G h' h0 s H1 locs1 → W p l e R s m args below meth c H1 locs1 cells slots Q (F0 m (pc + 3) ls (.long r :: rest))) : W p l e R s m args below meth c H locs cells slots Q (F0 m pc ls st0) :=
  va_calll hr Y.2.2 (fun q _ z => Y.2.1 q z) Y.2.1 (fun r' u t H1 locs1 ht hvm hp hB hz hk hS => by
    obtain ⟨rfl, rfl⟩ := hp
    exact kk H1 locs1 (hp_back Y ht hB hS))
theorem hp_cv (Y : hp_Y G h h0 s H locs) {a : Array Value} {st0 : List Value} (hr : va_Run p l e R s m args below meth c H locs cells slots 0 0 (F0 m pc ls st0) rest (va_Qv (fun u => u = h') (hp_B G h) (hp_A h) a) (hp_A h))
    (kk : ∀ (H1 : Heap) (locs1 : List Loc), hp_Y G h' h0 s H1 locs1 → W p l e R s m args below meth c H1 locs1 cells slots Q (F0 m (pc + 3) ls rest)) : W p l e R s m args below meth c H locs cells slots Q (F0 m pc ls st0) :=
  va_callv hr Y.2.2 (fun q _ z => Y.2.1 q z) Y.2.1 (fun u t H1 locs1 ht hvm hp hB hz hk hS => by
    subst hp
    exact kk H1 locs1 (hp_back Y ht hB hS))
theorem hp_cr (Y : hp_Y G h h0 s H locs) {a : Array Value} {r : Nat} {st0 : List Value} (hr : va_Run p l e R s m args below meth c H locs cells slots 0 0 (F0 m pc ls st0) rest (va_Qr (fun u => u = h') (fun u ra t => hp_B G h u t ∧ ra = r) (hp_A h) a) (hp_A h))
    (kk : ∀ (H1 : Heap) (locs1 : List Loc), hp_Y G h' h0 s H1 locs1 → W p l e R s m args below meth c H1 locs1 cells slots Q (F0 m (pc + 3) ls (.ref r :: rest))) : W p l e R s m args below meth c H locs cells slots Q (F0 m pc ls st0) :=
  va_callr hr Y.2.2 (fun q _ z => Y.2.1 q z) Y.2.1 (fun u ra t H1 locs1 ht hvm hp hB hz hk hS => by
    subst hp
    obtain ⟨hB, rfl⟩ := hB
    exact kk H1 locs1 (hp_back Y ht hB hS))
end CALLS
/-- a method's last instruction -/
theorem hp_ri (X : hp_X p s m args meth c cc nL own Ts ret G) (Y : hp_Y G h h0 s H locs) {ty : FieldType} (hr : ret = some ty) {v : Int32} (hn : narrow ty (.int v) = .int v) (hdg : decode cc pc = .ok (.ireturn, 1)) :
    W p l e R s m args below meth c H locs cells slots (MQ below (va_Qi (fun r' u => r' = v ∧ u = h) (hp_B G h0) (hp_A h0)) args s cells slots (hp_A h0)) (F0 m pc ls [.int v]) :=
  W.zret X.1 X.2.1 (X.2.2.2.2.2.2.1.trans hr) hn (fun t ht hW => ⟨⟨v, h, rfl, ⟨rfl, rfl⟩, by rw [ht]; exact Y.1, va_K.moved hW.alike X.2.2.2.2.2.1, Y.2.1⟩, Y.2.2.F ht⟩) Y.2.2.2.2 hdg X.2.2.2.2.2.2.2
theorem hp_rj (X : hp_X p s m args meth c cc nL own Ts ret G) (Y : hp_Y G h h0 s H locs) (hr : ret = some .long) {v : Int64} (hdg : decode cc pc = .ok (.lreturn, 1)) :
    W p l e R s m args below meth c H locs cells slots (MQ below (va_Ql (fun r' u => r' = v ∧ u = h) (hp_B G h0) (hp_A h0)) args s cells slots (hp_A h0)) (F0 m pc ls [.long v]) :=
  W.lret X.1 X.2.1 (X.2.2.2.2.2.2.1.trans hr) (fun t ht hW => ⟨⟨v, h, rfl, ⟨rfl, rfl⟩, by rw [ht]; exact Y.1, va_K.moved hW.alike X.2.2.2.2.2.1, Y.2.1⟩, Y.2.2.F ht⟩) Y.2.2.2.2 hdg X.2.2.2.2.2.2.2
theorem hp_rv (X : hp_X p s m args meth c cc nL own Ts ret G) (Y : hp_Y G h h0 s H locs) (hr : ret = none) (hdg : decode cc pc = .ok (.return_, 1)) :
    W p l e R s m args below meth c H locs cells slots (MQ below (va_Qv (fun u => u = h) (hp_B G h0) (hp_A h0)) args s cells slots (hp_A h0)) (F0 m pc ls []) :=
  W.vret X.1 X.2.1 (X.2.2.2.2.2.2.1.trans hr) (fun t ht hW => ⟨⟨h, rfl, rfl, by rw [ht]; exact Y.1, va_K.moved hW.alike X.2.2.2.2.2.1, Y.2.1⟩, Y.2.2.F ht⟩) Y.2.2.2.2 hdg X.2.2.2.2.2.2.2
theorem hp_rr (X : hp_X p s m args meth c cc nL own Ts ret G) (Y : hp_Y G h h0 s H locs) {rt : FieldType} (hr : ret = some rt) (hrt : (∃ n, rt = .object n) ∨ ∃ t, rt = .array t) {v : Nat} (hdg : decode cc pc = .ok (.areturn, 1)) :
    W p l e R s m args below meth c H locs cells slots (MQ below (va_Qr (fun u => u = h) (fun u ra t => hp_B G h0 u t ∧ ra = v) (hp_A h0)) args s cells slots (hp_A h0)) (F0 m pc ls [.ref v]) :=
  W.aret X.1 X.2.1 (X.2.2.2.2.2.2.1.trans hr) hrt (Or.inr ⟨v, rfl⟩) (fun t ht hW => ⟨⟨h, v, rfl, rfl, ⟨by rw [ht]; exact Y.1, va_K.moved hW.alike X.2.2.2.2.2.1, Y.2.1⟩, rfl⟩, Y.2.2.F ht⟩) Y.2.2.2.2 hdg X.2.2.2.2.2.2.2
/-- a contract out of its body -/
theorem hp_met {y : MethodName} {ws ws' : List Cond} {rm : Room} {av : List Value} {Qc : Array Value → State → Outcome → State → Prop} (hy : plainName y.cls = true) (hw : ws = Cond.code y cc nL ret :: ws')
    (body : ∀ {p : Program} {e : Env} {s : State} {m : MethodId} {below : List Frame} {meth : Method} {c : Code}, hp_X p s m av.toArray meth c cc nL y.cls ws ret G → hp_Y G h h s s.heap [] → W p l e rm s m av.toArray below meth c s.heap [] 0 0 (MQ below Qc av.toArray s 0 0 (hp_A h)) (entryFrame m av.toArray nL)) :
    Met l y ws rm (va_Pc av (hp_S G h)) Qc 0 0 (hp_A h) := by
  refine Met.ofW (cc := cc) (maxL := nL) (ret := ret) hy hw ?_
  intro p e s m args below meth c s₁ B hml hv
  obtain ⟨rfl, hP, hK⟩ := hv
  exact body ⟨B.exec, B.bytes, hml, findClass_of_methodNamed B.named, atoms_spec (ws := ws) B.pre, hK, B.returns, B.notSynchronized⟩ ⟨hP, hp_le.rf, va_S.rf⟩
end HPW
