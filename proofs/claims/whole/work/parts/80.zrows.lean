/-! MAKING THINGS: the heap's size is known, a new cell lies at it -/
def hp_U (h : hp_H) (n : Nat) : hp_H := fun q => if n ≤ q then some (.inr (.inr (.inr (0, [])))) else h q
theorem hp_U_ge {h : hp_H} {n q : Nat} (hq : n ≤ q) : hp_U h n q ≠ none := by
  unfold hp_U
  rw [if_pos hq]
  exact fun z => nomatch z
theorem hp_U_le {h : hp_H} {n : Nat} : hp_le h (hp_U h n) := by
  intro q hq
  unfold hp_U
  split
  · exact fun z => nomatch z
  · exact hq
theorem hp_U_sub {h h0 : hp_H} {n : Nat} (hl : hp_le h h0) (ha : ∀ q, n ≤ q → h0 q ≠ none) : hp_le (hp_U h n) h0 := by
  intro q hq
  by_cases w : n ≤ q
  · exact ha q w
  · exact hl q (by unfold hp_U at hq; rwa [if_neg w] at hq)
/-- the links among nest mates that the constructors need -/
def hp_NW (U : State) : Prop := va_Nw (.methodLinkNest RX5 15 yX4_init RX5) U ∧ va_Nw (.methodLinkNest RX4 11 yX2_init RX5) U ∧ va_Nw (.methodLinkNest RX5 25 yX1_init RX5) U ∧ va_Nw (.methodLinkNest RX1 11 yX2_init RX5) U ∧ va_Nw (.methodLinkNest RX0 13 yX2_init RX5) U ∧ va_Nw (.methodLinkNest RX5 39 yX3_init RX5) U ∧ va_Nw (.methodLinkNest RX5 32 yX0_init RX5) U
theorem hp_NW.same {u U : State} (h : u.vm = U.vm) (hZ : hp_NW u) : hp_NW U := ⟨va_Nw.same rfl h hZ.1, va_Nw.same rfl h hZ.2.1, va_Nw.same rfl h hZ.2.2.1, va_Nw.same rfl h hZ.2.2.2.1, va_Nw.same rfl h hZ.2.2.2.2.1, va_Nw.same rfl h hZ.2.2.2.2.2.1, va_Nw.same rfl h hZ.2.2.2.2.2.2⟩
theorem hp_NW.warm {s U : State} (hW : s.WarmedH U.vm) (hZ : hp_NW s) : hp_NW U := ⟨va_Nw.warmM hW hZ.1, va_Nw.warmM hW hZ.2.1, va_Nw.warmM hW hZ.2.2.1, va_Nw.warmM hW hZ.2.2.2.1, va_Nw.warmM hW hZ.2.2.2.2.1, va_Nw.warmM hW hZ.2.2.2.2.2.1, va_Nw.warmM hW hZ.2.2.2.2.2.2⟩
def hp_S2 (G : hp_G) (h : hp_H) (n : Nat) (U : State) : Prop := U.heap.size = n ∧ hp_P G h U.heap ∧ hp_K G U ∧ hp_NW U ∧ va_AO RX4 U
def hp_B2 (G : hp_G) (h0 : hp_H) (n : Nat) (u : hp_H) (t : State) : Prop := hp_B G h0 u t ∧ t.heap.size = n
/-- what moves while a constructor runs -/
def hp_Z (G : hp_G) (h h0 : hp_H) (s : State) (H : Heap) (locs : List Loc) (n : Nat) : Prop := hp_Y G h h0 s H locs ∧ H.size = n ∧ ∀ q, s.heap.size ≤ q → h0 q ≠ none
theorem hp_Z.above {G : hp_G} {h h0 : hp_H} {s : State} {H : Heap} {locs : List Loc} {n : Nat} (Z : hp_Z G h h0 s H locs n) : ∀ q, n ≤ q → h0 q ≠ none := fun q hq => Z.2.2 q (Nat.le_trans Z.1.2.2.1 (by rw [Z.2.1]; exact hq))
theorem hp_Z.lt {G : hp_G} {h h0 : hp_H} {s : State} {H : Heap} {locs : List Loc} {n a : Nat} (Z : hp_Z G h h0 s H locs n) {e : hp_C} (he : h a = some e) : a < n := by rw [← Z.2.1]; exact (Z.1.1 a e he).lt
theorem hp_blind2 (G : hp_G) (h : hp_H) (n : Nat) (av : List Value) : FrameBlind (va_Pc av (hp_S2 G h n)) := fun a U g mk q => ⟨q.1, q.2.1, q.2.2.1, va_K.moved (u := U) (U := U.calling g mk a) (Vm.Alike.refl U.vm) q.2.2.2.1, hp_NW.same (u := U) (U := U.calling g mk a) rfl q.2.2.2.2.1, va_AO.moved (u := U) (U := U.calling g mk a) (Vm.Alike.refl U.vm) q.2.2.2.2.2⟩
theorem hp_Z.grow {G : hp_G} {h h0 : hp_H} {s : State} {H H1 : Heap} {locs : List Loc} {n : Nat} (Z : hp_Z G h h0 s H locs n) {e : hp_C} (he : va_at G.1 vwCl (n, hp_E G.2 e) H1) (z1 : H1.size = H.size + 1) (o1 : ∀ q : Nat, q < H.size → H1[q]? = H[q]?) : hp_Z G (va_up h n (some e)) h0 s H1 locs (n + 1) := by
  have ha := Z.above
  obtain ⟨⟨hP, hl, hS⟩, hn, hU⟩ := Z
  refine ⟨⟨fun b e2 hb => ?_, fun q hq => ?_, Nat.le_trans hS.1 (by omega), fun x h1 h2 => (o1 x (Nat.lt_of_lt_of_le h1 hS.1)).trans (hS.2.1 x h1 h2), hS.2.2⟩, by omega, hU⟩
  · by_cases hba : b = n
    · subst hba; rw [va_up_self] at hb; cases hb; exact he
    · rw [va_up_ne _ _ hba] at hb; exact (hP b e2 hb).kept (o1 b (hP b e2 hb).lt)
  · by_cases hba : q = n
    · exact ha q (by omega)
    · rw [va_up_ne _ _ hba] at hq; exact hl q hq
section HZW
variable {p : Program} {l : Launch} {e : Env} {R : Room} {s : State} {m : MethodId} {args : Array Value} {below : List Frame} {meth : Method} {c : Code} {H : Heap} {locs : List Loc} {cells slots : Nat} {Q : State → Prop}
variable {cc : ByteArray} {nL : Nat} {own : String} {Ts : List Cond} {ret : Option FieldType} {G : hp_G} {h h0 h' : hp_H} {pc n : Nat} {ls : Array Slot} {rest : List Value}
/-- new -/
theorem hz_new (X : hp_X p s m args meth c cc nL own Ts ret G) (Z : hp_Z G h h0 s H locs n) {C : String} {T : u_T} {N ci index : Nat} {ty : Nat → FieldType} {fs : List Value} (hc : vwCl[ci]? = some (C, T, N)) (hin : ∀ w ∈ u_ws C T N, w ∈ Ts) (hty : ∀ k, k < N → parseFieldDescriptor (T k).2.2.1 = some (ty k)) (hcl : Cond.classLink own index C ∈ Ts) (hinst : Cond.instantiable C N ∈ Ts) (hini : Cond.initialized C ∈ Ts) (hfs : ∀ j, j < N → defaultValue (ty j) = vp_V fs j)
    (hcells : cells + 1 ≤ R.cells) (hslots : slots + N ≤ R.slots) (hdg : decode cc pc = .ok (.new index, 3))
    (kk : ∀ H1 : Heap, hp_Z G (va_up h n (some (.inr (.inr (.inr (ci, fs)))))) h0 s H1 locs (n + 1) → W p l e R s m args below meth c H1 locs (cells + 1) (slots + N) Q (F0 m (pc + 3) ls (.ref n :: rest))) : W p l e R s m args below meth c H locs cells slots Q (F0 m pc ls rest) := by
  obtain ⟨hx, hb, hml, hown, hts, hK, hr, hlk⟩ := X
  have hKn := hK.1 ci _ hc
  refine W.newcK hx hb hown (hts _ hcl) (hts _ hinst) (hts _ hini) rfl hdg hcells hslots hKn.2.1 rfl fun H1 kC hkC e1 z1 o1 => ?_
  have hz := Z.2.1
  have := kk H1 (Z.grow (e := .inr (.inr (.inr (ci, fs)))) ⟨_, hc, by rw [← hz]; exact (u_born ty hts hin hKn hkC e1 hty).to hfs⟩ z1 o1)
  rw [← hz] at this
  exact this
/-- newarray -/
theorem hz_newa (X : hp_X p s m args meth c cc nL own Ts ret G) (Z : hp_Z G h h0 s H locs n) {atype : ArrayType} {ty : FieldType} (harr : Cond.arrayClass (newarray.typeOf atype) ∈ Ts) (hty : newarray.typeOf atype = ty) {e0 : hp_C} {a0 : vp_A} {cA0 : ClassId} {t0 : Nat} (hE : hp_E G.2 e0 = .inl (cA0, a0)) (ht : (hp_tys G.2)[t0]? = some (cA0, ty)) (hRA : ∀ cA, va_RA s cA ty → s.vm.findClass ("[" ++ ty.toString) = some cA)
    {k : Int32} {N' : Nat} (ha : ∀ cA : ClassId, vp_cell cA a0 = arrV cA N' (fun _ => defaultValue ty)) (hk : ¬ k < 0) (hN : k.toNatClampNeg = N') (hbytes : N' * componentBytes ty ≤ 536870912) (hcells : cells + 1 ≤ R.cells) (hslots : slots + N' ≤ R.slots) (hdg : decode cc pc = .ok (.newarray atype, 2))
    (kk : ∀ H1 : Heap, hp_Z G (va_up h n (some e0)) h0 s H1 locs (n + 1) → W p l e R s m args below meth c H1 locs (cells + 1) (slots + N') Q (F0 m (pc + 2) ls (.ref n :: rest))) : W p l e R s m args below meth c H locs cells slots Q (F0 m pc ls (.int k :: rest)) := by
  subst hty
  obtain ⟨hx, hb, hml, hown, hts, hK, hr, hlk⟩ := X
  have hz := Z.2.1
  refine va_newaK hx hb (hts _ harr) rfl hdg rfl hk hN hbytes hcells hslots hz fun H1 cA e1 z1 o1 hAr hNm => ?_
  have e9 : cA0 = cA := Option.some.inj ((hRA cA0 (hK.2 t0 _ ht).2).symm.trans hNm)
  subst e9
  refine kk H1 (Z.grow (e := e0) ?_ (by rw [z1, hz]) (by rw [hz]; exact o1))
  rw [hE]
  show H1[n]? = some (vp_cell _ _)
  rw [ha]
  exact e1
/-- a final field -/
theorem hz_putF (X : hp_X p s m args meth c cc nL own Ts ret G) (Z : hp_Z G h h0 s H locs n) (hinit : meth.name = "<init>") {C : String} {T : u_T} {N ci k index a : Nat} {v : Value} {ty0 : Nat → FieldType} (hc : vwCl[ci]? = some (C, T, N)) (hin : ∀ w ∈ u_ws C T N, w ∈ Ts) (hty : ∀ k, k < N → parseFieldDescriptor (T k).2.2.1 = some (ty0 k)) (hnm : ∀ a, a < N → ∀ b, b < N → a ≠ b → (T a).2.1 ≠ (T b).2.1) (hk : k < N) (hl : Cond.fieldLink own index (T k).1 (T k).2.1 (T k).2.2.1 ∈ Ts) (hfin : (T k).2.2.2 = true) (hdecl : (T k).1 = own) (hn : narrow (ty0 k) v = v) (hfit : fits (ty0 k) v = true)
    (hv : hp_pv h a ci k v = some h') (hdg : decode cc pc = .ok (.putfield index, 3))
    (kk : ∀ (H1 : Heap) (locs1 : List Loc), hp_Z G h' h0 s H1 locs1 n → W p l e R s m args below meth c H1 locs1 cells slots Q (F0 m (pc + 3) ls rest)) : W p l e R s m args below meth c H locs cells slots Q (F0 m pc ls (v :: .ref a :: rest)) := by
  obtain ⟨hx, hb, hml, hown, hts, hK, hr, hlk⟩ := X
  obtain ⟨fs, ha, hlen, rfl⟩ := hp_pv_spec hv
  have hap := va_apart (D := G.1) (cl := vwCl) (tys := hp_tys G.2) (own := own) hts hin ty0 hty hnm hK hc
  obtain ⟨r, h1, cell, q1, q2, q3, q4⟩ := Z.1.1 a _ ha
  have hr' : r = (C, T, N) := Option.some.inj (h1.symm.trans hc)
  subst hr'
  obtain ⟨hS, hfc, kC, hkC, hkind⟩ := hK.1 ci _ hc
  obtain ⟨cf, kf, fi, f, hi, hsl⟩ := hS k hk
  have hlay := hts _ (hin _ (u_in_lay hk))
  unfold u_lay at hlay
  rw [if_pos hfin] at hlay
  have hst := (u_facts hfc hkC (u_lays hts hin hk) hi).1
  have hcf : m.cls = cf := by
    obtain ⟨_, _, c', _, _, _, -, -, hf', -, -, -, hown2, -⟩ := Cond.laysFinal_spec hlay
    have e1 : c' = cf := by have := hi.symm.trans hf'; simp at this; exact this.1.symm
    rw [hdecl] at hown2
    rw [← e1]; exact Option.some.inj (hown.symm.trans hown2)
  have h6 := u_fits hfc hkC hkind (Or.inr hlay) hi (hty k hk) hn hfit
  refine W.putFinK hx hb hown (hts _ hl) hi hst hcf hinit (by rw [q2]; exact h6) q1 q3 (by rw [hsl]; exact k2_hasslot (q4 k hk)) rfl rfl hdg fun H' e1 e2 e3 => ?_
  rw [hsl] at e1 ⊢
  exact kk H' _ ⟨Z.1.up ha ⟨_, hc, t_OB.to (V := updV (vp_V fs) k v) ⟨_, e1, q2, q3, t_set q4 hap hk v⟩ (fun j _ => vp_updV_set hlen v j)⟩ e2 e3, e2.trans Z.2.1, Z.2.2⟩
/-- a field that isn't final -/
theorem hz_put (X : hp_X p s m args meth c cc nL own Ts ret G) (Z : hp_Z G h h0 s H locs n) {C : String} {T : u_T} {N ci k index a : Nat} {v : Value} {ty0 : Nat → FieldType} (hc : vwCl[ci]? = some (C, T, N)) (hin : ∀ w ∈ u_ws C T N, w ∈ Ts) (hty : ∀ k, k < N → parseFieldDescriptor (T k).2.2.1 = some (ty0 k)) (hnm : ∀ a, a < N → ∀ b, b < N → a ≠ b → (T a).2.1 ≠ (T b).2.1) (hk : k < N) (hl : Cond.fieldLink own index (T k).1 (T k).2.1 (T k).2.2.1 ∈ Ts) (hfin : (T k).2.2.2 = false) (hn : narrow (ty0 k) v = v) (hfit : fits (ty0 k) v = true)
    (hv : hp_pv h a ci k v = some h') (hdg : decode cc pc = .ok (.putfield index, 3))
    (kk : ∀ (H1 : Heap) (locs1 : List Loc), hp_Z G h' h0 s H1 locs1 n → W p l e R s m args below meth c H1 locs1 cells slots Q (F0 m (pc + 3) ls rest)) : W p l e R s m args below meth c H locs cells slots Q (F0 m pc ls (v :: .ref a :: rest)) := by
  obtain ⟨hx, hb, hml, hown, hts, hK, hr, hlk⟩ := X
  obtain ⟨fs, ha, hlen, rfl⟩ := hp_pv_spec hv
  have hap := va_apart (D := G.1) (cl := vwCl) (tys := hp_tys G.2) (own := own) hts hin ty0 hty hnm hK hc
  obtain ⟨r, h1, cell, q1, q2, q3, q4⟩ := Z.1.1 a _ ha
  have hr' : r = (C, T, N) := Option.some.inj (h1.symm.trans hc)
  subst hr'
  obtain ⟨hS, hfc, kC, hkC, hkind⟩ := hK.1 ci _ hc
  obtain ⟨cf, kf, fi, f, hi, hsl⟩ := hS k hk
  have hlay := hts _ (hin _ (u_in_lay hk))
  unfold u_lay at hlay
  rw [if_neg (by rw [hfin]; decide)] at hlay
  have hst := (u_facts hfc hkC (u_lays hts hin hk) hi).1
  have h6 := u_store hfc hkC hkind hlay hi (hty k hk) hn hfit
  refine W.putK hx hb (f := f) ⟨hown, hts _ hl, ⟨_, _, _, hi⟩, hst⟩ (by rw [q2]; exact h6) q1 q3 (by rw [hsl]; exact k2_hasslot (q4 k hk)) rfl rfl hdg fun H' e1 e2 e3 => ?_
  rw [hsl] at e1 ⊢
  exact kk H' _ ⟨Z.1.up ha ⟨_, hc, t_OB.to (V := updV (vp_V fs) k v) ⟨_, e1, q2, q3, t_set q4 hap hk v⟩ (fun j _ => vp_updV_set hlen v j)⟩ e2 e3, e2.trans Z.2.1, Z.2.2⟩
/-- anewarray of Whole -/
theorem hz_newq (X : hp_X p s m args meth c cc nL own Ts ret G) (Z : hp_Z G h h0 s H locs n) {index : Nat} (hcl : Cond.classLink own index RX4 ∈ Ts) (hover : va_AO RX4 s) {k : Int32} {N' : Nat} (hk : ¬ k < 0) (hN : k.toNatClampNeg = N') (hbytes : N' * 4 ≤ 536870912) (hcells : cells + 1 ≤ R.cells) (hslots : slots + N' ≤ R.slots) (hdg : decode cc pc = .ok (.anewarray index, 3))
    (kk : ∀ H1 : Heap, hp_Z G (va_up h n (some (.inr (.inr (.inl (N', fun _ => none)))))) h0 s H1 locs (n + 1) → W p l e R s m args below meth c H1 locs (cells + 1) (slots + N') Q (F0 m (pc + 3) ls (.ref n :: rest))) : W p l e R s m args below meth c H locs cells slots Q (F0 m pc ls (.int k :: rest)) := by
  subst hN
  obtain ⟨hx, hb, hml, hown, hts, hK, hr, hlk⟩ := X
  have hz := Z.2.1
  refine W.anew hx hb hown (hts _ hcl) (va_AO.use hover) rfl hdg rfl hk hbytes hcells hslots fun cA kA comp f1 f2 f3 f4 => ?_
  generalize hH1 : H.push ({ cls := cA, slots := Array.replicate k.toNatClampNeg .null, vm := .none } : Cell) = H1
  have z1 : H1.size = H.size + 1 := by rw [← hH1, Array.size_push]
  have e1 : H1[H.size]? = some (arrV cA k.toNatClampNeg (fun _ => .null)) := by rw [← hH1, Array.getElem?_push_size, ← arrV_new]
  have o1 : ∀ q : Nat, q < H.size → H1[q]? = H[q]? := fun q hq => by rw [← hH1, Array.getElem?_push, if_neg (Nat.ne_of_lt hq)]
  obtain ⟨kA2, comp2, k1, k2, k3, k4⟩ := (hK.2 3 (G.2.2.2.2, .object RX4) rfl).2
  have e9 : G.2.2.2.2 = cA := Option.some.inj (k4.symm.trans f1)
  have := kk H1 (Z.grow (e := .inr (.inr (.inl (k.toNatClampNeg, fun _ => none)))) (by
    show H1[n]? = some (vp_cell _ _)
    rw [e9, ← hz, vp_cell_q]
    exact e1) z1 o1)
  rw [← hz] at this
  exact this
/-- aastore of a Whole -/
theorem hz_aast (X : hp_X p s m args meth c cc nL own Ts ret G) (Z : hp_Z G h h0 s H locs n) {a v N' : Nat} {vs : List Value} {f : Nat → Option Nat} (ha : h a = some (.inr (.inr (.inl (N', f))))) (hv : h v = some (.inr (.inr (.inr (4, vs))))) {i : Int32} (hi : vp_in i N') (hdg : decode cc pc = .ok (.aastore, 1))
    (kk : ∀ (H1 : Heap) (locs1 : List Loc), hp_Z G (va_up h a (some (.inr (.inr (.inl (N', va_up f i.toNatClampNeg (some v))))))) h0 s H1 locs1 n → W p l e R s m args below meth c H1 locs1 cells slots Q (F0 m (pc + 1) ls rest)) : W p l e R s m args below meth c H locs cells slots Q (F0 m pc ls (.ref v :: .int i :: .ref a :: rest)) := by
  obtain ⟨hx, hb, hml, hown, hts, hK, hr, hlk⟩ := X
  have hlt : i.toNatClampNeg < N' := Nat.not_le.mp fun q => hi (Or.inr q)
  have h0' : ¬ i < 0 := fun q => hi (Or.inl q)
  obtain ⟨r', hr', cellV, g1, g2, g3, -⟩ := Z.1.1 v _ hv
  have hcls := (hK.1 4 _ (rfl : vwCl[4]? = some (RX4, TX4, 2))).2
  obtain ⟨kA, comp, k1, k2, k3, -⟩ := (hK.2 3 (G.2.2.2.2, .object RX4) rfl).2
  have hcomp : comp = G.1.1 4 := Option.some.inj (k3.symm.trans hcls.1)
  subst hcomp
  obtain ⟨kC, hkC, -⟩ := hcls.2
  refine W.aast hx hb (Z.1.1 a _ ha) (fun q h => by cases h) (fun h => by cases h) k1 k2 rfl hkC ⟨h0', by show _ < (arrV _ _ _).slots.size; rw [arrV_size]; exact hlt⟩ g1 (fun q h => by rw [g3] at h; cases h) (by rw [g2]; exact hkC) (by rw [g2]; exact va_assign hcls) rfl rfl hdg fun H1 e z oq => ?_
  refine kk H1 _ ⟨Z.1.up ha ?_ z oq, z.trans Z.2.1, Z.2.2⟩
  show H1[a]? = some (vp_cell _ _)
  rw [e]
  rw [vp_cell_q, vp_cell_q, arrV_store]
  congr 2
  funext q
  by_cases hq : q = i.toNatClampNeg
  · subst hq
    simp [updV, va_up, va_rf]
  · simp [updV, va_up, hq]
/-- a constructor's call -/
theorem hz_cv (Z : hp_Z G h h0 s H locs n) {a : Array Value} {st0 : List Value} {n' mc ms : Nat} (hr : va_Run p l e R s m args below meth c H locs cells slots mc ms (F0 m pc ls st0) rest (va_Qv (fun u => u = h') (hp_B2 G (hp_U h n) n') (hp_A (hp_U h n)) a) (hp_A (hp_U h n)))
    (kk : ∀ (H1 : Heap) (locs1 : List Loc), hp_Z G h' h0 s H1 locs1 n' → W p l e R s m args below meth c H1 locs1 (cells + mc) (slots + ms) Q (F0 m (pc + 3) ls rest)) : W p l e R s m args below meth c H locs cells slots Q (F0 m pc ls st0) :=
  have hU := hp_U_sub Z.1.2.1 Z.above
  va_callv hr Z.1.2.2 (fun q _ z => hU q z) hU (fun u t H1 locs1 ht hvm hp hB hz hk hS => by
    subst hp
    obtain ⟨⟨b1, b2, b3⟩, b4⟩ := hB
    rw [ht] at b1 b4
    exact kk H1 locs1 ⟨⟨b1, b3.tr hU, hS⟩, b4, Z.2.2⟩)
section HZC
variable {y : MethodName} {ws ws' : List Cond} {rm : Room} {bytes : ByteArray} {maxL index k b mc ms : Nat} {As : List Value}
theorem hz_runIN (X : hp_X p s m args meth c cc nL own Ts ret G) (Z : hp_Z G h h0 s H locs n) (NW : hp_NW s ∧ va_AO RX4 s) {Qc : Array Value → State → Outcome → State → Prop} (hM : Met l y ws rm (va_Pc (.ref b :: As) (hp_S2 G h n)) Qc mc ms (hp_A (hp_U h n)))
    (hl : va_Nw (.methodLinkNest own index y RX5) s) (hT : GoodIn Ts ws) (hw : ws = Cond.code y bytes maxL none :: ws') (hrc : rm.cells = mc) (hrs : rm.slots = ms) (hini : Cond.initialized y.cls ∈ Ts) (him : Cond.instanceMethod y ∈ Ts) (hy : y.name = "<init>")
    (hd : y.cls ≠ "java/lang/invoke/MethodHandle" ∧ y.cls ≠ "java/lang/invoke/VarHandle" ∧ (parseMethodDescriptor y.desc).map (fun d => d.parameters.length) = some k) (hR : rm.frames + 1 ≤ R.frames ∧ 8 + (maxL + 11) + rm.locals ≤ R.locals)
    (hn : As.length = k) (hsize : ls.size = nL) {st0 : List Value} (hst : st0 = As.reverse ++ .ref b :: rest) (hW : (rest.map fun v => v.category).sum ≤ 8) (hdg : decode cc pc = .ok (.invokespecial index, 3)) (hf : cells + mc ≤ R.cells ∧ slots + ms ≤ R.slots) :
    va_Run p l e R s m args below meth c H locs cells slots mc ms (F0 m pc ls st0) rest (Qc (Value.ref b :: As).toArray) (hp_A (hp_U h n)) :=
  va_runIN ⟨X.1, X.2.1, X.2.2.1, X.2.2.2.1, X.2.2.2.2.1⟩ hM ⟨va_cnB k X.2.2.2.2.1 hT hw hrc hrs hl (X.2.2.2.2.1 _ hini) hd hR, hy, X.2.2.2.2.1 _ him⟩ ⟨hp_blind2 G h n _, fun U hU hW => ⟨rfl, by rw [hU]; exact Z.2.1, by rw [hU]; exact Z.1.1, va_K.moved hW.alike X.2.2.2.2.2.1, hp_NW.warm hW NW.1, va_AO.moved hW.alike NW.2⟩⟩ rfl hn hsize hst (lv_room hW) hdg hf
theorem hz_runI (X : hp_X p s m args meth c cc nL own Ts ret G) (Z : hp_Z G h h0 s H locs n) (NW : hp_NW s ∧ va_AO RX4 s) {Qc : Array Value → State → Outcome → State → Prop} (hM : Met l y ws rm (va_Pc (.ref b :: As) (hp_S2 G h n)) Qc mc ms (hp_A (hp_U h n)))
    (hl : Cond.methodLink own index y ∈ Ts) (hT : GoodIn Ts ws) (hw : ws = Cond.code y bytes maxL none :: ws') (hrc : rm.cells = mc) (hrs : rm.slots = ms) (hini : Cond.initialized y.cls ∈ Ts) (him : Cond.instanceMethod y ∈ Ts) (hy : y.name = "<init>")
    (hd : y.cls ≠ "java/lang/invoke/MethodHandle" ∧ y.cls ≠ "java/lang/invoke/VarHandle" ∧ (parseMethodDescriptor y.desc).map (fun d => d.parameters.length) = some k) (hR : rm.frames + 1 ≤ R.frames ∧ 8 + (maxL + 11) + rm.locals ≤ R.locals)
    (hn : As.length = k) (hsize : ls.size = nL) {st0 : List Value} (hst : st0 = As.reverse ++ .ref b :: rest) (hW : (rest.map fun v => v.category).sum ≤ 8) (hdg : decode cc pc = .ok (.invokespecial index, 3)) (hf : cells + mc ≤ R.cells ∧ slots + ms ≤ R.slots) :
    va_Run p l e R s m args below meth c H locs cells slots mc ms (F0 m pc ls st0) rest (Qc (Value.ref b :: As).toArray) (hp_A (hp_U h n)) :=
  va_runI ⟨X.1, X.2.1, X.2.2.1, X.2.2.2.1, X.2.2.2.2.1⟩ hM (cwI k X.2.2.2.2.1 hT hw hrc hrs (X.2.2.2.2.1 _ hini) (X.2.2.2.2.1 _ hl) (X.2.2.2.2.1 _ him) hy hd hR) ⟨hp_blind2 G h n _, fun U hU hW => ⟨rfl, by rw [hU]; exact Z.2.1, by rw [hU]; exact Z.1.1, va_K.moved hW.alike X.2.2.2.2.2.1, hp_NW.warm hW NW.1, va_AO.moved hW.alike NW.2⟩⟩ rfl hn hsize hst (lv_room hW) hdg hf
end HZC
/-- a constructor's end -/
theorem hz_rv (X : hp_X p s m args meth c cc nL own Ts ret G) (Z : hp_Z G h h0 s H locs n) (hr : ret = none) (hdg : decode cc pc = .ok (.return_, 1)) :
    W p l e R s m args below meth c H locs cells slots (MQ below (va_Qv (fun u => u = h) (hp_B2 G h0 n) (hp_A h0)) args s cells slots (hp_A h0)) (F0 m pc ls []) :=
  W.vret X.1 X.2.1 (X.2.2.2.2.2.2.1.trans hr) (fun t ht hW => ⟨⟨h, rfl, rfl, ⟨by rw [ht]; exact Z.1.1, va_K.moved hW.alike X.2.2.2.2.2.1, Z.1.2.1⟩, by rw [ht]; exact Z.2.1⟩, Z.1.2.2.F ht⟩) Z.1.2.2.2.2 hdg X.2.2.2.2.2.2.2
/-- a constructor's contract out of its body -/
theorem hz_met {y : MethodName} {ws ws' : List Cond} {rm : Room} {av : List Value} {Qc : Array Value → State → Outcome → State → Prop} {mc ms : Nat} (hy : plainName y.cls = true) (hw : ws = Cond.code y cc nL ret :: ws') (hi : y.name = "<init>")
    (body : ∀ {p : Program} {e : Env} {s : State} {m : MethodId} {below : List Frame} {meth : Method} {c : Code}, hp_X p s m av.toArray meth c cc nL y.cls ws ret G → hp_Z G h (hp_U h n) s s.heap [] n → hp_NW s ∧ va_AO RX4 s → meth.name = "<init>" → W p l e rm s m av.toArray below meth c s.heap [] 0 0 (MQ below Qc av.toArray s mc ms (hp_A (hp_U h n))) (entryFrame m av.toArray nL)) :
    Met l y ws rm (va_Pc av (hp_S2 G h n)) Qc mc ms (hp_A (hp_U h n)) := by
  refine Met.ofW (cc := cc) (maxL := nL) (ret := ret) hy hw ?_
  intro p e s m args below meth c s₁ B hml hv
  obtain ⟨rfl, hn, hP, hK, hNW, hAO⟩ := hv
  exact body ⟨B.exec, B.bytes, hml, findClass_of_methodNamed B.named, atoms_spec (ws := ws) B.pre, hK, B.returns, B.notSynchronized⟩ ⟨⟨hP, hp_U_le, va_S.rf⟩, hn, fun q hq => hp_U_ge (by rw [← hn]; exact hq)⟩ ⟨hNW, hAO⟩ ((name_of_methodNamed B.named B.method).1.trans hi)
end HZW
