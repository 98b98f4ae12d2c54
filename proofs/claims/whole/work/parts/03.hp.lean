/-! AN ABSTRACT HEAP: cells by their addresses, as a function; the machine's rows over it.
A method's body is turned (by a program of this repository, wip/gen.py) into a function over such heaps, and its contract says:
where the function answers, the method answers so, and leaves the heap so. -/
/-- a cell: an array of ints or chars (kind 0 or 1, length, contents); of longs; of references to Whole; an object (class's number, fields) -/
abbrev hp_C : Type := (Nat × Nat × (Nat → Int32)) ⊕ ((Nat × (Nat → Int64)) ⊕ ((Nat × (Nat → Option Nat)) ⊕ (Nat × List Value)))
abbrev hp_H : Type := Nat → Option hp_C
abbrev hp_I : Type := ClassId × ClassId × ClassId × ClassId
abbrev hp_G : Type := va_G × hp_I
def hp_ka (c : hp_I) (k : Nat) : ClassId := if k = 0 then c.1 else c.2.1
def hp_E (c : hp_I) : hp_C → va_E
  | .inl a => .inl (hp_ka c a.1, a.2.1, .inl a.2.2)
  | .inr (.inl a) => .inl (c.2.2.1, a.1, .inr (.inl a.2))
  | .inr (.inr (.inl a)) => .inl (c.2.2.2, a.1, .inr (.inr (.inr (.inr a.2))))
  | .inr (.inr (.inr o)) => .inr o
def hp_tys (c : hp_I) : List (ClassId × FieldType) := [(c.1, .int), (c.2.1, .char), (c.2.2.1, .long), (c.2.2.2, .object RX4)]
def hp_P (G : hp_G) (h : hp_H) (H : Heap) : Prop := ∀ (a : Nat) (e : hp_C), h a = some e → va_at G.1 vwCl (a, hp_E G.2 e) H
def hp_K (G : hp_G) (U : State) : Prop := va_K G.1 vwCl (hp_tys G.2) U
def hp_le (h h0 : hp_H) : Prop := ∀ q : Nat, h q ≠ none → h0 q ≠ none
def hp_A (h : hp_H) : Nat → Prop := fun q => h q ≠ none
/-- a method's start -/
def hp_S (G : hp_G) (h : hp_H) (U : State) : Prop := hp_P G h U.heap ∧ hp_K G U
/-- a method's end -/
def hp_B (G : hp_G) (h0 : hp_H) (u : hp_H) (t : State) : Prop := hp_P G u t.heap ∧ hp_K G t ∧ hp_le u h0
/-- what stands while a method runs -/
def hp_X (p : Program) (s : State) (m : MethodId) (args : Array Value) (meth : Method) (c : Code) (cc : ByteArray) (nL : Nat) (own : String) (Ts : List Cond) (ret : Option FieldType) (G : hp_G) : Prop :=
  p.tables.exec = Jvm.exec ∧ c.code = cc ∧ c.maxLocals = nL ∧ s.vm.findClass own = some m.cls ∧ (∀ w ∈ Ts, w.before args s = true) ∧ hp_K G s ∧ meth.sig.returnType = ret ∧ meth.locks = false
/-- what moves while a method runs -/
def hp_Y (G : hp_G) (h h0 : hp_H) (s : State) (H : Heap) (locs : List Loc) : Prop := hp_P G h H ∧ hp_le h h0 ∧ va_S (hp_A h0) s.heap H locs
/-! reading and writing -/
def hp_gv (h : hp_H) (a ci k : Nat) : Option Value := match h a with
  | some (.inr (.inr (.inr (c, fs)))) => if c = ci then fs[k]? else none
  | _ => none
def hp_gi (h : hp_H) (a ci k : Nat) : Option Int32 := match hp_gv h a ci k with
  | some (.int v) => some v
  | _ => none
def hp_gj (h : hp_H) (a ci k : Nat) : Option Int64 := match hp_gv h a ci k with
  | some (.long v) => some v
  | _ => none
def hp_gr (h : hp_H) (a ci k : Nat) : Option Nat := match hp_gv h a ci k with
  | some (.ref v) => some v
  | _ => none
def hp_pv (h : hp_H) (a ci k : Nat) (v : Value) : Option hp_H := match h a with
  | some (.inr (.inr (.inr (c, fs)))) => if c = ci ∧ k < fs.length then some (va_up h a (some (.inr (.inr (.inr (c, fs.set k v)))))) else none
  | _ => none
def hp_ai (h : hp_H) (kd a : Nat) (i : Int32) : Option Int32 := match h a with
  | some (.inl (c, n, f)) => if c = kd ∧ ¬ (i < 0 ∨ n ≤ i.toNatClampNeg) then some (f i.toNatClampNeg) else none
  | _ => none
def hp_si (h : hp_H) (kd a : Nat) (i v : Int32) : Option hp_H := match h a with
  | some (.inl (c, n, f)) => if c = kd ∧ ¬ (i < 0 ∨ n ≤ i.toNatClampNeg) then some (va_up h a (some (.inl (c, n, upd f i.toNatClampNeg v)))) else none
  | _ => none
def hp_sj (h : hp_H) (a : Nat) (i : Int32) (v : Int64) : Option hp_H := match h a with
  | some (.inr (.inl (n, f))) => if ¬ (i < 0 ∨ n ≤ i.toNatClampNeg) then some (va_up h a (some (.inr (.inl (n, vp_updL f i.toNatClampNeg v))))) else none
  | _ => none
def hp_aj (h : hp_H) (a : Nat) (i : Int32) : Option Int64 := match h a with
  | some (.inr (.inl (n, f))) => if ¬ (i < 0 ∨ n ≤ i.toNatClampNeg) then some (f i.toNatClampNeg) else none
  | _ => none
def hp_ar (h : hp_H) (a : Nat) (i : Int32) : Option Nat := match h a with
  | some (.inr (.inr (.inl (n, f)))) => if ¬ (i < 0 ∨ n ≤ i.toNatClampNeg) then f i.toNatClampNeg else none
  | _ => none
/-- System.arraycopy from place 0 to place 0, of ints, between two arrays -/
def hp_cp (h : hp_H) (a b : Nat) (n : Int32) : Option hp_H := match h a, h b with
  | some (.inl (ka, na, f)), some (.inl (kb, nb, g)) => if a ≠ b ∧ ka = 0 ∧ kb = 0 ∧ ¬ n < 0 ∧ n.toNatClampNeg ≤ na ∧ n.toNatClampNeg ≤ nb then some (va_up h b (some (.inl (kb, nb, va_cpy f g 0 0 n.toNatClampNeg)))) else none
  | _, _ => none
def hp_o (h : hp_H) (a ci : Nat) : Bool := match h a with
  | some (.inr (.inr (.inr (c, _)))) => c == ci
  | _ => false
/-- how often a loop may go round -/
def hp_n : Nat := 1000000
/-! small numbers' words -/
def hp_irem (x y : Int32) : Int32 := x - x / y * y
def hp_lrem (x y : Int64) : Int64 := x - x / y * y
def hp_iushr (x y : Int32) : Int32 := (x.toUInt32 >>> (y.toUInt32 &&& Int32.toUInt32 31)).toInt32
def hp_lushr (x : Int64) (y : Int32) : Int64 := (x.toUInt64 >>> (y.toInt64.toUInt64 &&& Int64.toUInt64 63)).toInt64
def hp_lshl (x : Int64) (y : Int32) : Int64 := x <<< (y.toInt64 &&& 63)
def hp_lshr (x : Int64) (y : Int32) : Int64 := x >>> (y.toInt64 &&& 63)
def hp_ishl (x y : Int32) : Int32 := x <<< (y &&& 31)
def hp_ishr (x y : Int32) : Int32 := x >>> (y &&& 31)
def hp_i2c (x : Int32) : Int32 := (x.toUInt32 % 65536).toInt32
def hp_max (x y : Int32) : Int32 := if x < y then y else x
def hp_min (x y : Int32) : Int32 := if y < x then y else x
theorem hp_b {α β : Type} {o : Option α} {f : α → Option β} {r : β} (h : o.bind f = some r) : ∃ v, o = some v ∧ f v = some r := Option.bind_eq_some_iff.mp h
theorem hp_ifp {α : Type} {c : Prop} [Decidable c] {a b : Option α} {r : α} (hc : c) (h : ite c a b = some r) : a = some r := by rw [if_pos hc] at h; exact h
theorem hp_ifn {α : Type} {c : Prop} [Decidable c] {a b : Option α} {r : α} (hc : ¬ c) (h : ite c a b = some r) : b = some r := by rw [if_neg hc] at h; exact h
theorem hp_ift {α : Type} {c : Prop} [Decidable c] {a : Option α} {r : α} (h : ite c a none = some r) : c ∧ a = some r := by
  by_cases hc : c
  · rw [if_pos hc] at h; exact ⟨hc, h⟩
  · rw [if_neg hc] at h; cases h
theorem hp_gv_spec {h : hp_H} {a ci k : Nat} {v : Value} (hv : hp_gv h a ci k = some v) : ∃ fs, h a = some (.inr (.inr (.inr (ci, fs)))) ∧ fs[k]? = some v := by
  unfold hp_gv at hv
  split at hv
  · rename_i c fs he
    split at hv
    · rename_i hc; subst hc; exact ⟨fs, he, hv⟩
    · cases hv
  · cases hv
theorem hp_gi_spec {h : hp_H} {a ci k : Nat} {v : Int32} (hv : hp_gi h a ci k = some v) : hp_gv h a ci k = some (.int v) := by
  unfold hp_gi at hv
  split at hv
  · rename_i w he; cases hv; exact he
  · cases hv
theorem hp_gj_spec {h : hp_H} {a ci k : Nat} {v : Int64} (hv : hp_gj h a ci k = some v) : hp_gv h a ci k = some (.long v) := by
  unfold hp_gj at hv
  split at hv
  · rename_i w he; cases hv; exact he
  · cases hv
theorem hp_gr_spec {h : hp_H} {a ci k : Nat} {v : Nat} (hv : hp_gr h a ci k = some v) : hp_gv h a ci k = some (.ref v) := by
  unfold hp_gr at hv
  split at hv
  · rename_i w he; cases hv; exact he
  · cases hv
theorem hp_pv_spec {h h' : hp_H} {a ci k : Nat} {v : Value} (hv : hp_pv h a ci k v = some h') : ∃ fs, h a = some (.inr (.inr (.inr (ci, fs)))) ∧ k < fs.length ∧ h' = va_up h a (some (.inr (.inr (.inr (ci, fs.set k v))))) := by
  unfold hp_pv at hv
  split at hv
  · rename_i c fs he
    split at hv
    · rename_i hc; obtain ⟨hc, hk⟩ := hc; subst hc; cases hv; exact ⟨fs, he, hk, rfl⟩
    · cases hv
  · cases hv
theorem hp_ai_spec {h : hp_H} {kd a : Nat} {i v : Int32} (hv : hp_ai h kd a i = some v) : ∃ n f, h a = some (.inl (kd, n, f)) ∧ vp_in i n ∧ v = f i.toNatClampNeg := by
  unfold hp_ai at hv
  split at hv
  · rename_i c n f he
    split at hv
    · rename_i hc; obtain ⟨hc, hk⟩ := hc; subst hc; cases hv; exact ⟨n, f, he, hk, rfl⟩
    · cases hv
  · cases hv
theorem hp_si_spec {h h' : hp_H} {kd a : Nat} {i v : Int32} (hv : hp_si h kd a i v = some h') : ∃ n f, h a = some (.inl (kd, n, f)) ∧ vp_in i n ∧ h' = va_up h a (some (.inl (kd, n, upd f i.toNatClampNeg v))) := by
  unfold hp_si at hv
  split at hv
  · rename_i c n f he
    split at hv
    · rename_i hc; obtain ⟨hc, hk⟩ := hc; subst hc; cases hv; exact ⟨n, f, he, hk, rfl⟩
    · cases hv
  · cases hv
theorem hp_sj_spec {h h' : hp_H} {a : Nat} {i : Int32} {v : Int64} (hv : hp_sj h a i v = some h') : ∃ n f, h a = some (.inr (.inl (n, f))) ∧ vp_in i n ∧ h' = va_up h a (some (.inr (.inl (n, vp_updL f i.toNatClampNeg v)))) := by
  unfold hp_sj at hv
  split at hv
  · rename_i n f he
    split at hv
    · rename_i hk; cases hv; exact ⟨n, f, he, hk, rfl⟩
    · cases hv
  · cases hv
theorem hp_ar_spec {h : hp_H} {a v : Nat} {i : Int32} (hv : hp_ar h a i = some v) : ∃ n f, h a = some (.inr (.inr (.inl (n, f)))) ∧ vp_in i n ∧ f i.toNatClampNeg = some v := by
  unfold hp_ar at hv
  split at hv
  · rename_i n f he
    split at hv
    · rename_i hk; exact ⟨n, f, he, hk, hv⟩
    · cases hv
  · cases hv
theorem hp_cp_spec {h h' : hp_H} {a b : Nat} {n : Int32} (hv : hp_cp h a b n = some h') : ∃ na f nb g, h a = some (.inl (0, na, f)) ∧ h b = some (.inl (0, nb, g)) ∧ a ≠ b ∧ ¬ n < 0 ∧ n.toNatClampNeg ≤ na ∧ n.toNatClampNeg ≤ nb ∧ h' = va_up h b (some (.inl (0, nb, va_cpy f g 0 0 n.toNatClampNeg))) := by
  unfold hp_cp at hv
  split at hv
  · rename_i ka na f kb nb g ea eb
    split at hv
    · rename_i hc; obtain ⟨h1, h2, h3, h4, h5, h6⟩ := hc; subst h2; subst h3; cases hv; exact ⟨na, f, nb, g, ea, eb, h1, h4, h5, h6, rfl⟩
    · cases hv
  · cases hv
theorem hp_o_spec {h : hp_H} {a ci : Nat} (hv : hp_o h a ci = true) : ∃ fs, h a = some (.inr (.inr (.inr (ci, fs)))) := by
  unfold hp_o at hv
  split at hv
  · rename_i c fs he
    have := beq_iff_eq.mp hv
    subst this; exact ⟨fs, he⟩
  · cases hv
theorem hp_le.rf {h : hp_H} : hp_le h h := fun _ q => q
theorem hp_le.up {h h0 : hp_H} (hl : hp_le h h0) {a : Nat} (ha : h a ≠ none) (e : hp_C) : hp_le (va_up h a (some e)) h0 := by
  intro q hq
  by_cases hqa : q = a
  · subst hqa; exact hl _ ha
  · rw [va_up_ne _ _ hqa] at hq; exact hl _ hq
theorem hp_le.tr {h h1 h0 : hp_H} (a : hp_le h h1) (b : hp_le h1 h0) : hp_le h h0 := fun q hq => b q (a q hq)
theorem hp_P.up {G : hp_G} {h : hp_H} {H H1 : Heap} {a : Nat} {e : hp_C} (hP : hp_P G h H) (he : va_at G.1 vwCl (a, hp_E G.2 e) H1) (oq : ∀ q : Nat, q ≠ a → H1[q]? = H[q]?) : hp_P G (va_up h a (some e)) H1 := by
  intro b e2 hb
  by_cases hba : b = a
  · subst hba; rw [va_up_self] at hb; cases hb; exact he
  · rw [va_up_ne _ _ hba] at hb; exact (hP b e2 hb).kept (oq b hba)
theorem hp_Y.up {G : hp_G} {h h0 : hp_H} {s : State} {H H1 : Heap} {locs : List Loc} {a k : Nat} {e0 e : hp_C} (Y : hp_Y G h h0 s H locs) (ha : h a = some e0) (he : va_at G.1 vwCl (a, hp_E G.2 e) H1) (z : H1.size = H.size) (oq : ∀ q : Nat, q ≠ a → H1[q]? = H[q]?) : hp_Y G (va_up h a (some e)) h0 s H1 (locs ++ [⟨a, k⟩]) := by
  obtain ⟨hP, hl, hS⟩ := Y
  have hn : h a ≠ none := by rw [ha]; exact fun q => by cases q
  exact ⟨hP.up he oq, hl.up hn e, hS.put z oq (hl a hn)⟩
theorem hp_one {D : va_G} {cl : List vw_C} {q : Nat × va_E} {H : Heap} (h : va_at D cl q H) : va_P D cl [q] H := by
  intro k r hk
  match k, hk with
  | 0, hk => cases hk; exact h
  | k + 1, hk => simp at hk
theorem hp_two {D : va_G} {cl : List vw_C} {q q2 : Nat × va_E} {H : Heap} (h : va_at D cl q H) (h2 : va_at D cl q2 H) : va_P D cl [q, q2] H := by
  intro k r hk
  match k, hk with
  | 0, hk => cases hk; exact h
  | 1, hk => cases hk; exact h2
  | k + 2, hk => simp at hk
theorem hp_blind (G : hp_G) (h : hp_H) (av : List Value) : FrameBlind (va_Pc av (hp_S G h)) := fun a U g mk q => ⟨q.1, q.2.1, va_K.moved (u := U) (U := U.calling g mk a) (Vm.Alike.refl U.vm) q.2.2⟩
