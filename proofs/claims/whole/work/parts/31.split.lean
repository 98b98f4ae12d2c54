/-! Long division: the whole -/
/-- h' is h but at the addresses of l -/
def fs (h h' : hp_H) (l : List Nat) : Prop := ∀ p, p ∉ l → h' p = h p
theorem fs.tr {h h1 h2 : hp_H} {l : List Nat} (F : fs h h1 l) (F2 : fs h1 h2 l) : fs h h2 l := fun p x => (F2 p x).trans (F p x)
theorem fs.rf {h : hp_H} {l : List Nat} : fs h h l := fun _ _ => rfl
theorem fr.fs {h h' : hp_H} {a b : Nat} {l : List Nat} (F : fr h h' a b) (ha : a ∈ l) (hb : b ∈ l) : fs h h' l := fun p hp => F p (fun e => hp (e ▸ ha)) (fun e => hp (e ▸ hb))
theorem fs.mono {h h' : hp_H} {l l2 : List Nat} (F : fs h h' l) (hl : ∀ p, p ∈ l → p ∈ l2) : fs h h' l2 := fun p hp => F p (fun e => hp (hl p e))
theorem nr_fs {h h' : hp_H} {a b c : Nat} {g : Nat → Nat} {l : List Nat} (H : nr h a b c g) (F : fs h h' l) (h1 : a ∉ l) (h2 : b ∉ l) : nr h' a b c g := ⟨H.1, by rw [F a h1]; exact H.2.1, by rw [F b h2]; exact H.2.2⟩
theorem nv_fs {h h' : hp_H} {a b v : Nat} {l : List Nat} (H : nv h a b v) (F : fs h h' l) (h1 : a ∉ l) (h2 : b ∉ l) : nv h' a b v := by
  obtain ⟨c, g, H, e⟩ := H
  exact ⟨c, g, ⟨nr_fs H.1 F h1 h2, H.2⟩, e⟩
theorem nd {l : List Nat} (h : l.Nodup) (i j : Nat) {a b : Nat} (hi : l[i]? = some a := by rfl) (hj : l[j]? = some b := by rfl) (hij : i ≠ j := by decide) : a ≠ b := by
  obtain ⟨h1, e1⟩ := List.getElem?_eq_some_iff.mp hi
  obtain ⟨h2, e2⟩ := List.getElem?_eq_some_iff.mp hj
  have hp := List.pairwise_iff_getElem.mp h
  rcases Nat.lt_or_gt_of_ne hij with q | q
  · rw [← e1, ← e2]; exact hp i j h1 h2 q
  · rw [← e1, ← e2]; exact (hp j i h2 h1 q).symm
theorem nm {l : List Nat} {x : Nat} (h : x ∉ l) (i : Nat) {b : Nat} (hi : l[i]? = some b := by rfl) : x ≠ b := fun e => h (e ▸ List.mem_of_getElem? hi)
theorem sp_alg {Q V T T' qd Bp : Nat} (h1 : T = T' + qd * V * Bp) : Q * (Bp * 1073741824) * V + T = (qd + 1073741824 * Q) * Bp * V + T' := by
  subst h1; grind
theorem sp1 {V Bp R W T lo : Nat} (hT : T < V * (Bp * 1073741824)) (eT : T = lo + Bp * (R + W)) : R + W < V * 1073741824 := by
  rcases Nat.lt_or_ge (R + W) (V * 1073741824) with z | z
  · exact z
  · exfalso
    have h1 : Bp * (V * 1073741824) ≤ Bp * (R + W) := Nat.mul_le_mul_left _ z
    have h2 : V * (Bp * 1073741824) = Bp * (V * 1073741824) := by grind
    omega
theorem sp2 {V P R Z : Nat} (hV : V < P) (h : R + P * 1073741824 * Z < V * 1073741824) : Z = 0 := by
  rcases Nat.eq_zero_or_pos Z with z | z
  · exact z
  · exfalso
    have h1 : P * 1073741824 * 1 ≤ P * 1073741824 * Z := Nat.mul_le_mul_left _ z
    have h2 : V * 1073741824 ≤ P * 1073741824 := Nat.mul_le_mul_right _ (by omega)
    omega
theorem sp3 {lo Bp S V : Nat} (h1 : lo < Bp) (h2 : S < V) : lo + Bp * S < V * Bp := by
  have h3 : Bp * (S + 1) ≤ Bp * V := Nat.mul_le_mul_left _ h2
  rw [Nat.mul_add, Nat.mul_one] at h3
  rw [Nat.mul_comm V]
  omega
theorem sp4 {lo Bp S qd V : Nat} : lo + Bp * (S + qd * V) = lo + Bp * S + qd * V * Bp := by grind
theorem split_loop {d q qb r rb v vb cv size up dgt U : Nat} {gv : Nat → Nat} (N : List.Nodup [d, q, qb, r, rb, v, vb]) (hc : 1 ≤ cv) (hl1 : 536870912 ≤ gv (cv - 1)) (hs : size + 1 ≤ 140) (hup : up ≤ 30) (hdg : dgt = 0 ∨ dgt + cv = size + 1) :
    ∀ (k n cq : Nat) (gq g : Nat → Nat) (h : hp_H), k ≤ dgt → k < n → ds h d q r v → nr h q qb cq gq → nr h r rb size g → nt h v vb cv gv → (∀ i, i ≤ size → g i < 1073741824) → (∀ i, k ≤ i → i < dgt → gq i < 1073741824) → g size = 0 ∨ 0 < k → vl 1073741824 g (size + 1) < vl 1073741824 gv cv * 1073741824 ^ k → vl 1073741824 (fun i => gq (k + i)) (dgt - k) * 1073741824 ^ k * vl 1073741824 gv cv + vl 1073741824 g (size + 1) = U →
    ∃ h', bX1_split_81 d (nI up) (nI dgt) n (iI ((k : Int) - 1)) h = some h' ∧ ds h' d q r v ∧ nv h' q qb (U / vl 1073741824 gv cv) ∧ nv h' r rb (U % vl 1073741824 gv cv / 2 ^ up) ∧ nt h' v vb cv gv ∧ fs h h' [q, qb, r, rb] := by
  intro k
  induction k with
  | zero =>
    intro n cq gq g h hk hn D Qn Rn Vn hg hgq hz hT hU
    obtain ⟨m, rfl⟩ : ∃ m, n = m + 1 := ⟨n - 1, by omega⟩
    have hcv := Vn.2.1
    have hz : g size = 0 := by omega
    simp only [Nat.zero_add, Nat.sub_zero, Nat.pow_zero, Nat.mul_one] at hT hU
    have e0 : vl 1073741824 g (size + 1) = vl 1073741824 g size := by rw [vl, hz]; simp
    have hV : 0 < vl 1073741824 gv cv := by omega
    rw [bX1_split_81, if_pos (by decide), ds_q D, Option.bind_some]
    obtain ⟨h5, e1, Q5, F5⟩ := trim_eq Qn (k := dgt) (by omega) (fun i hi => hgq i (by omega) hi)
    have D5 := ds_fr D F5 (nd N 0 1) (nd N 0 1)
    have R5 := nr_fr Rn F5 (nd N 3 1) (nd N 3 1) (nd N 4 1) (nd N 4 1)
    rw [e1, Option.bind_some, ds_r D5, Option.bind_some, Option.bind_some]
    obtain ⟨h11, e2, R11, F11⟩ := shiftDown_raw R5 R5 (by omega) (fun i hi => hg i (by omega)) (n := up) (by omega) (Or.inr ⟨rfl, rfl⟩)
    rw [e2, Option.bind_some]
    refine ⟨h11, rfl, ds_fr D5 F11 (nd N 0 3) (nd N 0 4), ?_, ?_, ?_, ?_⟩
    · have e3 : U / vl 1073741824 gv cv = vl 1073741824 gq dgt := by
        rw [← hU, Nat.mul_comm, Nat.mul_add_div hV, Nat.div_eq_of_lt hT, Nat.add_zero]
      rw [e3, ← vl_tr]
      exact nv_fr (nt_nv Q5) F11 (nd N 1 3) (nd N 1 4) (nd N 2 3) (nd N 2 4)
    · have e3 : U % vl 1073741824 gv cv = vl 1073741824 g size := by
        rw [← hU, Nat.mul_comm, Nat.mul_add_mod, Nat.mod_eq_of_lt hT, e0]
      rw [e3]; exact R11
    · exact nt_fr (nt_fr Vn F5 (nd N 5 1) (nd N 5 1) (nd N 6 1) (nd N 6 1)) F11 (nd N 5 3) (nd N 5 4) (nd N 6 3) (nd N 6 4)
    · exact (F5.fs (by simp) (by simp)).tr (F11.fs (by simp) (by simp))
  | succ p ih =>
    intro n cq gq g h hk hn D Qn Rn Vn hg hgq hz hT hU
    obtain ⟨m, rfl⟩ : ∃ m, n = m + 1 := ⟨n - 1, by omega⟩
    have hcv := Vn.2.1
    have hds : dgt + cv = size + 1 := by omega
    have e1 : iI (((p + 1 : Nat) : Int) - 1) = nI p := by rw [nI_iI]; congr 1; omega
    have e9 : nI p + (-1 : Int32) = iI ((p : Int) - 1) := by rw [nI_iI, show (-1 : Int32) = iI (-1) from rfl, iI_add]; rfl
    have hB : 0 < 1073741824 ^ p := Nat.pow_pos (by decide)
    have lV := vl_lt Vn.2.2.1
    -- the number from place p up
    have es : size + 1 = p + ((cv + 1) + (size - p - cv)) := by omega
    have eT : vl 1073741824 g (size + 1) = vl 1073741824 g p + 1073741824 ^ p * (vl 1073741824 (fun i => g (p + i)) (cv + 1) + 1073741824 ^ (cv + 1) * vl 1073741824 (fun i => g (p + (cv + 1 + i))) (size - p - cv)) := by
      rw [es, vl_add, vl_add]
    generalize hR : vl 1073741824 (fun i => g (p + i)) (cv + 1) = R at *
    generalize hZ : vl 1073741824 (fun i => g (p + (cv + 1 + i))) (size - p - cv) = Z at *
    rw [Nat.pow_succ] at hT
    have hRZ := sp1 hT eT
    rw [Nat.pow_succ 1073741824 cv] at hRZ
    have hZ0 : Z = 0 := sp2 lV hRZ
    subst hZ0
    rw [Nat.mul_zero, Nat.add_zero] at hRZ eT
    rw [e1, bX1_split_81, if_neg (nI_lt0 (by omega)), ds_q D, Option.bind_some, nr_l Qn, Option.bind_some]
    obtain ⟨h17, g', qd, t1, t2, t3, t4, t5, t6, t7, t8⟩ := takeDigit_eq D Rn Vn hc hl1 (p := p) (by omega) (fun i hi => hg i (by omega)) (nd N 0 4) (nd N 5 4) (nd N 6 4) (by rw [hR]; omega)
    rw [hR] at t7
    rw [t1, Option.bind_some]
    have D17 := ds_fr D t4 (nd N 0 4) (nd N 0 4)
    have Q17 := nr_fr Qn t4 (nd N 1 4) (nd N 1 4) (nd N 2 4) (nd N 2 4)
    have V17 := nt_fr Vn t4 (nd N 5 4) (nd N 5 4) (nd N 6 4) (nd N 6 4)
    obtain ⟨h20, e2, Q20, F20⟩ := nr_wr Q17 (i := p) (x := qd) (by omega)
    simp only []
    rw [e2, Option.bind_some, Option.bind_some, e9]
    have lg : ∀ i, i ≤ size → g' i < 1073741824 := fun i hi => by
      by_cases h1 : i < p ∨ p + cv < i
      · rw [t5 i h1]; exact hg i hi
      · have := t6 (i - p) (by omega)
        rw [show p + (i - p) = i by omega] at this; exact this
    have eT' : vl 1073741824 g' (size + 1) = vl 1073741824 g p + 1073741824 ^ p * vl 1073741824 (fun i => g' (p + i)) (cv + 1) := by
      rw [es, vl_add, vl_add, vl_congr (g := g') (g' := g) (n := p) (fun i hi => t5 i (Or.inl hi)), vl_congr (g := fun i => g' (p + (cv + 1 + i))) (g' := fun i => g (p + (cv + 1 + i))) (fun i _ => t5 _ (Or.inr (by omega))), hZ, Nat.mul_zero, Nat.add_zero]
    have lp : vl 1073741824 g p < 1073741824 ^ p := vl_lt (fun i hi => hg i (by omega))
    have hT' : vl 1073741824 g' (size + 1) < vl 1073741824 gv cv * 1073741824 ^ p := by
      rw [eT']
      exact sp3 lp t8
    obtain ⟨h', q1, q2, q3, q4, q5, q6⟩ := ih m cq _ g' h20 (by omega) (by omega) (ds_fr D17 F20 (nd N 0 2) (nd N 0 2)) Q20 (nr_fr t3 F20 (nd N 3 2) (nd N 3 2) (nd N 4 2) (nd N 4 2)) (nt_fr V17 F20 (nd N 5 2) (nd N 5 2) (nd N 6 2) (nd N 6 2)) lg (fun i h1 h2 => by
        by_cases hip : i = p
        · subst hip; rw [va_up_self]; exact t2
        · rw [va_up_ne _ _ hip]; exact hgq i (by omega) h2) (by
        by_cases hp0 : 0 < p
        · exact Or.inr hp0
        · refine Or.inl ?_
          obtain rfl : p = 0 := by omega
          simp only [Nat.pow_zero, Nat.mul_one] at hT'
          have h1 : vl 1073741824 g' (size + 1) < 1073741824 ^ size := Nat.lt_of_lt_of_le (Nat.lt_trans hT' lV) (Nat.pow_le_pow_right (by decide) (by omega))
          rw [vl] at h1
          rcases Nat.eq_zero_or_pos (g' size) with z | z
          · exact z
          · exfalso
            have : 1 * 1073741824 ^ size ≤ g' size * 1073741824 ^ size := Nat.mul_le_mul_right _ z
            omega) hT' (by
        rw [← hU, show dgt - p = (dgt - (p + 1)) + 1 by omega, vl_head]
        simp only [Nat.add_zero, va_up_self]
        rw [vl_congr (g := fun i => va_up gq p qd (p + (i + 1))) (g' := fun i => gq (p + 1 + i)) (fun i _ => by rw [va_up_ne _ _ (by omega)]; congr 1; omega), Nat.pow_succ]
        refine (sp_alg ?_).symm
        rw [eT, eT', ← t7]
        exact sp4)
    exact ⟨h', q1, q2, q3, q4, q5, ((t4.fs (l := [q, qb, r, rb]) (by simp) (by simp)).tr (F20.fs (by simp) (by simp))).tr q6⟩
/-- x by y and what remains, of numbers that are none of the division's own -/
theorem split_eq {h : hp_H} {d q qb r rb v vb x bx y b2 X Y wq wr wv : Nat} (D : ds h d q r v) (Qn : nv h q qb wq) (Rn : nv h r rb wr) (Vn : nv h v vb wv) (Xn : nv h x bx X) (Yn : nv h y b2 Y) (hY : Y ≠ 0) (hX4 : bl X ≤ 4140) (hY4 : bl Y ≤ 4140)
    (N : List.Nodup [d, q, qb, r, rb, v, vb]) (hx : x ∉ [d, q, qb, r, rb, v, vb]) (hbx : bx ∉ [d, q, qb, r, rb, v, vb]) (hy : y ∉ [d, q, qb, r, rb, v, vb]) (hby : b2 ∉ [d, q, qb, r, rb, v, vb]) :
    ∃ h' wv', fX1_split d x y h = some h' ∧ ds h' d q r v ∧ nv h' q qb (X / Y) ∧ nv h' r rb (X % Y) ∧ nv h' v vb wv' ∧ fs h h' [q, qb, r, rb, v, vb] := by
  obtain ⟨cy, gy, Yt, eY⟩ := Yn
  have Yn : nv h y b2 Y := ⟨cy, gy, Yt, eY⟩
  obtain ⟨cq, gq, Qt, -⟩ := Qn
  obtain ⟨cr, gr, Rt, -⟩ := Rn
  obtain ⟨cv0, gv0, Vt, -⟩ := Vn
  have hcy := Yt.2.1
  have hle : bl Y ≤ 30 * cy := by rw [← eY]; exact bl_le.mpr (by rw [← p30]; exact vl_lt Yt.2.2.1)
  have hcy1 : 30 * cy < bl Y + 30 := by
    cases cy with
    | zero => have := bl_pos hY; omega
    | succ c =>
      rw [← eY, nt_bl Yt]
      have := bl_pos (Yt.2.2.2 (by omega) : gy (c + 1 - 1) ≠ 0)
      simp only [Nat.add_sub_cancel] at this
      omega
  generalize hup : 30 * cy - bl Y = up at *
  have es : fX2_spareBits y h = some (nI up) := by rw [spareBits_eq Yt, eY, hup]
  unfold fX1_split
  rw [if_pos (ds_o D), isZero_v Yn, Option.bind_some, if_neg hY, if_pos rfl, es, Option.bind_some, ds_v D, Option.bind_some]
  obtain ⟨h9, e1, V9, F9⟩ := shiftUp_eq Vt.1 Yn (n := up) (by omega) (by omega) (Or.inl ⟨nm hy 6, nm hby 6⟩)
  have D9 := ds_fr D F9 (nd N 0 5) (nd N 0 6)
  have X9 := nv_fr Xn F9 (nm hx 5) (nm hx 6) (nm hbx 5) (nm hbx 6)
  have R9 := nr_fr Rt.1 F9 (nd N 3 5) (nd N 3 6) (nd N 4 5) (nd N 4 6)
  have Q9 := nr_fr Qt.1 F9 (nd N 1 5) (nd N 1 6) (nd N 2 5) (nd N 2 6)
  rw [e1, Option.bind_some, ds_r D9, Option.bind_some]
  obtain ⟨h13, e2, R13, F13⟩ := shiftUp_eq R9 X9 (n := up) (by omega) (by omega) (Or.inl ⟨nm hx 4, nm hbx 4⟩)
  have D13 := ds_fr D9 F13 (nd N 0 3) (nd N 0 4)
  have V13 := nv_fr V9 F13 (nd N 5 3) (nd N 5 4) (nd N 6 3) (nd N 6 4)
  have Q13 := nr_fr Q9 F13 (nd N 1 3) (nd N 1 4) (nd N 2 3) (nd N 2 4)
  obtain ⟨size, g, Rs, eU⟩ := R13
  obtain ⟨cv, gv, Vs, eV⟩ := V13
  have blm : ∀ Z : Nat, bl (Z * 2 ^ up) ≤ bl Z + up := fun Z => bl_le.mpr (by rw [Nat.pow_add]; exact Nat.mul_lt_mul_of_pos_right (bl_self Z) (Nat.two_pow_pos _))
  have hsz : size ≤ 139 := nt_cle Rs (k := 139) (by rw [eU]; have := blm X; omega)
  have hcv := Vs.2.1
  have blV : bl (Y * 2 ^ up) = 30 * cy := by
    have := bl_add (lo := 0) (t := Y) (k := up) hY (Nat.two_pow_pos _)
    rw [Nat.zero_add] at this
    omega
  have hVpos : 0 < Y * 2 ^ up := Nat.mul_pos (by omega) (Nat.two_pow_pos _)
  have hc1 : 1 ≤ cv := by
    rcases Nat.eq_zero_or_pos cv with z | z
    · subst z; simp [vl] at eV; omega
    · exact z
  have hl1 : 536870912 ≤ gv (cv - 1) := by
    obtain ⟨e, rfl⟩ : ∃ e, cv = e + 1 := ⟨cv - 1, by omega⟩
    have h1 := nt_bl Vs
    rw [eV, blV] at h1
    have h2 : bl (gv e) ≤ 30 := bl_le.mpr (Vs.2.2.1 e (by omega))
    have h3 := bl_pos (Vs.2.2.2 (by omega) : gv (e + 1 - 1) ≠ 0)
    simp only [Nat.add_sub_cancel] at h3 ⊢
    have h4 : 29 < bl (gv e) := by omega
    exact bl_lt.mp h4
  have emn : hp_min (nI size) (139 : Int32) = nI size := by
    rw [show (139 : Int32) = nI 139 from rfl, nI_min (by omega) (by omega), Nat.min_eq_left hsz]
  rw [e2, Option.bind_some, ds_r D13, Option.bind_some, nr_c Rs.1, Option.bind_some, Option.bind_some, Option.bind_some, emn, nI_1]
  obtain ⟨h21, g', e3, R21, F21, p1, p2⟩ := padTo_eq Rs.1 (by omega) (size := size + 1) (by omega)
  have D21 := ds_fr D13 F21 (nd N 0 4) (nd N 0 4)
  have V21 := nt_fr Vs F21 (nd N 5 4) (nd N 5 4) (nd N 6 4) (nd N 6 4)
  have Q21 := nr_fr Q13 F21 (nd N 1 4) (nd N 1 4) (nd N 2 4) (nd N 2 4)
  rw [e3, Option.bind_some, ds_v D21, Option.bind_some, nr_c V21.1, Option.bind_some, Option.bind_some, Option.bind_some]
  have eU' : vl 1073741824 g' (size + 1) = X * 2 ^ up := by
    rw [vl, p2 size (Nat.le_refl _) (by omega), vl_congr (g' := g) (fun i hi => p1 i hi), eU]; simp
  have em : hp_max ((nI size - nI cv) + (1 : Int32)) (0 : Int32) = nI (size + 1 - cv) := by
    rw [nI_iI size, nI_iI cv, iI_sub, show (1 : Int32) = iI 1 from rfl, iI_add, iI_max0 (by omega) (by omega)]
    congr 1; omega
  rw [em, show nI (size + 1 - cv) - (1 : Int32) = iI (((size + 1 - cv : Nat) : Int) - 1) by rw [nI_iI, show (1 : Int32) = iI 1 from rfl, iI_sub]]
  have lU := vl_lt Rs.2.2.1
  rw [eU] at lU
  obtain ⟨e, he⟩ : ∃ e, cv = e + 1 := ⟨cv - 1, by omega⟩
  have gV : 1073741824 ^ e ≤ Y * 2 ^ up := by
    rw [← eV, he]
    have := vl_ge (B := 1073741824) (n := e) (g := gv) (by have := Vs.2.2.2 (by omega); rw [he] at this; simpa using this)
    exact this
  obtain ⟨h', q1, q2, q3, q4, q5, q6⟩ := split_loop (d := d) (q := q) (qb := qb) (r := r) (rb := rb) (v := v) (vb := vb) (cv := cv) (size := size) (up := up) (dgt := size + 1 - cv) (U := X * 2 ^ up) (gv := gv) N hc1 hl1 (by omega) (by omega) (by omega) (size + 1 - cv) hp_n cq gq g' h21 (Nat.le_refl _) (by unfold hp_n; omega) D21 Q21 R21 V21 (fun i hi => by
      by_cases h1 : i < size
      · rw [p1 i h1]; exact Rs.2.2.1 i h1
      · rw [p2 i (by omega) (by omega)]; decide) (fun i h1 h2 => by omega) (Or.inl (p2 size (Nat.le_refl _) (by omega))) (by
      rw [eU', eV]
      refine Nat.lt_of_lt_of_le lU (Nat.le_trans ?_ (Nat.mul_le_mul_right _ gV))
      rw [← Nat.pow_add]
      exact Nat.pow_le_pow_right (by decide) (by omega)) (by rw [Nat.sub_self, eU']; simp [vl])
  rw [eV] at q3 q4
  rw [Nat.mul_div_mul_right _ _ (Nat.two_pow_pos up)] at q3
  rw [Nat.mul_mod_mul_right, Nat.mul_div_cancel _ (Nat.two_pow_pos up)] at q4
  refine ⟨h', _, q1, q2, q3, q4, nt_nv q5, ?_⟩
  have f1 : fs h h13 [q, qb, r, rb, v, vb] := (F9.fs (by simp) (by simp)).tr (F13.fs (by simp) (by simp))
  exact (f1.tr (F21.fs (by simp) (by simp))).tr (q6.mono (fun p hp => by
    simp only [List.mem_cons, List.not_mem_nil, or_false] at hp ⊢
    rcases hp with rfl | rfl | rfl | rfl <;> simp))
