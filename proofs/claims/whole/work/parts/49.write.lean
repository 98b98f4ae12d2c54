/-! Text: spelling; write, type, clear, character -/
def ct (B X : Nat) : Nat := if X = 0 then 1 else dc B X
theorem ct_pos {B X : Nat} (hB : 2 ≤ B) : 1 ≤ ct B X := by
  unfold ct
  by_cases h : X = 0
  · rw [if_pos h]; omega
  · rw [if_neg h]
    have := (dc_lt hB (X := X) (c := 0)).mpr (by rw [Nat.pow_zero]; omega)
    omega
theorem ct_le {B X : Nat} (hB : 2 ≤ B) (h : bl X ≤ 4096) : ct B X ≤ 4096 := by
  unfold ct
  have := dc_le hB h
  split <;> omega
theorem ad_eq {B X t b a ab : Nat} {T : Nat → Nat} {h : hp_H} (hB2 : 2 ≤ B) (hB : B ≤ 16) (hX : bl X ≤ 4096) (htb : t ≠ b) (h1 : a ≠ t) (h2 : a ≠ b) (h3 : ab ≠ t) (h4 : ab ≠ b) (V : nv h a ab X) (Tx : tx h t b T 0) : ∃ h', fX3_appendDigitsBackwards t a (nI B) h = some h' ∧ nv h' a ab 0 ∧ tx h' t b (wt B X) (ct B X) ∧ fs h h' [t, b, a, ab] := by
  unfold fX3_appendDigitsBackwards
  obtain ⟨d, d1, d2, d3, d4⟩ := dil_eq hB2 hB
  have hB2' : (2 : Int32) ≤ nI B := (nI_leI (a := 2) (by omega) (by omega)).mpr hB2
  have Tx0 : tx h t b (wt B X) 0 := tx_congr Tx (fun i hi => by omega)
  rw [if_pos (tx_o Tx), isZero_v V, Option.bind_some]
  by_cases h0 : X = 0
  · rw [if_pos h0, if_neg (by decide)]
    obtain ⟨h5, p1, X5, F5⟩ := append_eq Tx0 htb (c := 48) (by omega) (by omega)
    have V5 := nv_fr V F5 h1 h2 h3 h4
    rw [show (48 : Int32) = nI 48 from rfl, p1, Option.bind_some, bX3_appendDigitsBackwards_13, if_pos hB2', d1, Option.bind_some, powerOf_eq (by omega), Option.bind_some]
    refine ⟨h5, ?_, h0 ▸ V5, ?_, F5.fs (by simp) (by simp)⟩
    · have z34 : ∀ f, bX3_appendDigitsBackwards_34 t a (nI B) (nI d) (nI (B ^ d)) (f + 1) (0 : Int32) h5 = some h5 := fun f => by
        simp only [bX3_appendDigitsBackwards_34]
        rw [if_neg (by decide), isZero_v V5, Option.bind_some, if_pos h0, if_neg (by decide)]
      exact z34 999999
    · have e : ct B X = 1 := by unfold ct; rw [if_pos h0]
      rw [e]
      refine tx_congr X5 (fun i hi => ?_)
      have : i = 0 := by omega
      rw [this, va_up_self, h0]
      unfold wt
      rw [Nat.zero_div, Nat.zero_mod]; rfl
  · rw [if_neg h0, if_pos rfl, bX3_appendDigitsBackwards_13, if_pos hB2', d1, Option.bind_some, powerOf_eq (by omega), Option.bind_some]
    have V0 : nv h a ab (X / B ^ 0) := by rw [Nat.pow_zero, Nat.div_one]; exact V
    obtain ⟨h', q1, q2, q3, q4⟩ := ad_outer hB2 hB hX d2 d3 d4 htb h1 h2 h3 h4 4096 0 hp_n 0 h (by rw [Nat.pow_zero, Nat.div_one]; exact hX) (by omega) (by decide) V0 Tx0 (by omega)
    refine ⟨h', q1, q2, ?_, q4⟩
    have e : ct B X = dc B X := by unfold ct; rw [if_neg h0]
    rw [e]; exact q3
def rv (T : Nat → Nat) (n k i : Nat) : Nat := if i < k ∨ n - k ≤ i then T (n - 1 - i) else T i
theorem rev_loop {t b n : Nat} {T : Nat → Nat} (htb : t ≠ b) (hn1 : 1 ≤ n) : ∀ (d k f : Nat) (h : hp_H), n - 2 * k = d → 2 * k ≤ n → d < f → tx h t b (rv T n k) n → ∃ h', bX3_reverse_9 t f (nI k) (nI (n - 1 - k)) h = some h' ∧ tx h' t b (fun i => T (n - 1 - i)) n ∧ fr h h' t b
  | d, k, f + 1, h, hd, hk, hf, Tx => by
    have hn := Tx.2.2.1
    simp only [bX3_reverse_9]
    by_cases hs : n - 1 - k ≤ k
    · rw [if_pos ((nI_leI (by omega) (by omega)).mpr hs)]
      refine ⟨h, rfl, tx_congr Tx (fun i hi => ?_), fr.rf⟩
      unfold rv
      by_cases q : i < k ∨ n - k ≤ i
      · rw [if_pos q]
      · rw [if_neg q]
        congr 1; omega
    · rw [if_neg (fun q => hs ((nI_leI (by omega) (by omega)).mp q)), tx_b Tx, Option.bind_some, tx_rd Tx (by omega), Option.bind_some, Option.bind_some, Option.bind_some, tx_rd Tx (by omega), Option.bind_some]
      obtain ⟨h12, p1, X12, F12, -⟩ := tx_wr Tx htb (i := k) (c := rv T n k (n - 1 - k)) (by omega) (Tx.2.2.2 _ (by omega))
      obtain ⟨h16, p2, X16, F16, -⟩ := tx_wr X12 htb (i := n - 1 - k) (c := rv T n k k) (by omega) (Tx.2.2.2 _ (by omega))
      have ej : nI (n - 1 - k) + (-1 : Int32) = nI (n - 1 - (k + 1)) := by
        rw [nI_iI, nI_iI, show (-1 : Int32) = iI (-1) from rfl, iI_add]; congr 1; omega
      rw [p1, Option.bind_some, tx_b X12, Option.bind_some, p2, Option.bind_some, Option.bind_some, Option.bind_some, ej, ni1, nI_add]
      have X16' : tx h16 t b (rv T n (k + 1)) n := tx_congr X16 (fun i hi => by
        by_cases q1 : i = n - 1 - k
        · rw [q1, va_up_self]
          unfold rv
          rw [if_neg (by omega), if_pos (by omega)]
          congr 1; omega
        · rw [va_up_ne _ _ q1]
          by_cases q2 : i = k
          · rw [q2, va_up_self]
            unfold rv
            rw [if_neg (by omega), if_pos (by omega)]
          · rw [va_up_ne _ _ q2]
            unfold rv
            by_cases q3 : i < k ∨ n - k ≤ i
            · rw [if_pos q3, if_pos (by omega)]
            · rw [if_neg q3, if_neg (by omega)])
      obtain ⟨h', r1, r2, r3⟩ := rev_loop htb hn1 (d - 2) (k + 1) f h16 (by omega) (by omega) (by omega) X16'
      exact ⟨h', r1, r2, (F12.r.tr F16.r).tr r3⟩
theorem reverse_eq {t b n : Nat} {T : Nat → Nat} {h : hp_H} (htb : t ≠ b) (hn1 : 1 ≤ n) (Tx : tx h t b T n) : ∃ h', fX3_reverse t h = some h' ∧ tx h' t b (fun i => T (n - 1 - i)) n ∧ fr h h' t b := by
  have hn := Tx.2.2.1
  unfold fX3_reverse
  rw [if_pos (tx_o Tx), tx_n Tx, Option.bind_some, Option.bind_some, ni1, pk_sub (by omega)]
  have := rev_loop (T := T) htb hn1 n 0 hp_n h (by omega) (by omega) (show n < 1000000 by omega) (tx_congr Tx (fun i hi => by unfold rv; rw [if_neg (by omega)]))
  exact this
/-- the text of a number: its count and its letters -/
def spN (B : Nat) (x : Int) : Nat := ct B x.natAbs + (if x < 0 then 1 else 0)
def spT (B : Nat) (x : Int) (i : Nat) : Nat := if spN B x - 1 - i < ct B x.natAbs then wt B x.natAbs (spN B x - 1 - i) else 45
theorem spell_eq {B t b n w a ab : Nat} {x : Int} {T : Nat → Nat} {h : hp_H} (hB2 : 2 ≤ B) (hB : B ≤ 16) (hX : bl x.natAbs ≤ 4096) (N : List.Nodup [t, b, w, a, ab]) (W : wz h w a ab x) (Tx : tx h t b T n) : ∃ h' v, fX3_spell t w (nI B) h = some h' ∧ wq h' w a ab v ∧ tx h' t b (spT B x) (spN B x) ∧ fs h h' [t, b, a, ab] := by
  have htb : t ≠ b := nd N 0 1
  have c1 := ct_pos (B := B) (X := x.natAbs) hB2
  have c2 := ct_le (B := B) (X := x.natAbs) hB2 hX
  unfold fX3_spell
  obtain ⟨h1, p1, X1, F1⟩ := tx_cut Tx htb (Nat.zero_le n)
  have W1 : wz h1 w a ab x := ⟨(F1 _ (nd N 2 0) (nd N 2 0)).trans W.1, nv_fr W.2 F1 (nd N 3 0) (nd N 3 0) (nd N 4 0) (nd N 4 0)⟩
  obtain ⟨h6, p2, V6, X6, F6⟩ := ad_eq hB2 hB hX htb (nd N 3 0) (nd N 3 1) (nd N 4 0) (nd N 4 1) W1.2 X1
  have hw : w ∉ [t, b, a, ab] := by
    simp only [List.mem_cons, List.not_mem_nil, or_false, not_or]
    exact ⟨nd N 2 0, nd N 2 1, nd N 2 3, nd N 2 4⟩
  have S6 := (F6 w hw).trans W1.1
  rw [if_pos (tx_o Tx), ni0, p1, Option.bind_some, wq_a (wz_q W1), Option.bind_some, p2, Option.bind_some]
  have es : hp_gi h6 w 4 1 = some (sI x) := by simp [hp_gi, hp_gv, S6]
  rw [es, Option.bind_some]
  have fin : ∀ (h6 : hp_H) (T2 : Nat → Nat) (n2 : Nat), 1 ≤ n2 → tx h6 t b T2 n2 → ∃ h', bX3_spell_27 t h6 = some h' ∧ tx h' t b (fun i => T2 (n2 - 1 - i)) n2 ∧ fr h6 h' t b := by
    intro h6 T2 n2 hn2 X6
    unfold bX3_spell_27
    obtain ⟨h', r1, r2, r3⟩ := reverse_eq htb hn2 X6
    rw [r1, Option.bind_some]
    exact ⟨h', rfl, r2, r3⟩
  by_cases hz : x < 0
  · rw [if_neg (by rw [← ni0, sI_0]; omega)]
    obtain ⟨h11, p3, X11, F11⟩ := append_eq X6 htb (c := 45) (by omega) (by omega)
    obtain ⟨h', p4, X', F'⟩ := fin h11 _ _ (by omega) X11
    rw [show (45 : Int32) = nI 45 from rfl, p3, Option.bind_some]
    have en : spN B x = ct B x.natAbs + 1 := by unfold spN; rw [if_pos hz]
    have F611 : fr h6 h' t b := F11.tr F'
    refine ⟨h', 0, p4, ⟨⟨_, (F611 w (nd N 2 0) (nd N 2 1)).trans S6⟩, nv_fr V6 F611 (nd N 3 0) (nd N 3 1) (nd N 4 0) (nd N 4 1)⟩, ?_, (F1.fs (by simp) (by simp)).tr (F6.tr (F611.fs (by simp) (by simp)))⟩
    rw [en]
    refine tx_congr X' (fun i hi => ?_)
    unfold spT
    rw [en]
    by_cases q : ct B x.natAbs + 1 - 1 - i < ct B x.natAbs
    · rw [if_pos q, va_up_ne _ _ (by omega)]
    · have e : ct B x.natAbs + 1 - 1 - i = ct B x.natAbs := by omega
      rw [if_neg q, e, va_up_self]
  · rw [if_pos (by rw [← ni0, sI_0]; omega)]
    obtain ⟨h', p4, X', F'⟩ := fin h6 _ _ c1 X6
    have en : spN B x = ct B x.natAbs := by unfold spN; rw [if_neg hz]; omega
    refine ⟨h', 0, p4, ⟨⟨_, (F' w (nd N 2 0) (nd N 2 1)).trans S6⟩, nv_fr V6 F' (nd N 3 0) (nd N 3 1) (nd N 4 0) (nd N 4 1)⟩, ?_, (F1.fs (by simp) (by simp)).tr (F6.tr (F'.fs (by simp) (by simp)))⟩
    rw [en]
    refine tx_congr X' (fun i hi => ?_)
    unfold spT
    rw [en, if_pos (by omega)]
/-- a base, if it is one -/
def bs (x : Int32) : Option Nat := if x < 2 ∨ (16 : Int32) < x then none else some x.toNatClampNeg
theorem bs_cases (x : Int32) : (bs x = none ∧ fX5_isBase x = some 0) ∨ ∃ B, 2 ≤ B ∧ B ≤ 16 ∧ x = nI B ∧ bs x = some B ∧ fX5_isBase x = some 1 := by
  unfold fX5_isBase bs
  by_cases h1 : x < 2
  · rw [if_pos h1, if_pos (Or.inl h1)]; exact Or.inl ⟨rfl, rfl⟩
  · by_cases h2 : 16 < x
    · rw [if_neg h1, if_pos h2, if_pos (Or.inr h2)]; exact Or.inl ⟨rfl, rfl⟩
    · have h0 : ¬ x < 0 := fun q => h1 (by
        rw [Int32.lt_iff_toInt_lt] at q ⊢
        have e0 : (0 : Int32).toInt = 0 := rfl
        have e1 : (2 : Int32).toInt = 2 := rfl
        omega)
      obtain ⟨j, hj, rfl⟩ := nI_of h0
      refine Or.inr ⟨j, ?_, ?_, rfl, ?_, ?_⟩
      · rcases Nat.lt_or_ge j 2 with q | q
        · exact absurd ((nI_ltI (b := 2) (by omega) (by omega)).mpr q) h1
        · exact q
      · rcases Nat.lt_or_ge 16 j with q | q
        · exact absurd ((nI_ltI (a := 16) (by omega) (by omega)).mpr q) h2
        · exact q
      · rw [if_neg (fun q => q.elim h1 h2), nI_cl hj]
      · rw [if_neg h1, if_neg h2]
/-- the state, where result and text have changed -/
theorem cs_tx {h h' : hp_H} {z n m : Nat} {R : Nat → Int} {T T' : Nat → Nat} (C : cs h z R T n) (F : fs h h' [z + 44, z + 45, z + 27, z + 28]) (W : ∃ v, wq h' (z + 26) (z + 27) (z + 28) v) (X : tx h' (z + 44) (z + 45) T' m) : cs h' z R T' m := by
  obtain ⟨c0, c1, c2, c3, c4, c5, c6⟩ := C
  have out : ∀ p, (p < z + 27 ∨ (z + 29 ≤ p ∧ p < z + 44)) → p ∉ [z + 44, z + 45, z + 27, z + 28] := fun p hp => by
    simp only [List.mem_cons, List.not_mem_nil, or_false]; omega
  exact ⟨cs0_fs c0 F (out _ (by omega)) (out _ (by omega)), csr_fs c1 F (fun p q1 q2 => out p (by omega)), W, wq_fs' c3 F (out _ (by omega)) (out _ (by omega)) (out _ (by omega)), dn_fs c4 F (out _ (by omega)) (out _ (by omega)) (out _ (by omega)) (out _ (by omega)) (out _ (by omega)) (out _ (by omega)) (out _ (by omega)), ce_fs c5 F (fun p q1 q2 => out p (by omega)), X⟩
def sWrite (R : Nat → Int) (T : Nat → Nat) (n : Nat) (a b : Int32) : Int32 × (Nat → Nat) × Nat := match rg a, bs b with
  | some i, some B => (nI (spN B (R i)), spT B (R i), spN B (R i))
  | _, _ => (-1, T, n)
theorem write_eq {h : hp_H} {z n : Nat} {R : Nat → Int} {T : Nat → Nat} (C : cs h z R T n) (a b : Int32) : ∃ h', fX5_write z a b h = some ((sWrite R T n a b).1, h') ∧ cs h' z R (sWrite R T n a b).2.1 (sWrite R T n a b).2.2 := by
  unfold fX5_write sWrite
  rw [if_pos (cs_o C)]
  rcases rg_cases a with ⟨e1, f1⟩ | ⟨i, hi, rfl, e1, f1⟩
  · rw [f1, Option.bind_some, if_pos rfl, e1]; exact ⟨h, rfl, C⟩
  rw [f1, Option.bind_some, if_neg (by decide)]
  rcases bs_cases b with ⟨e2, f2⟩ | ⟨B, hB2, hB, rfl, e2, f2⟩
  · rw [f2, Option.bind_some, if_pos rfl, e1, e2]; exact ⟨h, rfl, C⟩
  rw [f2, Option.bind_some, if_neg (by decide), e1, e2]
  simp only []
  have Ci := C.2.1 i hi
  obtain ⟨v, W⟩ := C.2.2.1
  obtain ⟨h14, p1, W14, F14⟩ := wtake_eq W Ci.1 (nres z) (rres hi (by omega) (by omega)) (rres hi (by omega) (by omega)) (rres hi (by omega) (by omega))
  have C14 := cs_res C F14 (wz_q W14)
  obtain ⟨h20, v20, p2, W20, X20, F20⟩ := spell_eq hB2 hB Ci.2 (by simp) W14 C14.2.2.2.2.2.2
  have C20 := cs_tx C14 F20 ⟨v20, W20⟩ X20
  rw [cs_1 C, Option.bind_some, cs_0 C, Option.bind_some, cs_r C hi, Option.bind_some, p1, Option.bind_some, cs_5 C14, Option.bind_some, cs_1 C14, Option.bind_some, p2, Option.bind_some, cs_5 C20, Option.bind_some, tx_n X20, Option.bind_some]
  exact ⟨h20, rfl, C20⟩
def sType (T : Nat → Nat) (n : Nat) (c : Int32) : Int32 × (Nat → Nat) × Nat := if c < 0 ∨ 127 < c ∨ 1300 ≤ n then (-1, T, n) else (nI (n + 1), va_up T n c.toNatClampNeg, n + 1)
theorem type_eq {h : hp_H} {z n : Nat} {R : Nat → Int} {T : Nat → Nat} (C : cs h z R T n) (c : Int32) : ∃ h', fX5_type z c h = some ((sType T n c).1, h') ∧ cs h' z R (sType T n c).2.1 (sType T n c).2.2 := by
  unfold fX5_type sType
  rw [if_pos (cs_o C)]
  have Tx := C.2.2.2.2.2.2
  have hn := Tx.2.2.1
  by_cases h1 : c < 0
  · rw [if_pos h1, if_pos (Or.inl h1)]; exact ⟨h, rfl, C⟩
  rw [if_neg h1]
  by_cases h2 : 127 < c
  · rw [if_pos h2, if_pos (Or.inr (Or.inl h2))]; exact ⟨h, rfl, C⟩
  rw [if_neg h2, cs_5 C, Option.bind_some, tx_n Tx, Option.bind_some]
  by_cases h3 : n < 1300
  · obtain ⟨j, hj, rfl⟩ := nI_of h1
    have hj2 : j < 128 := by
      rcases Nat.lt_or_ge 127 j with q | q
      · exact absurd ((nI_ltI (a := 127) (by omega) (by omega)).mpr q) h2
      · omega
    obtain ⟨h11, p1, X11, F11⟩ := append_eq Tx (by omega) (by omega) hj2
    obtain ⟨v, W⟩ := C.2.2.1
    have F11s : fs h h11 [z + 44, z + 45, z + 27, z + 28] := F11.fs (by simp) (by simp)
    have C11 := cs_tx C F11s ⟨v, ⟨W.1.elim fun s hs => ⟨s, (F11 _ (by omega) (by omega)).trans hs⟩, nv_fr W.2 F11 (by omega) (by omega) (by omega) (by omega)⟩⟩ X11
    rw [if_pos (show nI n < (1300 : Int32) from (nI_ltI (b := 1300) (by omega) (by omega)).mpr h3), Option.bind_some, i2c_c j hj2, p1, Option.bind_some, cs_5 C11, Option.bind_some, tx_n X11, Option.bind_some, if_neg (fun q => q.elim h1 (fun q => q.elim h2 (by omega))), nI_cl hj]
    exact ⟨h11, rfl, C11⟩
  · rw [if_neg (show ¬ nI n < (1300 : Int32) from fun q => h3 ((nI_ltI (b := 1300) (by omega) (by omega)).mp q)), if_pos (Or.inr (Or.inr (by omega)))]; exact ⟨h, rfl, C⟩
theorem clear_eq {h : hp_H} {z n : Nat} {R : Nat → Int} {T : Nat → Nat} (C : cs h z R T n) : ∃ h', fX5_clear z h = some h' ∧ cs h' z R T 0 := by
  unfold fX5_clear
  have Tx := C.2.2.2.2.2.2
  obtain ⟨h3, p1, X3, F3⟩ := tx_cut Tx (by omega) (Nat.zero_le n)
  obtain ⟨v, W⟩ := C.2.2.1
  have C3 := cs_tx C (F3.fs (by simp) (by simp)) ⟨v, ⟨W.1.elim fun s hs => ⟨s, (F3 _ (by omega) (by omega)).trans hs⟩, nv_fr W.2 F3 (by omega) (by omega) (by omega) (by omega)⟩⟩ X3
  rw [if_pos (cs_o C), cs_5 C, Option.bind_some, ni0, p1, Option.bind_some]
  exact ⟨h3, rfl, C3⟩
def sChar (T : Nat → Nat) (n : Nat) (i : Int32) : Int32 := if i < 0 ∨ n ≤ i.toNatClampNeg then -1 else nI (T i.toNatClampNeg)
theorem character_eq {h : hp_H} {z n : Nat} {R : Nat → Int} {T : Nat → Nat} (C : cs h z R T n) (i : Int32) : fX5_character z i h = some (sChar T n i) := by
  unfold fX5_character sChar
  have Tx := C.2.2.2.2.2.2
  have hn := Tx.2.2.1
  rw [if_pos (cs_o C)]
  by_cases h1 : i < 0
  · rw [if_pos h1, if_pos (Or.inl h1)]
  obtain ⟨j, hj, rfl⟩ := nI_of h1
  rw [if_neg h1, cs_5 C, Option.bind_some, tx_n Tx, Option.bind_some, nI_cl hj]
  by_cases h2 : n ≤ j
  · rw [if_pos ((nI_leI (by omega) (by omega)).mpr h2), if_pos (Or.inr h2)]
  · rw [if_neg (fun q => h2 ((nI_leI (by omega) (by omega)).mp q)), Option.bind_some, tx_b Tx, Option.bind_some, tx_rd Tx (by omega), Option.bind_some, if_neg (fun q => q.elim h1 h2)]
