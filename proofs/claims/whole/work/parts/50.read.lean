/-! Text: reading a number -/
def fd (T : Nat → Nat) (n : Nat) : Nat := if 0 < n ∧ T 0 = 45 then 1 else 0
theorem fd_le (T : Nat → Nat) (n : Nat) : fd T n ≤ n ∧ fd T n ≤ 1 := by unfold fd; split <;> omega
def okd (B : Nat) (T : Nat → Nat) (f : Nat) : Nat → Bool
  | 0 => true
  | k + 1 => okd B T f k && decide (dv (T (f + k)) < B)
def tv (B : Nat) (T : Nat → Nat) (f : Nat) : Nat → Nat
  | 0 => 0
  | k + 1 => tv B T f k * B + dv (T (f + k))
theorem okd_suc {B f k : Nat} {T : Nat → Nat} : okd B T f (k + 1) = true ↔ okd B T f k = true ∧ dv (T (f + k)) < B := by
  simp only [okd, Bool.and_eq_true, decide_eq_true_eq]
theorem okd_mono {B f : Nat} {T : Nat → Nat} : ∀ {k j : Nat}, j ≤ k → okd B T f k = true → okd B T f j = true
  | 0, j, hj, h => by rw [show j = 0 by omega]; exact h
  | k + 1, j, hj, h => by
    rcases Nat.lt_or_ge k j with q | q
    · rw [show j = k + 1 by omega]; exact h
    · exact okd_mono q (okd_suc.mp h).1
theorem okd_dv {B f k i : Nat} {T : Nat → Nat} (h : okd B T f k = true) (hi : i < k) : dv (T (f + i)) < B := (okd_suc.mp (okd_mono (show i + 1 ≤ k from hi) h)).2
theorem tv_add (B : Nat) (T : Nat → Nat) (f k : Nat) : ∀ l, tv B T f (k + l) = tv B T f k * B ^ l + tv B T (f + k) l
  | 0 => by rw [Nat.pow_zero, Nat.mul_one]; rfl
  | l + 1 => by
    rw [← Nat.add_assoc, tv, tv, tv_add B T f k l, Nat.pow_succ, Nat.add_assoc f k l]
    grind
theorem tv_lt {B f : Nat} {T : Nat → Nat} (hB : 0 < B) : ∀ {k}, (∀ i, i < k → dv (T (f + i)) < B) → tv B T f k < B ^ k
  | 0, _ => by rw [Nat.pow_zero]; exact Nat.one_pos
  | k + 1, h => by
    have ih := tv_lt (f := f) (T := T) hB (k := k) (fun i hi => h i (by omega))
    have h1 := h k (by omega)
    rw [tv, Nat.pow_succ]
    have h2 : (tv B T f k + 1) * B ≤ B ^ k * B := Nat.mul_le_mul_right B ih
    rw [Nat.add_mul, Nat.one_mul] at h2
    omega
theorem tv_mono {B f k : Nat} {T : Nat → Nat} (hB : 1 ≤ B) (l : Nat) : tv B T f k ≤ tv B T f (k + l) := by
  rw [tv_add]
  have := Nat.le_mul_of_pos_right (tv B T f k) (Nat.pow_pos (n := l) (show 0 < B by omega))
  omega
theorem first_eq {h : hp_H} {t b n : Nat} {T : Nat → Nat} (X : tx h t b T n) : fX3_firstDigit t h = some (nI (fd T n)) := by
  have hn := X.2.2.1
  unfold fX3_firstDigit fd
  rw [if_pos (tx_o X), tx_n X, Option.bind_some]
  by_cases h0 : 0 < n
  · rw [if_neg (show ¬ nI n ≤ 0 from fun q => by have := (nI_leI (b := 0) (by omega) (by omega)).mp q; omega), tx_b X, Option.bind_some, ni0, tx_rd X h0, Option.bind_some]
    have h1 := X.2.2.2 0 h0
    by_cases h2 : T 0 = 45
    · rw [if_pos (by rw [h2]; rfl), if_pos ⟨h0, h2⟩]; rfl
    · rw [if_neg (show ¬ nI (T 0) = (45 : Int32) from fun q => h2 ((nI_ij (b := 45) (by omega) (by omega)).mp q)), if_neg (fun q => h2 q.2)]
  · rw [if_pos (show nI n ≤ 0 from (nI_leI (b := 0) (by omega) (by omega)).mpr (by omega)), if_neg (fun q => h0 q.1)]; rfl
theorem tells_loop {h : hp_H} {t b n B f : Nat} {T : Nat → Nat} (X : tx h t b T n) (hB : B ≤ 16) (hf : f ≤ n) : ∀ (e i fuel : Nat), n - (f + i) = e → f + i ≤ n → e < fuel → okd B T f i = true → bX3_tellsNumber_7 t (nI B) (nI f) h fuel (nI (f + i)) = some (if okd B T f (n - f) = true ∧ f < n then 1 else 0)
  | 0, i, fuel + 1, he, hi, hfu, ho => by
    have hn := X.2.2.1
    simp only [bX3_tellsNumber_7]
    rw [tx_n X, Option.bind_some, if_pos ((nI_leI (by omega) (by omega)).mpr (by omega)), Option.bind_some]
    rw [show i = n - f by omega] at ho
    by_cases h1 : f < n
    · rw [if_neg (fun q => by have := (nI_leI (by omega) (by omega)).mp q; omega), if_pos ⟨ho, h1⟩]
    · rw [if_pos ((nI_leI (by omega) (by omega)).mpr (by omega)), if_neg (fun q => h1 q.2)]
  | e + 1, i, fuel + 1, he, hi, hfu, ho => by
    have hn := X.2.2.1
    simp only [bX3_tellsNumber_7]
    have hT := X.2.2.2 (f + i) (by omega)
    rw [tx_n X, Option.bind_some, if_neg (fun q => by have := (nI_leI (by omega) (by omega)).mp q; omega), tx_b X, Option.bind_some, tx_rd X (by omega), Option.bind_some, digitOf_eq _ hT, Option.bind_some]
    have no : ¬ dv (T (f + i)) < B → (if okd B T f (n - f) = true ∧ f < n then (1 : Int32) else 0) = 0 := fun q => if_neg (fun w => q (okd_dv w.1 (by omega)))
    by_cases h1 : dv (T (f + i)) < 16
    · rw [if_pos h1, if_neg (nI_lt0 (by omega))]
      by_cases h2 : dv (T (f + i)) < B
      · rw [if_pos ((nI_ltI (by omega) (by omega)).mpr h2), Option.bind_some, ni1, nI_add]
        exact tells_loop X hB hf e (i + 1) fuel (by omega) (by omega) (by omega) (okd_suc.mpr ⟨ho, h2⟩)
      · rw [if_neg (fun q => h2 ((nI_ltI (by omega) (by omega)).mp q)), no h2]
    · rw [if_neg h1, if_pos (by decide), no (by omega)]
theorem tells_eq {h : hp_H} {t b n B : Nat} {T : Nat → Nat} (X : tx h t b T n) (hB : B ≤ 16) : fX3_tellsNumber t (nI B) h = some (if okd B T (fd T n) (n - fd T n) = true ∧ fd T n < n then 1 else 0) := by
  have hn := X.2.2.1
  have hf := fd_le T n
  unfold fX3_tellsNumber
  rw [if_pos (tx_o X), first_eq X, Option.bind_some]
  exact tells_loop X hB hf.1 (n - (fd T n + 0)) 0 hp_n rfl (by omega) (show n - (fd T n + 0) < 1000000 by omega) rfl
theorem piece_loop {h : hp_H} {t b n B i l : Nat} {T : Nat → Nat} (X : tx h t b T n) (hB : B ≤ 16) (hl : i + l ≤ n) (hd : ∀ j, j < l → dv (T (i + j)) < B) : ∀ (e k fuel : Nat), l - k = e → k ≤ l → e < fuel → bX3_pieceBetween_6 t (nI (i + l)) (nI B) h fuel (nI (tv B T i k)) (nI (i + k)) = some (nI (tv B T i l))
  | 0, k, fuel + 1, he, hk, hf => by
    have hn := X.2.2.1
    simp only [bX3_pieceBetween_6]
    rw [if_pos ((nI_leI (by omega) (by omega)).mpr (by omega)), show k = l by omega]
  | e + 1, k, fuel + 1, he, hk, hf => by
    have hn := X.2.2.1
    simp only [bX3_pieceBetween_6]
    have hT := X.2.2.2 (i + k) (by omega)
    have h2 := hd k (by omega)
    rw [if_neg (fun q => by have := (nI_leI (by omega) (by omega)).mp q; omega), tx_b X, Option.bind_some, tx_rd X (by omega), Option.bind_some, digitOf_eq _ hT, Option.bind_some, if_pos (by omega), Option.bind_some, Option.bind_some, nI_mul, nI_add, ni1, nI_add]
    exact piece_loop X hB hl hd e (k + 1) fuel (by omega) (by omega) (by omega)
theorem piece_eq {h : hp_H} {t b n B i l : Nat} {T : Nat → Nat} (X : tx h t b T n) (hB : B ≤ 16) (hl : i + l ≤ n) (hd : ∀ j, j < l → dv (T (i + j)) < B) : fX3_pieceBetween t (nI i) (nI (i + l)) (nI B) h = some (nI (tv B T i l)) := by
  have hn := X.2.2.1
  unfold fX3_pieceBetween
  rw [if_pos (tx_o X)]
  exact piece_loop X hB hl hd l 0 hp_n rfl (by omega) (show l < 1000000 by omega)
theorem tell_loop {t b n B f d w a ab : Nat} {T : Nat → Nat} {x4 : Int32} (hB2 : 2 ≤ B) (hB : B ≤ 16) (hf : f ≤ n) (hd1 : 1 ≤ d) (hd2 : d ≤ 30) (hd : B ^ d < 1073741824) (ho : okd B T f (n - f) = true) (h1 : a ≠ t) (h2 : a ≠ b) (h3 : ab ≠ t) (h4 : ab ≠ b) (h5 : w ≠ a) (h6 : w ≠ ab) : ∀ (e i fuel : Nat) (h : hp_H), n - (f + i) = e → e < fuel → f + i ≤ 4200 → tx h t b T n → wq h w a ab (tv B T f (min i (n - f))) →
    ∃ h' v, bX3_tell_24 t w (nI B) (nI d) x4 fuel (nI (f + i)) h = bX3_tell_93 w x4 h' ∧ wq h' w a ab v ∧ (v = tv B T f (n - f) ∨ (4096 < bl v ∧ v ≤ tv B T f (n - f))) ∧ fr h h' a ab
  | e, i, fuel + 1, h, he, hfu, hi, X, W => by
    have hn := X.2.2.1
    have l1 := nv_lt W.2
    simp only [bX3_tell_24]
    rw [tx_n X, Option.bind_some]
    by_cases hs : n ≤ f + i
    · rw [if_pos ((nI_leI (by omega) (by omega)).mpr hs)]
      rw [show min i (n - f) = n - f by omega] at W
      exact ⟨h, _, rfl, W, Or.inl rfl, fr.rf⟩
    · rw [show min i (n - f) = i by omega] at W l1
      rw [if_neg (fun q => hs ((nI_leI (by omega) (by omega)).mp q)), wq_a W, Option.bind_some, bitLength_eq W.2, Option.bind_some]
      by_cases hb : 4096 < bl (tv B T f i)
      · rw [if_pos (show (4096 : Int32) < nI _ from (nI_ltI (a := 4096) (by omega) (by omega)).mpr hb)]
        refine ⟨h, _, rfl, W, Or.inr ⟨hb, ?_⟩, fr.rf⟩
        have := tv_mono (B := B) (f := f) (k := i) (T := T) (by omega) (n - f - i)
        rw [show i + (n - f - i) = n - f by omega] at this
        exact this
      · obtain ⟨l, hl⟩ : ∃ l, l = min (i + d) (n - f) - i := ⟨_, rfl⟩
        have em : hp_min (nI (f + i) + nI d) (nI n) = nI (f + i + l) := by
          rw [nI_add, nI_min (by omega) (by omega)]; congr 1; omega
        have es : nI (f + i + l) - nI (f + i) = nI l := by
          rw [pk_sub (by omega)]; congr 1; omega
        have hdv : ∀ j, j < l → dv (T (f + i + j)) < B := fun j hj => by
          rw [Nat.add_assoc]; exact okd_dv ho (by omega)
        have hpl : B ^ l ≤ B ^ d := Nat.pow_le_pow_right (by omega) (by omega)
        have hlt := tv_lt (f := f + i) (T := T) (show 0 < B by omega) hdv
        obtain ⟨h20, p1, V20, F20⟩ := timesPlus_eq W.2 (f := B ^ l) (ad := tv B T (f + i) l) (by omega) (by omega) (by omega)
        rw [if_neg (show ¬ (4096 : Int32) < nI _ from fun q => hb ((nI_ltI (a := 4096) (by omega) (by omega)).mp q)), Option.bind_some, Option.bind_some, em, Option.bind_some, es, powerOf_eq (by omega), Option.bind_some, piece_eq X hB (by omega) hdv, Option.bind_some, p1, Option.bind_some, Option.bind_some, nI_add]
        have ev : B ^ l * tv B T f i + tv B T (f + i) l = tv B T f (min (i + d) (n - f)) := by
          rw [Nat.mul_comm, ← tv_add]; congr 1; omega
        rw [ev] at V20
        have W20 := wq_fr W F20 h5 h6 V20
        have X20 := tx_fr X F20 (Ne.symm h1) (Ne.symm h3) (Ne.symm h2) (Ne.symm h4)
        obtain ⟨h', v, r1, r2, r3, r4⟩ := tell_loop (x4 := x4) hB2 hB hf hd1 hd2 hd ho h1 h2 h3 h4 h5 h6 (n - (f + (i + d))) (i + d) fuel h20 rfl (by omega) (by omega) X20 W20
        refine ⟨h', v, ?_, r2, r3, F20.tr r4⟩
        rw [Nat.add_assoc]; exact r1
def sRead (R : Nat → Int) (T : Nat → Nat) (n : Nat) (t b : Int32) : Int32 × (Nat → Int) := match rg t, bs b with
  | some k, some B => if okd B T (fd T n) (n - fd T n) = true ∧ fd T n < n then sKeep R k (if fd T n = 1 then -(tv B T (fd T n) (n - fd T n) : Int) else tv B T (fd T n) (n - fd T n)) else (-1, R)
  | _, _ => (-1, R)
theorem tell_eq {h : hp_H} {t b n B w a ab u : Nat} {T : Nat → Nat} (X : tx h t b T n) (W : wq h w a ab u) (hB2 : 2 ≤ B) (hB : B ≤ 16) (ho : okd B T (fd T n) (n - fd T n) = true) (N : List.Nodup [t, b, w, a, ab]) : ∃ (h' : hp_H) (v : Nat), fX3_tell t w (nI B) h = some h' ∧ wz h' w a ab (if fd T n = 1 then -(v : Int) else v) ∧ (v = tv B T (fd T n) (n - fd T n) ∨ (4096 < bl v ∧ v ≤ tv B T (fd T n) (n - fd T n))) ∧ fs h h' [w, a, ab] := by
  have hn := X.2.2.1
  have hf := fd_le T n
  have N3 : List.Nodup [w, a, ab] := by
    have := nsub (l1 := [t, b]) (l2 := [w, a, ab]) N
    exact this.2.1
  have ht : t ∉ [w, a, ab] := (nsub (l1 := [t, b]) (l2 := [w, a, ab]) N).2.2 t (by simp)
  have hb : b ∉ [w, a, ab] := (nsub (l1 := [t, b]) (l2 := [w, a, ab]) N).2.2 b (by simp)
  unfold fX3_tell
  obtain ⟨h2, p1, W2, F2⟩ := takeLong_eq W N3 0
  have X2 := tx_fs X F2 ht hb
  obtain ⟨d, d1, d2, d3, d4⟩ := dil_eq hB2 hB
  have em : hp_max (nI d) (1 : Int32) = nI d := by rw [ni1, nI_max (by omega) (by omega)]; congr 1; omega
  rw [if_pos (tx_o X), p1, Option.bind_some, d1, Option.bind_some, Option.bind_some, em, first_eq X2, Option.bind_some]
  have W2q : wq h2 w a ab (tv B T (fd T n) (min 0 (n - fd T n))) := by
    rw [Nat.zero_min]; exact wz_q W2
  obtain ⟨h', v, r1, r2, r3, r4⟩ := tell_loop (x4 := nI (fd T n)) hB2 hB hf.1 d2 d3 d4 ho (nd N 3 0) (nd N 3 1) (nd N 4 0) (nd N 4 1) (nd N 2 3) (nd N 2 4) (n - (fd T n + 0)) 0 hp_n h2 rfl (show n - (fd T n + 0) < 1000000 by omega) (by omega) X2 W2q
  rw [Nat.add_zero] at r1
  rw [r1, bX3_tell_93]
  have F2' : fs h h' [w, a, ab] := F2.tr (r4.fs (by simp) (by simp))
  by_cases h1 : fd T n = 1
  · obtain ⟨h9, s1, s2, s3⟩ := takeSign_eq r2 N3 (s := 1) (Or.inr rfl)
    rw [if_pos (by rw [h1]; rfl), bX3_tell_105, s1, Option.bind_some]
    rw [if_neg (by decide)] at s2
    exact ⟨h9, v, rfl, by rw [if_pos h1]; exact s2, r3, F2'.tr s3⟩
  · obtain ⟨h9, s1, s2, s3⟩ := takeSign_eq r2 N3 (s := 0) (Or.inl rfl)
    rw [if_neg (show ¬ nI (fd T n) = (1 : Int32) from fun q => h1 ((nI_ij (b := 1) (by omega) (by omega)).mp q)), bX3_tell_105, s1, Option.bind_some]
    rw [if_pos rfl] at s2
    exact ⟨h9, v, rfl, by rw [if_neg h1]; exact s2, r3, F2'.tr s3⟩
theorem read_eq {h : hp_H} {z n : Nat} {R : Nat → Int} {T : Nat → Nat} (C : cs h z R T n) (t b : Int32) : ∃ h', fX5_read z t b h = some ((sRead R T n t b).1, h') ∧ cs h' z (sRead R T n t b).2 T n := by
  unfold fX5_read sRead
  rw [if_pos (cs_o C)]
  have Tx := C.2.2.2.2.2.2
  rcases rg_cases t with ⟨e1, f1⟩ | ⟨k, hk, rfl, e1, f1⟩
  · rw [f1, Option.bind_some, if_pos rfl, e1]; exact ⟨h, rfl, C⟩
  rw [f1, Option.bind_some, if_neg (by decide)]
  rcases bs_cases b with ⟨e2, f2⟩ | ⟨B, hB2, hB, rfl, e2, f2⟩
  · rw [f2, Option.bind_some, if_pos rfl, e1, e2]; exact ⟨h, rfl, C⟩
  rw [f2, Option.bind_some, if_neg (by decide), e1, e2, cs_5 C, Option.bind_some, tells_eq Tx hB, Option.bind_some]
  simp only []
  by_cases ho : okd B T (fd T n) (n - fd T n) = true ∧ fd T n < n
  · rw [if_pos ho, if_pos ho, if_neg (by decide), Option.bind_some, cs_1 C, Option.bind_some]
    obtain ⟨u, W⟩ := C.2.2.1
    obtain ⟨h17, v, p1, W17, hv, F17⟩ := tell_eq Tx W hB2 hB ho.1 (by simp)
    obtain ⟨h19, p2, C19⟩ := keep_eq (cs_res C F17 (wz_q W17)) hk W17
    rw [p1, Option.bind_some, p2, Option.bind_some]
    refine ⟨h19, ?_, ?_⟩
    all_goals
      rcases hv with hv | ⟨hv1, hv2⟩
      · first | (rw [← hv]; done) | (rw [← hv]; exact C19)
      · have b1 : ¬ bl (if fd T n = 1 then -(v : Int) else (v : Int)).natAbs ≤ 4096 := by
          have : (if fd T n = 1 then -(v : Int) else (v : Int)).natAbs = v := by split <;> omega
          rw [this]; omega
        have b2 : ¬ bl (if fd T n = 1 then -(tv B T (fd T n) (n - fd T n) : Int) else (tv B T (fd T n) (n - fd T n) : Int)).natAbs ≤ 4096 := by
          have : (if fd T n = 1 then -(tv B T (fd T n) (n - fd T n) : Int) else (tv B T (fd T n) (n - fd T n) : Int)).natAbs = tv B T (fd T n) (n - fd T n) := by split <;> omega
          rw [this]
          have := bl_mono hv2
          omega
        unfold sKeep at C19 ⊢
        rw [if_neg b1] at C19
        rw [if_neg b2]
        first | rw [if_neg b1] | exact C19
  · rw [if_neg ho, if_neg ho, if_pos rfl]; exact ⟨h, rfl, C⟩
