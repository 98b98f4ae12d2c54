/-! Euclid: the greatest common divisor -/
/-- the division's own numbers, whatever they are -/
def dn (h : hp_H) (dv q qb r rb v vb : Nat) : Prop := ds h dv q r v ∧ (∃ w, nv h q qb w) ∧ (∃ w, nv h r rb w) ∧ ∃ w, nv h v vb w
theorem dn_fs {h h' : hp_H} {dv q qb r rb v vb : Nat} {l : List Nat} (D : dn h dv q qb r rb v vb) (F : fs h h' l) (h0 : dv ∉ l) (h1 : q ∉ l) (h2 : qb ∉ l) (h3 : r ∉ l) (h4 : rb ∉ l) (h5 : v ∉ l) (h6 : vb ∉ l) : dn h' dv q qb r rb v vb := by
  obtain ⟨D, ⟨w1, Q⟩, ⟨w2, R⟩, ⟨w3, V⟩⟩ := D
  exact ⟨(F dv h0).trans D, ⟨w1, nv_fs Q F h1 h2⟩, ⟨w2, nv_fs R F h3 h4⟩, ⟨w3, nv_fs V F h5 h6⟩⟩
theorem es_fs {h h' : hp_H} {e gr le : Nat} {a b c d : Int} {l : List Nat} (E : es h e gr le a b c d) (F : fs h h' l) (h0 : e ∉ l) : es h' e gr le a b c d := (F e h0).trans E
theorem es_pr1 {h : hp_H} {e gr le : Nat} {a b c d : Int} (E : es h e gr le a b c d) (z : Nat) : ∃ h', hp_pv h e 0 0 (.ref z) = some h' ∧ es h' e z le a b c d ∧ fr h h' e e :=
  ⟨va_up h e (some (.inr (.inr (.inr (0, [.ref z, .ref le, .long (lI a), .long (lI b), .long (lI c), .long (lI d)]))))), by unfold es at E; simp [hp_pv, E], va_up_self _ _ _, fun q hq _ => va_up_ne _ _ hq⟩
theorem es_pr2 {h : hp_H} {e gr le : Nat} {a b c d : Int} (E : es h e gr le a b c d) (z : Nat) : ∃ h', hp_pv h e 0 1 (.ref z) = some h' ∧ es h' e gr z a b c d ∧ fr h h' e e :=
  ⟨va_up h e (some (.inr (.inr (.inr (0, [.ref gr, .ref z, .long (lI a), .long (lI b), .long (lI c), .long (lI d)]))))), by unfold es at E; simp [hp_pv, E], va_up_self _ _ _, fun q hq _ => va_up_ne _ _ hq⟩
theorem nsub {l1 l2 : List Nat} (h : (l1 ++ l2).Nodup) : l1.Nodup ∧ l2.Nodup ∧ ∀ x, x ∈ l1 → x ∉ l2 := by
  rw [List.nodup_append] at h
  exact ⟨h.1, h.2.1, fun x h1 h2 => h.2.2 x h1 x h2 rfl⟩
theorem step_eq {h : hp_H} {e dv gr gb le lb q qb r rb v vb X Y : Nat} {a b c d : Int} (E : es h e gr le a b c d) (D : dn h dv q qb r rb v vb) (G : nv h gr gb X) (L : nv h le lb Y) (hY : Y ≠ 0) (hX4 : bl X ≤ 4140) (hY4 : bl Y ≤ 4140) (N : List.Nodup ([e, gr, gb, le, lb] ++ [dv, q, qb, r, rb, v, vb])) :
    ∃ h', fX0_takeStep e dv h = some h' ∧ es h' e le gr a b c d ∧ dn h' dv q qb r rb v vb ∧ nv h' le lb Y ∧ nv h' gr gb (X % Y) ∧ fs h h' [e, gr, gb, q, qb, r, rb, v, vb] := by
  obtain ⟨N1, N2, N3⟩ := nsub N
  obtain ⟨Ds, ⟨w1, Q⟩, ⟨w2, R⟩, ⟨w3, V⟩⟩ := D
  obtain ⟨h8, wv, e1, D8, Q8, R8, V8, F8⟩ := split_eq Ds Q R V G L hY hX4 hY4 N2 (N3 gr (by simp)) (N3 gb (by simp)) (N3 le (by simp)) (N3 lb (by simp))
  have out : ∀ x, x ∈ [e, gr, gb, le, lb] → x ∉ [q, qb, r, rb, v, vb] := fun x hx hm => N3 x hx (List.mem_cons_of_mem _ hm)
  have E8 := es_fs E F8 (out e (by simp))
  have G8 := nv_fs G F8 (out gr (by simp)) (out gb (by simp))
  have L8 := nv_fs L F8 (out le (by simp)) (out lb (by simp))
  obtain ⟨h13, e2, E13, F13⟩ := es_pr1 E8 le
  obtain ⟨h15, e3, E15, F15⟩ := es_pr2 E13 gr
  have F2 : fr h8 h15 e e := F13.tr F15
  have ne : ∀ x, x ∈ [dv, q, qb, r, rb, v, vb] → x ≠ e := fun x hx hxe => N3 e (by simp) (hxe ▸ hx)
  have D15 := ds_fr D8 F2 (ne dv (by simp)) (ne dv (by simp))
  have Q15 := nv_fr Q8 F2 (ne q (by simp)) (ne q (by simp)) (ne qb (by simp)) (ne qb (by simp))
  have R15 := nv_fr R8 F2 (ne r (by simp)) (ne r (by simp)) (ne rb (by simp)) (ne rb (by simp))
  have V15 := nv_fr V8 F2 (ne v (by simp)) (ne v (by simp)) (ne vb (by simp)) (ne vb (by simp))
  have G15 := nv_fr G8 F2 (nd N1 1 0) (nd N1 1 0) (nd N1 2 0) (nd N1 2 0)
  have L15 := nv_fr L8 F2 (nd N1 3 0) (nd N1 3 0) (nd N1 4 0) (nd N1 4 0)
  obtain ⟨cg, gg, Gr⟩ := nv_nr G15
  have na : ∀ x y, x ∈ [e, gr, gb, le, lb] → y ∈ [dv, q, qb, r, rb, v, vb] → y ≠ x := fun x y hx hy hxy => N3 x hx (hxy ▸ hy)
  obtain ⟨h24, e4, G24, F24⟩ := take_eq Gr R15 (na gr r (by simp) (by simp)) (na gb r (by simp) (by simp)) (na gr rb (by simp) (by simp)) (na gb rb (by simp) (by simp))
  refine ⟨h24, ?_, es_fr E15 F24 (nd N1 0 1) (nd N1 0 2), ⟨ds_fr D15 F24 (na gr dv (by simp) (by simp)) (na gb dv (by simp) (by simp)), ⟨_, nv_fr Q15 F24 (na gr q (by simp) (by simp)) (na gb q (by simp) (by simp)) (na gr qb (by simp) (by simp)) (na gb qb (by simp) (by simp))⟩, ⟨_, nv_fr R15 F24 (na gr r (by simp) (by simp)) (na gb r (by simp) (by simp)) (na gr rb (by simp) (by simp)) (na gb rb (by simp) (by simp))⟩, ⟨_, nv_fr V15 F24 (na gr v (by simp) (by simp)) (na gb v (by simp) (by simp)) (na gr vb (by simp) (by simp)) (na gb vb (by simp) (by simp))⟩⟩, nv_fr L15 F24 (nd N1 3 1) (nd N1 3 2) (nd N1 4 1) (nd N1 4 2), G24, ?_⟩
  · unfold fX0_takeStep
    rw [if_pos (es_o E), es_g E, Option.bind_some, es_l E, Option.bind_some, e1, Option.bind_some, es_g E8, Option.bind_some, es_l E8, Option.bind_some, e2, Option.bind_some, e3, Option.bind_some, es_l E15, Option.bind_some, ds_r D15, Option.bind_some, e4, Option.bind_some]
  · have f1 : fs h h15 [e, gr, gb, q, qb, r, rb, v, vb] := (F8.mono (fun p hp => by
      simp only [List.mem_cons, List.not_mem_nil, or_false] at hp ⊢
      rcases hp with rfl | rfl | rfl | rfl | rfl | rfl <;> simp)).tr (F2.fs (by simp) (by simp))
    exact f1.tr (F24.fs (by simp) (by simp))
/-- the loop: some of the two numbers' bits go at every round -/
theorem gcd_loop {e dv q qb r rb v vb : Nat} : ∀ (k j n : Nat) (gr gb le lb X Y : Nat) (a b c d : Int) (h : hp_H), bl X + bl Y ≤ k → k + j ≤ 8192 → k < n → es h e gr le a b c d → dn h dv q qb r rb v vb → nv h gr gb X → nv h le lb Y → Y ≤ X → bl X ≤ 4140 → bl Y ≤ 4140 → List.Nodup ([e, gr, gb, le, lb] ++ [dv, q, qb, r, rb, v, vb]) →
    ∃ h' g2 gb2 l2 lb2 a' b' c' d' w, bX0_commonDivisor_52 e dv n (nI j) h = some (g2, h') ∧ es h' e g2 l2 a' b' c' d' ∧ dn h' dv q qb r rb v vb ∧ nv h' g2 gb2 (Nat.gcd X Y) ∧ nv h' l2 lb2 w ∧ fs h h' [e, gr, gb, le, lb, q, qb, r, rb, v, vb] ∧ ((g2 = gr ∧ gb2 = gb ∧ l2 = le ∧ lb2 = lb) ∨ (g2 = le ∧ gb2 = lb ∧ l2 = gr ∧ lb2 = gb)) := by
  intro k
  induction k with
  | zero =>
    intro j n gr gb le lb X Y a b c d h hk hj hn E D G L hYX hX4 hY4 N
    obtain ⟨m, rfl⟩ : ∃ m, n = m + 1 := ⟨n - 1, by omega⟩
    have hY : Y = 0 := by
      rcases Nat.eq_zero_or_pos Y with z | z
      · exact z
      · have := bl_pos (n := Y) (by omega); omega
    rw [bX0_commonDivisor_52, show (8194 : Int32) = nI 8194 from rfl, if_neg (fun q => by have := (nI_leI (by omega) (by omega)).mp q; omega), es_l E, Option.bind_some, isZero_v L, Option.bind_some, if_pos hY, if_neg (by decide), bX0_commonDivisor_95, es_g E, Option.bind_some]
    exact ⟨h, gr, gb, le, lb, a, b, c, d, Y, rfl, E, D, by rw [hY, Nat.gcd_zero_right]; exact G, L, fs.rf, Or.inl ⟨rfl, rfl, rfl, rfl⟩⟩
  | succ k ih =>
    intro j n gr gb le lb X Y a b c d h hk hj hn E D G L hYX hX4 hY4 N
    obtain ⟨m, rfl⟩ : ∃ m, n = m + 1 := ⟨n - 1, by omega⟩
    obtain ⟨N1, N2, N3⟩ := nsub N
    rw [bX0_commonDivisor_52, show (8194 : Int32) = nI 8194 from rfl, if_neg (fun q => by have := (nI_leI (by omega) (by omega)).mp q; omega), es_l E, Option.bind_some, isZero_v L, Option.bind_some]
    by_cases hY : Y = 0
    · rw [if_pos hY, if_neg (by decide), bX0_commonDivisor_95, es_g E, Option.bind_some]
      exact ⟨h, gr, gb, le, lb, a, b, c, d, Y, rfl, E, D, by rw [hY, Nat.gcd_zero_right]; exact G, L, fs.rf, Or.inl ⟨rfl, rfl, rfl, rfl⟩⟩
    · rw [if_neg hY, if_pos rfl]
      obtain ⟨fl, h8, a', b', c', d', e1, E8, F8, hfl⟩ := foresee_eq E G L hYX N1
      have F8s : fs h h8 [e] := F8.fs (by simp) (by simp)
      have oe : ∀ x, x ∈ [dv, q, qb, r, rb, v, vb] → x ∉ [e] := fun x hx hm => by
        rw [List.mem_singleton] at hm
        exact N3 e (by simp) (hm ▸ hx)
      have D8 := dn_fs D F8s (oe dv (by simp)) (oe q (by simp)) (oe qb (by simp)) (oe r (by simp)) (oe rb (by simp)) (oe v (by simp)) (oe vb (by simp))
      have G8 := nv_fr G F8 (nd N1 1 0) (nd N1 1 0) (nd N1 2 0) (nd N1 2 0)
      have L8 := nv_fr L F8 (nd N1 3 0) (nd N1 3 0) (nd N1 4 0) (nd N1 4 0)
      rw [e1, Option.bind_some]
      rcases hfl with rfl | ⟨rfl, sa, sb, sc, sd, hw⟩
      · obtain ⟨h13, e2, E13, D13, L13, G13, F13⟩ := step_eq E8 D8 G8 L8 hY hX4 hY4 N
        simp only [if_true]
        rw [e2, Option.bind_some, bX0_commonDivisor_89, Option.bind_some, nI_1]
        have dm := Nat.div_add_mod X Y
        have ml := Nat.mod_lt X (show 0 < Y by omega)
        have eX : X = X / Y * Y + X % Y := by rw [Nat.mul_comm]; exact dm.symm
        have hq : 1 ≤ X / Y := Nat.div_pos hYX (by omega)
        have hb := bl_step eX ml hq
        have N' : List.Nodup ([e, le, lb, gr, gb] ++ [dv, q, qb, r, rb, v, vb]) := by
          have hp : List.Perm ([e, gr, gb, le, lb] ++ [dv, q, qb, r, rb, v, vb]) ([e, le, lb, gr, gb] ++ [dv, q, qb, r, rb, v, vb]) := by
            refine List.Perm.append_right _ (List.Perm.cons _ ?_)
            show List.Perm ([gr, gb] ++ [le, lb]) ([le, lb] ++ [gr, gb])
            exact List.perm_append_comm
          exact hp.nodup N
        obtain ⟨h', g2, gb2, l2, lb2, a2, b2, c2, d2, w, r1, r2, r3, r4, r5, r6, r7⟩ := ih (j + 1) m le lb gr gb Y (X % Y) a' b' c' d' h13 (by omega) (by omega) (by omega) E13 D13 L13 G13 (by omega) hY4 (Nat.le_trans (bl_mono (Nat.mod_le _ _)) hX4) N'
        refine ⟨h', g2, gb2, l2, lb2, a2, b2, c2, d2, w, r1, r2, r3, by rw [← gcd_sub eX]; exact r4, r5, ?_, r7.symm⟩
        refine ((F8s.mono (fun p hp => ?_)).tr (F13.mono (fun p hp => ?_))).tr (r6.mono (fun p hp => ?_))
        · simp only [List.mem_cons, List.not_mem_nil, or_false] at hp ⊢
          rcases hp with rfl; simp
        · simp only [List.mem_cons, List.not_mem_nil, or_false] at hp ⊢
          rcases hp with rfl | rfl | rfl | rfl | rfl | rfl | rfl | rfl | rfl <;> simp
        · simp only [List.mem_cons, List.not_mem_nil, or_false] at hp ⊢
          rcases hp with rfl | rfl | rfl | rfl | rfl | rfl | rfl | rfl | rfl | rfl | rfl <;> simp
      · obtain ⟨h15, U, V, e2, E15, G15, L15, hVU, hg, hb, hUX, F15⟩ := foreseen_eq E8 G8 L8 hYX N1 sa sb sc sd hw
        have ol : ∀ x, x ∈ [dv, q, qb, r, rb, v, vb] → x ∉ [gr, gb, le, lb] := fun x hx hm => N3 x (List.mem_cons_of_mem _ hm) hx
        have D15 := dn_fs D8 F15 (ol dv (by simp)) (ol q (by simp)) (ol qb (by simp)) (ol r (by simp)) (ol rb (by simp)) (ol v (by simp)) (ol vb (by simp))
        simp only []
        rw [if_neg (by decide), e2, Option.bind_some, bX0_commonDivisor_89, Option.bind_some, nI_1]
        obtain ⟨h', g2, gb2, l2, lb2, a2, b2, c2, d2, w, r1, r2, r3, r4, r5, r6, r7⟩ := ih (j + 1) m gr gb le lb U V a' b' c' d' h15 (by omega) (by omega) (by omega) E15 D15 G15 L15 hVU (Nat.le_trans (bl_mono hUX) hX4) (Nat.le_trans (bl_mono (Nat.le_trans hVU hUX)) hX4) N
        refine ⟨h', g2, gb2, l2, lb2, a2, b2, c2, d2, w, r1, r2, r3, by rw [← hg]; exact r4, r5, ?_, r7⟩
        refine ((F8s.mono (fun p hp => ?_)).tr (F15.mono (fun p hp => ?_))).tr r6
        · simp only [List.mem_cons, List.not_mem_nil, or_false] at hp ⊢
          rcases hp with rfl; simp
        · simp only [List.mem_cons, List.not_mem_nil, or_false] at hp ⊢
          rcases hp with rfl | rfl | rfl | rfl <;> simp
theorem gcd_eq {h : hp_H} {e dv gr gb le lb q qb r rb v vb x bx y b2 X Y wg wl : Nat} {a b c d : Int} (E : es h e gr le a b c d) (D : dn h dv q qb r rb v vb) (G : nv h gr gb wg) (L : nv h le lb wl) (Xn : nv h x bx X) (Yn : nv h y b2 Y) (hX4 : bl X ≤ 4096) (hY4 : bl Y ≤ 4096) (N : List.Nodup ([e, gr, gb, le, lb] ++ [dv, q, qb, r, rb, v, vb])) (x1 : x ∉ [e, gr, gb, le, lb]) (x2 : bx ∉ [e, gr, gb, le, lb]) (y1 : y ∉ [e, gr, gb, le, lb]) (y2 : b2 ∉ [e, gr, gb, le, lb]) :
    ∃ h' g2 gb2 l2 lb2 a' b' c' d' w, fX0_commonDivisor e x y dv h = some (g2, h') ∧ es h' e g2 l2 a' b' c' d' ∧ dn h' dv q qb r rb v vb ∧ nv h' g2 gb2 (Nat.gcd X Y) ∧ nv h' l2 lb2 w ∧ fs h h' [e, gr, gb, le, lb, q, qb, r, rb, v, vb] ∧ ((g2 = gr ∧ gb2 = gb ∧ l2 = le ∧ lb2 = lb) ∨ (g2 = le ∧ gb2 = lb ∧ l2 = gr ∧ lb2 = gb)) := by
  obtain ⟨N1, N2, N3⟩ := nsub N
  obtain ⟨cg, gg, Gr⟩ := nv_nr G
  obtain ⟨cl, gl, Lr⟩ := nv_nr L
  have ol : ∀ x, x ∈ [dv, q, qb, r, rb, v, vb] → x ∉ [gr, gb] ∧ x ∉ [le, lb] := fun x hx => ⟨fun hm => N3 x (by simp at hm ⊢; rcases hm with rfl | rfl <;> simp) hx, fun hm => N3 x (by simp at hm ⊢; rcases hm with rfl | rfl <;> simp) hx⟩
  -- the greater number first, then the lesser; from any two whose order is known
  have key : ∀ (s bs t bt S T : Nat), nv h s bs S → nv h t bt T → T ≤ S → bl S ≤ 4096 → bl T ≤ 4096 → s ∉ [e, gr, gb, le, lb] → bs ∉ [e, gr, gb, le, lb] → t ∉ [e, gr, gb, le, lb] → bt ∉ [e, gr, gb, le, lb] →
      ∃ h2 h4 h' g2 gb2 l2 lb2 a' b' c' d' w, fX2_take gr s h = some h2 ∧ hp_gr h2 e 0 1 = some le ∧ fX2_take le t h2 = some h4 ∧ bX0_commonDivisor_52 e dv hp_n (nI 0) h4 = some (g2, h') ∧ es h' e g2 l2 a' b' c' d' ∧ dn h' dv q qb r rb v vb ∧ nv h' g2 gb2 (Nat.gcd S T) ∧ nv h' l2 lb2 w ∧ fs h h' [e, gr, gb, le, lb, q, qb, r, rb, v, vb] ∧ ((g2 = gr ∧ gb2 = gb ∧ l2 = le ∧ lb2 = lb) ∨ (g2 = le ∧ gb2 = lb ∧ l2 = gr ∧ lb2 = gb)) := by
    intro s bs t bt S T Sn Tn hTS hS hT s1 s2 t1 t2
    obtain ⟨h2, e1, G2, F2⟩ := take_eq Gr Sn (nm s1 1) (nm s1 2) (nm s2 1) (nm s2 2)
    have L2 := nr_fr Lr F2 (nd N1 3 1) (nd N1 3 2) (nd N1 4 1) (nd N1 4 2)
    have T2 := nv_fr Tn F2 (nm t1 1) (nm t1 2) (nm t2 1) (nm t2 2)
    have E2 := es_fr E F2 (nd N1 0 1) (nd N1 0 2)
    obtain ⟨h4, e2, L4, F4⟩ := take_eq L2 T2 (nm t1 3) (nm t1 4) (nm t2 3) (nm t2 4)
    have E4 := es_fr E2 F4 (nd N1 0 3) (nd N1 0 4)
    have G4 := nv_fr G2 F4 (nd N1 1 3) (nd N1 1 4) (nd N1 2 3) (nd N1 2 4)
    have D2 := dn_fs D (F2.fs (l := [gr, gb]) (by simp) (by simp)) (ol dv (by simp)).1 (ol q (by simp)).1 (ol qb (by simp)).1 (ol r (by simp)).1 (ol rb (by simp)).1 (ol v (by simp)).1 (ol vb (by simp)).1
    have D4 := dn_fs D2 (F4.fs (l := [le, lb]) (by simp) (by simp)) (ol dv (by simp)).2 (ol q (by simp)).2 (ol qb (by simp)).2 (ol r (by simp)).2 (ol rb (by simp)).2 (ol v (by simp)).2 (ol vb (by simp)).2
    obtain ⟨h', g2, gb2, l2, lb2, a2, b2, c2, d2, w, r1, r2, r3, r4, r5, r6, r7⟩ := gcd_loop 8192 0 hp_n gr gb le lb S T a b c d h4 (by omega) (by omega) (by unfold hp_n; omega) E4 D4 G4 L4 hTS (by omega) (by omega) N
    exact ⟨h2, h4, h', g2, gb2, l2, lb2, a2, b2, c2, d2, w, e1, es_l E2, e2, r1, r2, r3, r4, r5, ((F2.fs (by simp) (by simp)).tr (F4.fs (by simp) (by simp))).tr r6, r7⟩
  unfold fX0_commonDivisor
  rw [if_pos (es_o E), order_eq Xn Yn, Option.bind_some]
  by_cases hlt : X < Y
  · rw [cmpI, if_pos hlt, if_pos (by decide), bX0_commonDivisor_13, es_g E, Option.bind_some, if_pos rfl, bX0_commonDivisor_29]
    obtain ⟨h2, h4, h', g2, gb2, l2, lb2, a2, b2, c2, d2, w, k1, k2, k3, k4, k5, k6, k7, k8⟩ := key y b2 x bx Y X Yn Xn (by omega) hY4 hX4 y1 y2 x1 x2
    rw [k1, Option.bind_some, k2, Option.bind_some, if_pos rfl, bX0_commonDivisor_46, k3, Option.bind_some]
    exact ⟨h', g2, gb2, l2, lb2, a2, b2, c2, d2, w, k4, k5, k6, by rw [Nat.gcd_comm]; exact k7, k8⟩
  · have hc : ¬ cmpI X Y < 0 := by unfold cmpI; rw [if_neg hlt]; split <;> decide
    rw [if_neg hc, bX0_commonDivisor_13, es_g E, Option.bind_some, if_neg (by decide), bX0_commonDivisor_29]
    obtain ⟨h2, h4, h', g2, gb2, l2, lb2, a2, b2, c2, d2, w, k1, k2, k3, k4, k5, k6, k7, k8⟩ := key x bx y b2 X Y Xn Yn (by omega) hX4 hY4 x1 x2 y1 y2
    rw [k1, Option.bind_some, k2, Option.bind_some, if_neg (by decide), bX0_commonDivisor_46, k3, Option.bind_some]
    exact ⟨h', g2, gb2, l2, lb2, a2, b2, c2, d2, w, k4, k5, k6, k7, k8⟩
