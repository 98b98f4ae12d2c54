/-! Long division: the digit that is guessed. V = (lead B + next) P + lo, R = (head B + below) P + rl -/
theorem kn_fail {V R P lead next lo head below rl digit left : Nat} (hV : V = (lead * 1073741824 + next) * P + lo) (hR : R = (head * 1073741824 + below) * P + rl) (hrl : rl < P) (hh : digit * lead + left = head) (hf : left * 1073741824 + below < digit * next) : R < digit * V := by
  subst hV hR hh
  have h1 : (left * 1073741824 + below + 1) * P ≤ digit * next * P := Nat.mul_le_mul_right _ hf
  have h2 : digit * ((lead * 1073741824 + next) * P + lo) = digit * lead * 1073741824 * P + digit * next * P + digit * lo := by grind
  have h3 : ((digit * lead + left) * 1073741824 + below) * P + P = digit * lead * 1073741824 * P + (left * 1073741824 + below + 1) * P := by grind
  omega
theorem kn_pass {V R P lead next lo head below rl digit left : Nat} (hV : V = (lead * 1073741824 + next) * P + lo) (hlo : lo < P) (hR : R = (head * 1073741824 + below) * P + rl) (hh : digit * lead + left = head) (hl : 1 ≤ lead) (hd : digit < 1073741824) (hf : digit * next ≤ left * 1073741824 + below) : digit * V < R + V := by
  subst hV hR hh
  have h1 : digit * next * P ≤ (left * 1073741824 + below) * P := Nat.mul_le_mul_right _ hf
  have h2 : digit * ((lead * 1073741824 + next) * P + lo) = digit * lead * 1073741824 * P + digit * next * P + digit * lo := by grind
  have h3 : ((digit * lead + left) * 1073741824 + below) * P = digit * lead * 1073741824 * P + (left * 1073741824 + below) * P := by grind
  have h4 : digit * lo ≤ 1073741823 * P := Nat.mul_le_mul (by omega) (by omega)
  have h5 : 1 * (1073741824 * P) ≤ lead * (1073741824 * P) := Nat.mul_le_mul_right _ hl
  have h6 : (lead * 1073741824 + next) * P = lead * (1073741824 * P) + next * P := by grind
  omega
theorem kn_head {V R P lead next lo head below rl : Nat} (hV : V = (lead * 1073741824 + next) * P + lo) (hlo : lo < P) (hn : next < 1073741824) (hR : R = (head * 1073741824 + below) * P + rl) (hq : R < 1073741824 * V) : head < (lead + 1) * 1073741824 := by
  rcases Nat.lt_or_ge head ((lead + 1) * 1073741824) with q | q
  · exact q
  · exfalso
    subst hV hR
    have h1 : (lead + 1) * 1073741824 * (1073741824 * P) ≤ head * (1073741824 * P) := Nat.mul_le_mul_right _ q
    have h2 : (next + 1) * P ≤ 1073741824 * P := Nat.mul_le_mul_right _ hn
    have h3 : (head * 1073741824 + below) * P = head * (1073741824 * P) + below * P := by grind
    have h4 : 1073741824 * ((lead * 1073741824 + next) * P + lo) = lead * 1073741824 * (1073741824 * P) + 1073741824 * (next * P) + 1073741824 * lo := by grind
    have h5 : (lead + 1) * 1073741824 * (1073741824 * P) = lead * 1073741824 * (1073741824 * P) + 1073741824 * (1073741824 * P) := by grind
    have h6 : (next + 1) * P = next * P + P := by grind
    omega
theorem guess_loop {V R P lead next lo head below rl : Nat} {h : hp_H} (hV : V = (lead * 1073741824 + next) * P + lo) (hlo : lo < P) (hn : next < 1073741824) (hR : R = (head * 1073741824 + below) * P + rl) (hrl : rl < P) (hb : below < 1073741824) (hq : R < 1073741824 * V) (hl1 : 536870912 ≤ lead) (hl2 : lead < 1073741824) : ∀ (d i n digit left : Nat), 2 - i = d → i ≤ 2 → d < n → digit * lead + left = head → i * lead ≤ left → left < 4294967296 → digit < 4294967296 → R < (digit + 1) * V →
    ∃ q, bX1_guessDigit_122 (lN below) (lN lead) (lN next) h n (lN digit) (lN left) (nI i) = some (nI q) ∧ q < 1073741824 ∧ R < (q + 1) * V ∧ q * V < R + V := by
  have hhd := kn_head hV hlo hn hR hq
  have big : ∀ digit left : Nat, digit * lead + left = head → 1073741824 ≤ left → digit < 1073741824 ∧ digit * next ≤ left * 1073741824 + below := by
    intro digit left hh hl
    have h1 : digit < 1073741824 := by
      rcases Nat.lt_or_ge digit 1073741824 with q | q
      · exact q
      · have : 1073741824 * lead ≤ digit * lead := Nat.mul_le_mul_right _ q
        have : (lead + 1) * 1073741824 = 1073741824 * lead + 1073741824 := by grind
        omega
    refine ⟨h1, ?_⟩
    have : digit * next ≤ 1073741823 * 1073741823 := Nat.mul_le_mul (by omega) (by omega)
    omega
  have done : ∀ digit left : Nat, digit * lead + left = head → digit < 1073741824 → digit * next ≤ left * 1073741824 + below → R < (digit + 1) * V → ∃ q, bX1_guessDigit_185 (lN digit) h = some (nI q) ∧ q < 1073741824 ∧ R < (q + 1) * V ∧ q * V < R + V := by
    intro digit left hh h1 h2 h3
    refine ⟨digit, ?_, h1, h3, kn_pass hV hlo hR hh (by omega) h1 h2⟩
    unfold bX1_guessDigit_185
    rw [lN_i]
  intro d
  induction d with
  | zero =>
    intro i n digit left hd hi hn' hh hil hl4 hd4 hlow
    obtain ⟨m, rfl⟩ : ∃ m, n = m + 1 := ⟨n - 1, by omega⟩
    obtain rfl : i = 2 := by omega
    rw [bX1_guessDigit_122, if_pos (by decide)]
    obtain ⟨b1, b2⟩ := big digit left hh (by omega)
    exact done digit left hh b1 b2 hlow
  | succ d ih =>
    intro i n digit left hd hi hn' hh hil hl4 hd4 hlow
    obtain ⟨m, rfl⟩ : ∃ m, n = m + 1 := ⟨n - 1, by omega⟩
    have hpos : R < digit * V → 1 ≤ digit := fun q => by
      rcases Nat.eq_zero_or_pos digit with z | z
      · subst z; simp at q
      · exact z
    have again : R < digit * V → left < 1073741824 → ∃ q, bX1_guessDigit_166 (bX1_guessDigit_122 (lN below) (lN lead) (lN next) h m) (lN below) (lN lead) (lN next) (lN digit) (lN left) (nI i) h = some (nI q) ∧ q < 1073741824 ∧ R < (q + 1) * V ∧ q * V < R + V := by
      intro q hl
      have hp := hpos q
      unfold bX1_guessDigit_166
      rw [Option.bind_some, Option.bind_some, Option.bind_some, show (1 : Int64) = lN 1 from rfl, lN_sub hp, lN_add, nI_1]
      refine ih (i + 1) m (digit - 1) (left + lead) (by omega) (by omega) (by omega) ?_ ?_ (by omega) (by omega) ?_
      · have : digit * lead = (digit - 1) * lead + lead := by
          obtain ⟨e, rfl⟩ : ∃ e, digit = e + 1 := ⟨digit - 1, by omega⟩
          simp only [Nat.add_sub_cancel]; grind
        omega
      · have : (i + 1) * lead = i * lead + lead := by grind
        omega
      · rw [show digit - 1 + 1 = digit by omega]; exact q
    rw [bX1_guessDigit_122, ni2, if_neg (fun q => by have := (nI_leI (by omega) (by omega)).mp q; omega), show (1073741823 : Int64) = lN 1073741823 from rfl]
    by_cases h1 : 1073741823 < left
    · rw [if_pos ((pk_lLT (by omega) (by omega)).mpr h1)]
      obtain ⟨b1, b2⟩ := big digit left hh (by omega)
      exact done digit left hh b1 b2 hlow
    · rw [if_neg (fun q => h1 ((pk_lLT (by omega) (by omega)).mp q))]
      by_cases h2 : 1073741823 < digit
      · rw [if_pos ((pk_lLT (by omega) (by omega)).mpr h2)]
        refine again ?_ (by omega)
        have : 1073741824 * V ≤ digit * V := Nat.mul_le_mul_right _ (by omega)
        omega
      · have h3 : digit * next ≤ 1073741823 * 1073741823 := Nat.mul_le_mul (by omega) (by omega)
        rw [if_neg (fun q => h2 ((pk_lLT (by omega) (by omega)).mp q)), lN_or30 (by omega) hb, lN_mul]
        by_cases h4 : left * 1073741824 + below < digit * next
        · rw [if_pos ((pk_lLT (by omega) (by omega)).mpr h4)]
          exact again (kn_fail hV hR hrl hh h4) (by omega)
        · rw [if_neg (fun q => h4 ((pk_lLT (by omega) (by omega)).mp q))]
          exact done digit left hh (by omega) (by omega) hlow
