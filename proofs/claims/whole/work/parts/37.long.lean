-- 37: PURE PART: long numbers, lowest terms (out of wip/whole/pure by pure.py)
theorem low_lp (u1 u2 : Int64) (u3 : Int32) : ∀ k a b i n, b < 2 ^ k → a < 9223372036854775808 → b < 9223372036854775808 → i + 2 * k < 199 → 2 * k + 1 < n → fX6_lowest_9 n u1 u2 u3 (lN a) (lN b) (nI i) = some (lN (Nat.gcd b a)) := by
  intro k
  induction k with
  | zero =>
    intro a b i n hb ha hb2 hi hn
    obtain ⟨m, rfl⟩ : ∃ m, n = m + 1 := ⟨n - 1, by omega⟩
    have : b = 0 := by simpa using hb
    subst this
    rw [sX6_lowest_9, fX6_lowest_9b]
    simp (disch := (first | assumption | trivial | omega)) only [lit, neg1, oI_s, addN, mulN, subN, clN, gdN, ltN, leN, eqN, nIo, oIn, oI_eq, divN, remN, giT, giF, lzE, prE, bdE, smL, smR, shlN, shrN, hasE, andN, orN, bit1, bit0, max7, min7, giTr, giFa, gdp, litL, i2l, addL, mulL, divL, remL, cmLe, cmGt, cmGe, cmEq, eqL]
    rw [Nat.gcd_zero_left]
  | succ k ih =>
    intro a b i n hb ha hb2 hi hn
    obtain ⟨m, rfl⟩ : ∃ m, n = m + 1 + 1 := ⟨n - 2, by omega⟩
    by_cases h0 : b = 0
    · subst h0
      rw [sX6_lowest_9, fX6_lowest_9b]
      simp (disch := (first | assumption | trivial | omega)) only [lit, neg1, oI_s, addN, mulN, subN, clN, gdN, ltN, leN, eqN, nIo, oIn, oI_eq, divN, remN, giT, giF, lzE, prE, bdE, smL, smR, shlN, shrN, hasE, andN, orN, bit1, bit0, max7, min7, giTr, giFa, gdp, litL, i2l, addL, mulL, divL, remL, cmLe, cmGt, cmGe, cmEq, eqL]
      rw [Nat.gcd_zero_left]
    · have hr : a % b < b := Nat.mod_lt _ (by omega)
      rw [sX6_lowest_9, fX6_lowest_9b]
      rw [Nat.gcd_rec]
      simp (disch := (first | assumption | trivial | omega)) only [lit, neg1, oI_s, addN, mulN, subN, clN, gdN, ltN, leN, eqN, nIo, oIn, oI_eq, divN, remN, giT, giF, lzE, prE, bdE, smL, smR, shlN, shrN, hasE, andN, orN, bit1, bit0, max7, min7, giTr, giFa, gdp, litL, i2l, addL, mulL, divL, remL, cmLe, cmGt, cmGe, cmEq, eqL]
      by_cases h1 : a % b = 0
      · rw [h1, sX6_lowest_9, fX6_lowest_9b]
        simp (disch := (first | assumption | trivial | omega)) only [lit, neg1, oI_s, addN, mulN, subN, clN, gdN, ltN, leN, eqN, nIo, oIn, oI_eq, divN, remN, giT, giF, lzE, prE, bdE, smL, smR, shlN, shrN, hasE, andN, orN, bit1, bit0, max7, min7, giTr, giFa, gdp, litL, i2l, addL, mulL, divL, remL, cmLe, cmGt, cmGe, cmEq, eqL]
        rw [Nat.gcd_zero_left]
      · have h2 : b % (a % b) < a % b := Nat.mod_lt _ (by omega)
        have h3 : b % (a % b) ≤ b - a % b := by
          rw [Nat.mod_eq_sub_mod (by omega)]
          exact Nat.mod_le _ _
        have h4 : b < 2 * 2 ^ k := by rw [Nat.pow_succ] at hb; omega
        rw [sX6_lowest_9, fX6_lowest_9b, Nat.gcd_rec]
        simp (disch := (first | assumption | trivial | omega)) only [lit, neg1, oI_s, addN, mulN, subN, clN, gdN, ltN, leN, eqN, nIo, oIn, oI_eq, divN, remN, giT, giF, lzE, prE, bdE, smL, smR, shlN, shrN, hasE, andN, orN, bit1, bit0, max7, min7, giTr, giFa, gdp, litL, i2l, addL, mulL, divL, remL, cmLe, cmGt, cmGe, cmEq, eqL]
        exact ih _ _ _ _ (by omega) (by omega) (by omega) (by omega) (by omega)
theorem div_lp : ∀ k a b n, b < 2 ^ k → a < 9223372036854775808 → b < 9223372036854775808 → 2 * k + 1 < n → fX7_divisor_6 n (lN a) (lN b) = some (lN (Nat.gcd b a)) := by
  intro k
  induction k with
  | zero =>
    intro a b n hb ha hb2 hn
    obtain ⟨m, rfl⟩ : ∃ m, n = m + 1 := ⟨n - 1, by omega⟩
    have : b = 0 := by simpa using hb
    subst this
    rw [sX7_divisor_6, fX7_divisor_6b]
    simp (disch := (first | assumption | trivial | omega)) only [lit, neg1, oI_s, addN, mulN, subN, clN, gdN, ltN, leN, eqN, nIo, oIn, oI_eq, divN, remN, giT, giF, lzE, prE, bdE, smL, smR, shlN, shrN, hasE, andN, orN, bit1, bit0, max7, min7, giTr, giFa, gdp, litL, i2l, addL, mulL, divL, remL, cmLe, cmGt, cmGe, cmEq, eqL]
    rw [Nat.gcd_zero_left]
  | succ k ih =>
    intro a b n hb ha hb2 hn
    obtain ⟨m, rfl⟩ : ∃ m, n = m + 1 + 1 := ⟨n - 2, by omega⟩
    by_cases h0 : b = 0
    · subst h0
      rw [sX7_divisor_6, fX7_divisor_6b]
      simp (disch := (first | assumption | trivial | omega)) only [lit, neg1, oI_s, addN, mulN, subN, clN, gdN, ltN, leN, eqN, nIo, oIn, oI_eq, divN, remN, giT, giF, lzE, prE, bdE, smL, smR, shlN, shrN, hasE, andN, orN, bit1, bit0, max7, min7, giTr, giFa, gdp, litL, i2l, addL, mulL, divL, remL, cmLe, cmGt, cmGe, cmEq, eqL]
      rw [Nat.gcd_zero_left]
    · have hr : a % b < b := Nat.mod_lt _ (by omega)
      rw [sX7_divisor_6, fX7_divisor_6b]
      rw [Nat.gcd_rec]
      simp (disch := (first | assumption | trivial | omega)) only [lit, neg1, oI_s, addN, mulN, subN, clN, gdN, ltN, leN, eqN, nIo, oIn, oI_eq, divN, remN, giT, giF, lzE, prE, bdE, smL, smR, shlN, shrN, hasE, andN, orN, bit1, bit0, max7, min7, giTr, giFa, gdp, litL, i2l, addL, mulL, divL, remL, cmLe, cmGt, cmGe, cmEq, eqL]
      by_cases h1 : a % b = 0
      · rw [h1, sX7_divisor_6, fX7_divisor_6b]
        simp (disch := (first | assumption | trivial | omega)) only [lit, neg1, oI_s, addN, mulN, subN, clN, gdN, ltN, leN, eqN, nIo, oIn, oI_eq, divN, remN, giT, giF, lzE, prE, bdE, smL, smR, shlN, shrN, hasE, andN, orN, bit1, bit0, max7, min7, giTr, giFa, gdp, litL, i2l, addL, mulL, divL, remL, cmLe, cmGt, cmGe, cmEq, eqL]
        rw [Nat.gcd_zero_left]
      · have h2 : b % (a % b) < a % b := Nat.mod_lt _ (by omega)
        have h3 : b % (a % b) ≤ b - a % b := by
          rw [Nat.mod_eq_sub_mod (by omega)]
          exact Nat.mod_le _ _
        have h4 : b < 2 * 2 ^ k := by rw [Nat.pow_succ] at hb; omega
        rw [sX7_divisor_6, fX7_divisor_6b, Nat.gcd_rec]
        simp (disch := (first | assumption | trivial | omega)) only [lit, neg1, oI_s, addN, mulN, subN, clN, gdN, ltN, leN, eqN, nIo, oIn, oI_eq, divN, remN, giT, giF, lzE, prE, bdE, smL, smR, shlN, shrN, hasE, andN, orN, bit1, bit0, max7, min7, giTr, giFa, gdp, litL, i2l, addL, mulL, divL, remL, cmLe, cmGt, cmGe, cmEq, eqL]
        exact ih _ _ _ (by omega) (by omega) (by omega) (by omega)
/-- up and down in lowest terms, one of them -/
theorem low67 {up down : Nat} (x : Int32) (hu : up < 2 ^ 62) (hd : down < 2 ^ 62) (h0 : 0 < down) : ∃ r, fX6_lowest (lN up) (lN down) x = some r ∧ fX7_partOfAll (lN up) (lN down) x = some r := by
  have hg : 0 < Nat.gcd up down := Nat.gcd_pos_of_pos_right _ h0
  have hg2 : Nat.gcd up down ≤ down := Nat.gcd_le_right _ h0
  have e6 := low_lp (lN up) (lN down) x 62 down up 0 FU hu (by omega) (by omega) (by decide) (by decide)
  have e7 := div_lp 62 up down FU hd (by omega) (by omega) (by decide)
  rw [Nat.gcd_comm] at e7
  by_cases hx : x = 0
  · refine ⟨lN (up / Nat.gcd up down), ?_, ?_⟩
    · unfold fX6_lowest
      rw [show (0 : Int32) = nI 0 from rfl, e6, bdE, ← show x = nI 0 from hx]
      subst hx
      simp (disch := (first | assumption | trivial | omega)) only [lit, neg1, oI_s, addN, mulN, subN, clN, gdN, ltN, leN, eqN, nIo, oIn, oI_eq, divN, remN, giT, giF, lzE, prE, bdE, smL, smR, shlN, shrN, hasE, andN, orN, bit1, bit0, max7, min7, giTr, giFa, gdp, litL, i2l, addL, mulL, divL, remL, cmLe, cmGt, cmGe, cmEq, eqL]
    · unfold fX7_partOfAll fX7_divisor
      subst hx
      simp (disch := (first | assumption | trivial | omega)) only [e7, lit, neg1, oI_s, addN, mulN, subN, clN, gdN, ltN, leN, eqN, nIo, oIn, oI_eq, divN, remN, giT, giF, lzE, prE, bdE, smL, smR, shlN, shrN, hasE, andN, orN, bit1, bit0, max7, min7, giTr, giFa, gdp, litL, i2l, addL, mulL, divL, remL, cmLe, cmGt, cmGe, cmEq, eqL]
  · have hx' : ¬ x = nI 0 := hx
    refine ⟨lN (down / Nat.gcd up down), ?_, ?_⟩
    · unfold fX6_lowest
      rw [show (0 : Int32) = nI 0 from rfl, e6, bdE]
      simp (disch := (first | assumption | trivial | omega)) only [lit, neg1, oI_s, addN, mulN, subN, clN, gdN, ltN, leN, eqN, nIo, oIn, oI_eq, divN, remN, giT, giF, lzE, prE, bdE, smL, smR, shlN, shrN, hasE, andN, orN, bit1, bit0, max7, min7, giTr, giFa, gdp, litL, i2l, addL, mulL, divL, remL, cmLe, cmGt, cmGe, cmEq, eqL]
    · unfold fX7_partOfAll fX7_divisor
      simp (disch := (first | assumption | trivial | omega)) only [e7, lit, neg1, oI_s, addN, mulN, subN, clN, gdN, ltN, leN, eqN, nIo, oIn, oI_eq, divN, remN, giT, giF, lzE, prE, bdE, smL, smR, shlN, shrN, hasE, andN, orN, bit1, bit0, max7, min7, giTr, giFa, gdp, litL, i2l, addL, mulL, divL, remL, cmLe, cmGt, cmGe, cmEq, eqL]
