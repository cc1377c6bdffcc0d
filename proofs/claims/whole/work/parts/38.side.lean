-- 38: PURE PART: both sides' small methods (out of wip/whole/pure by pure.py)
theorem isIn_p {x : Int32} {n : Nat} {hi : Int32} (hhi : hi = nI n) (hn : n < 2147483648) (h : inR x (n + 1)) : fX7_isIn x 0 hi = nI 1 := isIn_pos hn rfl hhi h
theorem isIn_1 {x : Int32} : fX7_isIn x 0 (-1) = nI 0 := by
  unfold fX7_isIn
  by_cases h1 : x < 0
  · exact gi_pos h1
  · rw [gi_neg h1]
    apply gi_pos
    rw [lt_toInt] at h1 ⊢
    have e0 : (0 : Int32).toInt = 0 := by decide
    have e1 : (-1 : Int32).toInt = -1 := by decide
    omega
theorem rng7 {x : Int32} {n : Nat} (hn : n < 2147483647) : (inR x n ∧ fX7_isIn x 0 (nI n - 1) = nI 1) ∨ (¬ inR x n ∧ fX7_isIn x 0 (nI n - 1) = nI 0) := by
  cases n with
  | zero =>
    right
    refine ⟨fun ⟨k, hk, _⟩ => absurd hk (by omega), ?_⟩
    rw [show nI 0 - 1 = (-1 : Int32) by decide]
    exact isIn_1
  | succ n =>
    have e : nI (n + 1) - 1 = nI n := by
      rw [show (1 : Int32) = nI 1 from rfl, subN (by omega)]
      rfl
    rw [e]
    by_cases h : inR x (n + 1)
    · exact Or.inl ⟨h, isIn_pos (by omega) rfl rfl h⟩
    · exact Or.inr ⟨h, isIn_neg (by omega) rfl rfl h⟩
theorem not_in {x : Int32} {n : Nat} (hn : n < 2147483648) (h : ¬ inR x n) (h0 : ¬ x < 0) : nI n ≤ x := by
  rw [le_toInt, nI_toInt hn]
  apply Classical.byContradiction
  intro hc
  rw [lt_toInt] at h0
  have e0 : (0 : Int32).toInt = 0 := by decide
  exact h ((inR_toInt (by omega)).mpr ⟨by omega, by omega⟩)
section SD
variable {S : Nat → Nat → Nat} {IC IM : gI} {JM : gJ} {s b k : Nat} {x : Int32}
theorem isB7p (h : sv S IC IM) (hb : inR x (S 0 0)) : fX7_isBuyer x IM = nI 1 := by
  unfold fX7_isBuyer
  rw [v_nb7 h]
  have := b_nb h
  rcases rng7 (x := x) (n := S 0 0) (by omega) with q | q
  · exact q.2
  · exact absurd hb q.1
theorem isB7n (h : sv S IC IM) (hb : ¬ inR x (S 0 0)) : fX7_isBuyer x IM = nI 0 := by
  unfold fX7_isBuyer
  rw [v_nb7 h]
  have := b_nb h
  rcases rng7 (x := x) (n := S 0 0) (by omega) with q | q
  · exact absurd q.1 hb
  · exact q.2
theorem isB6p (h : sv S IC IM) (hb : inR x (S 0 0)) : fX6_isBuyer x IC = nI 1 := by
  obtain ⟨b, hb, rfl⟩ := hb
  have := b_nb h
  unfold fX6_isBuyer
  simp (disch := (first | assumption | trivial | omega)) only [v_nb6 h, lit, neg1, oI_s, addN, mulN, subN, clN, gdN, ltN, leN, eqN, nIo, oIn, oI_eq, divN, remN, giT, giF, lzE, prE, bdE, smL, smR, shlN, shrN, hasE, andN, orN, bit1, bit0, max7, min7, giTr, giFa, gdp, litL, i2l, addL, mulL, divL, remL, cmLe, cmGt, cmGe, cmEq, eqL]
theorem isB6n (h : sv S IC IM) (hb : ¬ inR x (S 0 0)) : fX6_isBuyer x IC = nI 0 := by
  have := b_nb h
  unfold fX6_isBuyer
  rw [v_nb6 h]
  by_cases c : x < 0
  · exact gi_pos c
  · rw [gi_neg c]
    exact gi_pos (not_in (by omega) hb c)
theorem isT6p (h : sv S IC IM) (hb : inR x (S 0 1)) : fX6_isText x IC = nI 1 := by
  obtain ⟨b, hb, rfl⟩ := hb
  have := b_nb h
  unfold fX6_isText
  simp (disch := (first | assumption | trivial | omega)) only [v_nt6 h, lit, neg1, oI_s, addN, mulN, subN, clN, gdN, ltN, leN, eqN, nIo, oIn, oI_eq, divN, remN, giT, giF, lzE, prE, bdE, smL, smR, shlN, shrN, hasE, andN, orN, bit1, bit0, max7, min7, giTr, giFa, gdp, litL, i2l, addL, mulL, divL, remL, cmLe, cmGt, cmGe, cmEq, eqL]
theorem isT6n (h : sv S IC IM) (hb : ¬ inR x (S 0 1)) : fX6_isText x IC = nI 0 := by
  have := b_nb h
  unfold fX6_isText
  rw [v_nt6 h]
  by_cases c : x < 0
  · exact gi_pos c
  · rw [gi_neg c]
    exact gi_pos (not_in (by omega) hb c)
theorem dw7p (h : sv S IC IM) (hb : b < 6) (hs : s < 32) (ht : (S 3 b).testBit s = true) : fX7_doesWant (nI b) (nI s) IM = some (nI 1) := by
  have := b_bu h hb
  unfold fX7_doesWant fX7_has
  simp (disch := (first | assumption | trivial | omega)) only [v_wa7 h, lit, neg1, oI_s, addN, mulN, subN, clN, gdN, ltN, leN, eqN, nIo, oIn, oI_eq, divN, remN, giT, giF, lzE, prE, bdE, smL, smR, shlN, shrN, hasE, andN, orN, bit1, bit0, max7, min7, giTr, giFa, gdp, litL, i2l, addL, mulL, divL, remL, cmLe, cmGt, cmGe, cmEq, eqL]
theorem dw7n (h : sv S IC IM) (hb : b < 6) (hs : s < 32) (ht : ¬ (S 3 b).testBit s = true) : fX7_doesWant (nI b) (nI s) IM = some (nI 0) := by
  have := b_bu h hb
  unfold fX7_doesWant fX7_has
  simp (disch := (first | assumption | trivial | omega)) only [v_wa7 h, lit, neg1, oI_s, addN, mulN, subN, clN, gdN, ltN, leN, eqN, nIo, oIn, oI_eq, divN, remN, giT, giF, lzE, prE, bdE, smL, smR, shlN, shrN, hasE, andN, orN, bit1, bit0, max7, min7, giTr, giFa, gdp, litL, i2l, addL, mulL, divL, remL, cmLe, cmGt, cmGe, cmEq, eqL]
theorem ws6p (h : sv S IC IM) (hb : b < 6) (hs : s < 32) (ht : (S 3 b).testBit s = true) : fX6_wantsSort (nI b) (nI s) IC = some (nI 1) := by
  have := b_bu h hb
  unfold fX6_wantsSort
  simp (disch := (first | assumption | trivial | omega)) only [v_wa6 h, lit, neg1, oI_s, addN, mulN, subN, clN, gdN, ltN, leN, eqN, nIo, oIn, oI_eq, divN, remN, giT, giF, lzE, prE, bdE, smL, smR, shlN, shrN, hasE, andN, orN, bit1, bit0, max7, min7, giTr, giFa, gdp, litL, i2l, addL, mulL, divL, remL, cmLe, cmGt, cmGe, cmEq, eqL]
theorem ws6n (h : sv S IC IM) (hb : b < 6) (hs : s < 32) (ht : ¬ (S 3 b).testBit s = true) : fX6_wantsSort (nI b) (nI s) IC = some (nI 0) := by
  have := b_bu h hb
  unfold fX6_wantsSort
  simp (disch := (first | assumption | trivial | omega)) only [v_wa6 h, lit, neg1, oI_s, addN, mulN, subN, clN, gdN, ltN, leN, eqN, nIo, oIn, oI_eq, divN, remN, giT, giF, lzE, prE, bdE, smL, smR, shlN, shrN, hasE, andN, orN, bit1, bit0, max7, min7, giTr, giFa, gdp, litL, i2l, addL, mulL, divL, remL, cmLe, cmGt, cmGe, cmEq, eqL]
theorem lo7 (h : sv S IC IM) (hb : b < 6) : fX7_longOf (nI b) IM = some (nI (S 5 b - S 4 b + 1)) := by
  have := b_bu h hb
  unfold fX7_longOf
  simp (disch := (first | assumption | trivial | omega)) only [v_fr7 h, v_to7 h, lit, neg1, oI_s, addN, mulN, subN, clN, gdN, ltN, leN, eqN, nIo, oIn, oI_eq, divN, remN, giT, giF, lzE, prE, bdE, smL, smR, shlN, shrN, hasE, andN, orN, bit1, bit0, max7, min7, giTr, giFa, gdp, litL, i2l, addL, mulL, divL, remL, cmLe, cmGt, cmGe, cmEq, eqL]
theorem lo6 (h : sv S IC IM) (hb : b < 6) : fX0_longOf (nI b) IC = some (nI (S 5 b - S 4 b + 1)) := by
  have := b_bu h hb
  unfold fX0_longOf
  simp (disch := (first | assumption | trivial | omega)) only [v_fr6 h, v_to6 h, lit, neg1, oI_s, addN, mulN, subN, clN, gdN, ltN, leN, eqN, nIo, oIn, oI_eq, divN, remN, giT, giF, lzE, prE, bdE, smL, smR, shlN, shrN, hasE, andN, orN, bit1, bit0, max7, min7, giTr, giFa, gdp, litL, i2l, addL, mulL, divL, remL, cmLe, cmGt, cmGe, cmEq, eqL]
/-- the slices that one wants, as bits -/
def sq (S : Nat → Nat → Nat) (b : Nat) : Nat := 2 ^ (S 5 b + 1) - 2 ^ S 4 b
theorem p2le : ∀ k, k < 13 → 2 ^ k ≤ 4096 := by decide
theorem sq_lt (h : sv S IC IM) (hb : b < 6) : sq S b < 4096 := by
  have := b_bu h hb
  have := p2le (S 5 b + 1) (by omega)
  have := Nat.two_pow_pos (S 4 b)
  unfold sq
  omega
theorem sq_all : ∀ t, t < 12 → ∀ f, f < t + 1 → ∀ i, i < 12 → ((2 ^ (t + 1) - 2 ^ f).testBit i = true ↔ f ≤ i ∧ i ≤ t) := by decide +kernel
theorem sq_bit (h : sv S IC IM) (hb : b < 6) {i : Nat} (hi : i < 12) : (sq S b).testBit i = true ↔ S 4 b ≤ i ∧ i ≤ S 5 b := by
  have := b_bu h hb
  exact sq_all _ (by omega) _ (by omega) i hi
theorem sl7 (h : sv S IC IM) (hb : b < 6) : fX7_slicesOf (nI b) IM = some (nI (sq S b)) := by
  have := b_bu h hb
  have h1 := p2le (S 5 b - S 4 b + 1) (by omega)
  have h2 := Nat.two_pow_pos (S 5 b - S 4 b + 1)
  have h3 := p2le (S 4 b) (by omega)
  have h4 := Nat.two_pow_pos (S 4 b)
  have e : (2 ^ (S 5 b - S 4 b + 1) - 1) * 2 ^ S 4 b = sq S b := by
    rw [Nat.sub_mul, ← Nat.pow_add, Nat.one_mul]
    unfold sq
    rw [show S 5 b - S 4 b + 1 + S 4 b = S 5 b + 1 by omega]
  have h5 : (2 ^ (S 5 b - S 4 b + 1) - 1) * 2 ^ S 4 b < 4294967296 := by
    rw [e]; have := sq_lt h hb; omega
  unfold fX7_slicesOf
  rw [lo7 h hb]
  simp (disch := (first | assumption | trivial | omega)) only [v_fr7 h, Nat.one_mul, lit, neg1, oI_s, addN, mulN, subN, clN, gdN, ltN, leN, eqN, nIo, oIn, oI_eq, divN, remN, giT, giF, lzE, prE, bdE, smL, smR, shlN, shrN, hasE, andN, orN, bit1, bit0, max7, min7, giTr, giFa, gdp, litL, i2l, addL, mulL, divL, remL, cmLe, cmGt, cmGe, cmEq, eqL]
  rw [e]
theorem sl6 (h : sv S IC IM) (hb : b < 6) : fX0_slicesOf (nI b) IC = some (nI (sq S b)) := by
  have := b_bu h hb
  have h1 := p2le (S 5 b) (by omega)
  have h3 := p2le (S 4 b) (by omega)
  have h5 : 2 * 2 ^ S 5 b = 2 ^ (S 5 b + 1) := by rw [Nat.pow_succ]; omega
  have h6 : 2 ^ S 4 b ≤ 2 ^ (S 5 b + 1) := Nat.pow_le_pow_right (by decide) (by omega)
  unfold fX0_slicesOf
  simp (disch := (first | assumption | trivial | omega)) only [v_fr6 h, v_to6 h, Nat.one_mul, h5, lit, neg1, oI_s, addN, mulN, subN, clN, gdN, ltN, leN, eqN, nIo, oIn, oI_eq, divN, remN, giT, giF, lzE, prE, bdE, smL, smR, shlN, shrN, hasE, andN, orN, bit1, bit0, max7, min7, giTr, giFa, gdp, litL, i2l, addL, mulL, divL, remL, cmLe, cmGt, cmGe, cmEq, eqL]
  rfl
theorem within_p {a lo hi : Nat} (ha : a < 2147483648) (hl : lo < 2147483648) (hh : hi < 2147483648) (h1 : lo ≤ a) (h2 : a ≤ hi) : fX6_within (nI a) (nI lo) (nI hi) = nI 1 := by
  unfold fX6_within
  simp (disch := (first | assumption | trivial | omega)) only [lit, neg1, oI_s, addN, mulN, subN, clN, gdN, ltN, leN, eqN, nIo, oIn, oI_eq, divN, remN, giT, giF, lzE, prE, bdE, smL, smR, shlN, shrN, hasE, andN, orN, bit1, bit0, max7, min7, giTr, giFa, gdp, litL, i2l, addL, mulL, divL, remL, cmLe, cmGt, cmGe, cmEq, eqL]
theorem within_n {a lo hi : Nat} (ha : a < 2147483648) (hl : lo < 2147483648) (hh : hi < 2147483648) (h1 : ¬ (lo ≤ a ∧ a ≤ hi)) : fX6_within (nI a) (nI lo) (nI hi) = nI 0 := by
  unfold fX6_within
  by_cases c : a < lo
  · simp (disch := (first | assumption | trivial | omega)) only [lit, neg1, oI_s, addN, mulN, subN, clN, gdN, ltN, leN, eqN, nIo, oIn, oI_eq, divN, remN, giT, giF, lzE, prE, bdE, smL, smR, shlN, shrN, hasE, andN, orN, bit1, bit0, max7, min7, giTr, giFa, gdp, litL, i2l, addL, mulL, divL, remL, cmLe, cmGt, cmGe, cmEq, eqL]
  · have : hi < a := by omega
    simp (disch := (first | assumption | trivial | omega)) only [lit, neg1, oI_s, addN, mulN, subN, clN, gdN, ltN, leN, eqN, nIo, oIn, oI_eq, divN, remN, giT, giF, lzE, prE, bdE, smL, smR, shlN, shrN, hasE, andN, orN, bit1, bit0, max7, min7, giTr, giFa, gdp, litL, i2l, addL, mulL, divL, remL, cmLe, cmGt, cmGe, cmEq, eqL]
theorem wsl6p (h : sv S IC IM) (hb : b < 6) (hs : s < 12) (h1 : (sq S b).testBit s = true) : fX6_wantsSlice (nI b) (nI s) IC = some (nI 1) := by
  have := b_bu h hb
  rw [sq_bit h hb hs] at h1
  unfold fX6_wantsSlice
  simp (disch := (first | assumption | trivial | omega)) only [v_fr6 h, v_to6 h, lit, neg1, oI_s, addN, mulN, subN, clN, gdN, ltN, leN, eqN, nIo, oIn, oI_eq, divN, remN, giT, giF, lzE, prE, bdE, smL, smR, shlN, shrN, hasE, andN, orN, bit1, bit0, max7, min7, giTr, giFa, gdp, litL, i2l, addL, mulL, divL, remL, cmLe, cmGt, cmGe, cmEq, eqL]
  rw [within_p (by omega) (by omega) (by omega) h1.1 h1.2]
theorem wsl6n (h : sv S IC IM) (hb : b < 6) (hs : s < 12) (h1 : ¬ (sq S b).testBit s = true) : fX6_wantsSlice (nI b) (nI s) IC = some (nI 0) := by
  have := b_bu h hb
  rw [sq_bit h hb hs] at h1
  unfold fX6_wantsSlice
  simp (disch := (first | assumption | trivial | omega)) only [v_fr6 h, v_to6 h, lit, neg1, oI_s, addN, mulN, subN, clN, gdN, ltN, leN, eqN, nIo, oIn, oI_eq, divN, remN, giT, giF, lzE, prE, bdE, smL, smR, shlN, shrN, hasE, andN, orN, bit1, bit0, max7, min7, giTr, giFa, gdp, litL, i2l, addL, mulL, divL, remL, cmLe, cmGt, cmGe, cmEq, eqL]
  rw [within_n (by omega) (by omega) (by omega) h1]
theorem p2s {k : Nat} (hk : k < 12) : 1 * 2 ^ k < 4294967296 := by
  have := p2le k (by omega); omega
theorem bst_lt12 {p : Nat → Prop} : ∀ j k a, k + j ≤ 12 → a < 4096 → itr (bst p) k j a < 4096 := by
  intro j
  induction j with
  | zero => intro k a _ h; exact h
  | succ j ih => intro k a hk h; exact ih (k + 1) _ (by omega) (bst_lt (n := 12) h (by omega))
theorem fn7 (h : sv S IC IM) : fX7_freeNow IM = some (nI (S 10 5)) := by
  have hw := b_w h
  have R := lp_run (fun n k (a : Nat) => fX7_freeNow_4 n (nI a) (nI k) IM) 12 (bst (fun s => S 11 s = 0)) nI (fun _ a => True) 0 (by decide) trivial
    (fun n a _ => by
      show fX7_freeNow_4 (n + 1) (nI a) (nI 12) IM = _
      rw [sX7_freeNow_4, fX7_freeNow_4b]
      simp (disch := (first | assumption | trivial | omega)) only [lit, neg1, oI_s, addN, mulN, subN, clN, gdN, ltN, leN, eqN, nIo, oIn, oI_eq, divN, remN, giT, giF, lzE, prE, bdE, smL, smR, shlN, shrN, hasE, andN, orN, bit1, bit0, max7, min7, giTr, giFa, gdp, litL, i2l, addL, mulL, divL, remL, cmLe, cmGt, cmGe, cmEq, eqL])
    (fun n k a hk _ => by
      refine ⟨?_, trivial⟩
      show fX7_freeNow_4 (n + 1) (nI a) (nI k) IM = fX7_freeNow_4 n (nI _) (nI (k + 1)) IM
      have hp := p2s hk
      have hb := b_sl h hk
      have hb2 := b_nb h
      rw [sX7_freeNow_4, fX7_freeNow_4b]
      by_cases c : S 11 k = 0
      · rw [bst_p (p := fun s => S 11 s = 0) c]
        simp (disch := (first | assumption | trivial | omega)) only [v_sl7 h, Nat.one_mul, lit, neg1, oI_s, addN, mulN, subN, clN, gdN, ltN, leN, eqN, nIo, oIn, oI_eq, divN, remN, giT, giF, lzE, prE, bdE, smL, smR, shlN, shrN, hasE, andN, orN, bit1, bit0, max7, min7, giTr, giFa, gdp, litL, i2l, addL, mulL, divL, remL, cmLe, cmGt, cmGe, cmEq, eqL]
      · rw [bst_n (p := fun s => S 11 s = 0) c]
        simp (disch := (first | assumption | trivial | omega)) only [v_sl7 h, Nat.or_zero, lit, neg1, oI_s, addN, mulN, subN, clN, gdN, ltN, leN, eqN, nIo, oIn, oI_eq, divN, remN, giT, giF, lzE, prE, bdE, smL, smR, shlN, shrN, hasE, andN, orN, bit1, bit0, max7, min7, giTr, giFa, gdp, litL, i2l, addL, mulL, divL, remL, cmLe, cmGt, cmGe, cmEq, eqL])
  unfold fX7_freeNow
  rw [show (0 : Int32) = nI 0 from rfl, R.1, bdE]
  congr 2
  refine bits_eq (n := 12) (bst_lt12 12 0 0 (by decide) (by decide)) (by omega) (fun i hi => ?_)
  rw [bst_bits, (b_sl h hi).2]
  simp [hi]
theorem on7 (h : sv S IC IM) (hb : b < 6) : fX7_ownNow (nI b) IM = some (nI (S 12 b)) := by
  have hw := b_ow h hb
  have R := lp_run (fun n k (a : Nat) => fX7_ownNow_4 n (nI b) (nI a) (nI k) IM) 12 (bst (fun s => S 11 s = b + 1)) nI (fun _ a => True) 0 (by decide) trivial
    (fun n a _ => by
      show fX7_ownNow_4 (n + 1) (nI b) (nI a) (nI 12) IM = _
      rw [sX7_ownNow_4, fX7_ownNow_4b]
      simp (disch := (first | assumption | trivial | omega)) only [lit, neg1, oI_s, addN, mulN, subN, clN, gdN, ltN, leN, eqN, nIo, oIn, oI_eq, divN, remN, giT, giF, lzE, prE, bdE, smL, smR, shlN, shrN, hasE, andN, orN, bit1, bit0, max7, min7, giTr, giFa, gdp, litL, i2l, addL, mulL, divL, remL, cmLe, cmGt, cmGe, cmEq, eqL])
    (fun n k a hk _ => by
      refine ⟨?_, trivial⟩
      show fX7_ownNow_4 (n + 1) (nI b) (nI a) (nI k) IM = fX7_ownNow_4 n (nI b) (nI _) (nI (k + 1)) IM
      have hp := p2s hk
      have hb := b_sl h hk
      have hb2 := b_nb h
      rw [sX7_ownNow_4, fX7_ownNow_4b]
      by_cases c : S 11 k = b + 1
      · rw [bst_p (p := fun s => S 11 s = b + 1) c]
        simp (disch := (first | assumption | trivial | omega)) only [v_sl7 h, Nat.one_mul, lit, neg1, oI_s, addN, mulN, subN, clN, gdN, ltN, leN, eqN, nIo, oIn, oI_eq, divN, remN, giT, giF, lzE, prE, bdE, smL, smR, shlN, shrN, hasE, andN, orN, bit1, bit0, max7, min7, giTr, giFa, gdp, litL, i2l, addL, mulL, divL, remL, cmLe, cmGt, cmGe, cmEq, eqL]
      · rw [bst_n (p := fun s => S 11 s = b + 1) c]
        simp (disch := (first | assumption | trivial | omega)) only [v_sl7 h, Nat.or_zero, lit, neg1, oI_s, addN, mulN, subN, clN, gdN, ltN, leN, eqN, nIo, oIn, oI_eq, divN, remN, giT, giF, lzE, prE, bdE, smL, smR, shlN, shrN, hasE, andN, orN, bit1, bit0, max7, min7, giTr, giFa, gdp, litL, i2l, addL, mulL, divL, remL, cmLe, cmGt, cmGe, cmEq, eqL])
  unfold fX7_ownNow
  rw [show (0 : Int32) = nI 0 from rfl, R.1, bdE]
  congr 2
  refine bits_eq (n := 12) (bst_lt12 12 0 0 (by decide) (by decide)) (by omega) (fun i hi => ?_)
  rw [bst_bits, hw.2 i hi]
  simp [hi]
theorem hn7 (h : sv S IC IM) (hb : b < 6) : fX7_hasNow (nI b) IM = some (nI (pc (S 12 b))) := by
  have hw := b_ow h hb
  unfold fX7_hasNow
  rw [on7 h hb, bdE, bits7 (by omega), bdE]
/-- all odds together -/
def oa (S : Nat → Nat → Nat) : Nat := S 1 0 + S 1 1 + S 1 2 + S 1 3 + S 1 4
theorem oa_lt (h : sv S IC IM) : oa S < 46 := by
  have h0 := b_od h (s := 0) (by decide)
  have h1 := b_od h (s := 1) (by decide)
  have h2 := b_od h (s := 2) (by decide)
  have h3 := b_od h (s := 3) (by decide)
  have h4 := b_od h (s := 4) (by decide)
  unfold oa
  omega
theorem oa7 (h : sv S IC IM) : fX7_allOdds IM = some (nI (oa S)) := by
  have R := lp_run (fun n k (a : Nat) => fX7_allOdds_4 n (nI a) (nI k) IM) 5 (fun k a => a + S 1 k) nI (fun _ a => True) 0 (by decide) trivial
    (fun n a _ => by
      show fX7_allOdds_4 (n + 1) (nI a) (nI 5) IM = _
      rw [sX7_allOdds_4, fX7_allOdds_4b]
      simp (disch := (first | assumption | trivial | omega)) only [lit, neg1, oI_s, addN, mulN, subN, clN, gdN, ltN, leN, eqN, nIo, oIn, oI_eq, divN, remN, giT, giF, lzE, prE, bdE, smL, smR, shlN, shrN, hasE, andN, orN, bit1, bit0, max7, min7, giTr, giFa, gdp, litL, i2l, addL, mulL, divL, remL, cmLe, cmGt, cmGe, cmEq, eqL])
    (fun n k a hk _ => by
      refine ⟨?_, trivial⟩
      show fX7_allOdds_4 (n + 1) (nI a) (nI k) IM = fX7_allOdds_4 n (nI _) (nI (k + 1)) IM
      rw [sX7_allOdds_4, fX7_allOdds_4b]
      simp (disch := (first | assumption | trivial | omega)) only [v_od7 h, lit, neg1, oI_s, addN, mulN, subN, clN, gdN, ltN, leN, eqN, nIo, oIn, oI_eq, divN, remN, giT, giF, lzE, prE, bdE, smL, smR, shlN, shrN, hasE, andN, orN, bit1, bit0, max7, min7, giTr, giFa, gdp, litL, i2l, addL, mulL, divL, remL, cmLe, cmGt, cmGe, cmEq, eqL])
  unfold fX7_allOdds
  rw [show (0 : Int32) = nI 0 from rfl, R.1, bdE]
  simp [itr, oa]
theorem oa6 (h : sv S IC IM) : fX6_oddsTogether IC = some (nI (oa S)) := by
  have R := lp_run (fun n k (a : Nat) => fX6_oddsTogether_4 n (nI a) (nI k) IC) 5 (fun k a => a + S 1 k) nI (fun _ a => True) 0 (by decide) trivial
    (fun n a _ => by
      show fX6_oddsTogether_4 (n + 1) (nI a) (nI 5) IC = _
      rw [sX6_oddsTogether_4, fX6_oddsTogether_4b]
      simp (disch := (first | assumption | trivial | omega)) only [lit, neg1, oI_s, addN, mulN, subN, clN, gdN, ltN, leN, eqN, nIo, oIn, oI_eq, divN, remN, giT, giF, lzE, prE, bdE, smL, smR, shlN, shrN, hasE, andN, orN, bit1, bit0, max7, min7, giTr, giFa, gdp, litL, i2l, addL, mulL, divL, remL, cmLe, cmGt, cmGe, cmEq, eqL])
    (fun n k a hk _ => by
      refine ⟨?_, trivial⟩
      show fX6_oddsTogether_4 (n + 1) (nI a) (nI k) IC = fX6_oddsTogether_4 n (nI _) (nI (k + 1)) IC
      rw [sX6_oddsTogether_4, fX6_oddsTogether_4b]
      simp (disch := (first | assumption | trivial | omega)) only [v_od6 h, lit, neg1, oI_s, addN, mulN, subN, clN, gdN, ltN, leN, eqN, nIo, oIn, oI_eq, divN, remN, giT, giF, lzE, prE, bdE, smL, smR, shlN, shrN, hasE, andN, orN, bit1, bit0, max7, min7, giTr, giFa, gdp, litL, i2l, addL, mulL, divL, remL, cmLe, cmGt, cmGe, cmEq, eqL])
  unfold fX6_oddsTogether
  rw [show (0 : Int32) = nI 0 from rfl, R.1, bdE]
  simp [itr, oa]
/-- how likely a sort is -/
def lk (S : Nat → Nat → Nat) (s : Nat) : Nat := if oa S = 0 then (if s = 0 then 1 else 0) else S 1 s
theorem lk_lt (h : sv S IC IM) (hs : s < 5) : lk S s < 10 := by
  have := b_od h hs
  unfold lk
  by_cases c : oa S = 0
  · rw [if_pos c]; by_cases c2 : s = 0
    · rw [if_pos c2]; omega
    · rw [if_neg c2]; omega
  · rw [if_neg c]; omega
theorem lk7 (h : sv S IC IM) (hs : s < 5) : fX7_oddsOf (nI s) IM = some (nI (lk S s)) := by
  have := oa_lt h
  unfold fX7_oddsOf
  rw [oa7 h, bdE]
  unfold lk
  by_cases c : oa S = 0
  · rw [if_pos c]
    by_cases c2 : s = 0
    · rw [if_pos c2]; simp (disch := (first | assumption | trivial | omega)) only [lit, neg1, oI_s, addN, mulN, subN, clN, gdN, ltN, leN, eqN, nIo, oIn, oI_eq, divN, remN, giT, giF, lzE, prE, bdE, smL, smR, shlN, shrN, hasE, andN, orN, bit1, bit0, max7, min7, giTr, giFa, gdp, litL, i2l, addL, mulL, divL, remL, cmLe, cmGt, cmGe, cmEq, eqL]
    · rw [if_neg c2]; simp (disch := (first | assumption | trivial | omega)) only [lit, neg1, oI_s, addN, mulN, subN, clN, gdN, ltN, leN, eqN, nIo, oIn, oI_eq, divN, remN, giT, giF, lzE, prE, bdE, smL, smR, shlN, shrN, hasE, andN, orN, bit1, bit0, max7, min7, giTr, giFa, gdp, litL, i2l, addL, mulL, divL, remL, cmLe, cmGt, cmGe, cmEq, eqL]
  · rw [if_neg c]; simp (disch := (first | assumption | trivial | omega)) only [v_od7 h, lit, neg1, oI_s, addN, mulN, subN, clN, gdN, ltN, leN, eqN, nIo, oIn, oI_eq, divN, remN, giT, giF, lzE, prE, bdE, smL, smR, shlN, shrN, hasE, andN, orN, bit1, bit0, max7, min7, giTr, giFa, gdp, litL, i2l, addL, mulL, divL, remL, cmLe, cmGt, cmGe, cmEq, eqL]
theorem lk6 (h : sv S IC IM) (hs : s < 5) : fX6_likelihood (nI s) IC = some (nI (lk S s)) := by
  have := oa_lt h
  unfold fX6_likelihood
  rw [oa6 h]
  unfold lk
  by_cases c : oa S = 0
  · rw [if_pos c]
    by_cases c2 : s = 0
    · rw [if_pos c2]; simp (disch := (first | assumption | trivial | omega)) only [lit, neg1, oI_s, addN, mulN, subN, clN, gdN, ltN, leN, eqN, nIo, oIn, oI_eq, divN, remN, giT, giF, lzE, prE, bdE, smL, smR, shlN, shrN, hasE, andN, orN, bit1, bit0, max7, min7, giTr, giFa, gdp, litL, i2l, addL, mulL, divL, remL, cmLe, cmGt, cmGe, cmEq, eqL]
    · rw [if_neg c2]
      have e : S 1 s = 0 := by
        unfold oa at c
        have : s = 1 ∨ s = 2 ∨ s = 3 ∨ s = 4 := by omega
        rcases this with rfl | rfl | rfl | rfl <;> omega
      simp (disch := (first | assumption | trivial | omega)) only [v_od6 h, lit, neg1, oI_s, addN, mulN, subN, clN, gdN, ltN, leN, eqN, nIo, oIn, oI_eq, divN, remN, giT, giF, lzE, prE, bdE, smL, smR, shlN, shrN, hasE, andN, orN, bit1, bit0, max7, min7, giTr, giFa, gdp, litL, i2l, addL, mulL, divL, remL, cmLe, cmGt, cmGe, cmEq, eqL]
      rw [e]
  · rw [if_neg c]
    by_cases c2 : s = 0
    · simp (disch := (first | assumption | trivial | omega)) only [v_od6 h, lit, neg1, oI_s, addN, mulN, subN, clN, gdN, ltN, leN, eqN, nIo, oIn, oI_eq, divN, remN, giT, giF, lzE, prE, bdE, smL, smR, shlN, shrN, hasE, andN, orN, bit1, bit0, max7, min7, giTr, giFa, gdp, litL, i2l, addL, mulL, divL, remL, cmLe, cmGt, cmGe, cmEq, eqL]
    · simp (disch := (first | assumption | trivial | omega)) only [v_od6 h, lit, neg1, oI_s, addN, mulN, subN, clN, gdN, ltN, leN, eqN, nIo, oIn, oI_eq, divN, remN, giT, giF, lzE, prE, bdE, smL, smR, shlN, shrN, hasE, andN, orN, bit1, bit0, max7, min7, giTr, giFa, gdp, litL, i2l, addL, mulL, divL, remL, cmLe, cmGt, cmGe, cmEq, eqL]
theorem wh7 (h : sv S IC IM) : fX7_whole IM = some (nI (max 1 (oa S))) := by
  have := oa_lt h
  unfold fX7_whole
  rw [oa7 h, bdE]
  by_cases c : oa S = 0
  · rw [c]; simp (disch := (first | assumption | trivial | omega)) only [lit, neg1, oI_s, addN, mulN, subN, clN, gdN, ltN, leN, eqN, nIo, oIn, oI_eq, divN, remN, giT, giF, lzE, prE, bdE, smL, smR, shlN, shrN, hasE, andN, orN, bit1, bit0, max7, min7, giTr, giFa, gdp, litL, i2l, addL, mulL, divL, remL, cmLe, cmGt, cmGe, cmEq, eqL]; rfl
  · rw [Nat.max_eq_right (by omega)]; simp (disch := (first | assumption | trivial | omega)) only [lit, neg1, oI_s, addN, mulN, subN, clN, gdN, ltN, leN, eqN, nIo, oIn, oI_eq, divN, remN, giT, giF, lzE, prE, bdE, smL, smR, shlN, shrN, hasE, andN, orN, bit1, bit0, max7, min7, giTr, giFa, gdp, litL, i2l, addL, mulL, divL, remL, cmLe, cmGt, cmGe, cmEq, eqL]
theorem wh6 (h : sv S IC IM) : fX6_allLikelihood IC = some (nI (max 1 (oa S))) := by
  have := oa_lt h
  unfold fX6_allLikelihood
  rw [oa6 h, bdE]
  simp (disch := (first | assumption | trivial | omega)) only [lit, neg1, oI_s, addN, mulN, subN, clN, gdN, ltN, leN, eqN, nIo, oIn, oI_eq, divN, remN, giT, giF, lzE, prE, bdE, smL, smR, shlN, shrN, hasE, andN, orN, bit1, bit0, max7, min7, giTr, giFa, gdp, litL, i2l, addL, mulL, divL, remL, cmLe, cmGt, cmGe, cmEq, eqL]
theorem isRun7p {f t : Nat} (hf : f ≤ t) (ht : t < 12) : fX7_areSlices (nI f) (nI t) = nI 1 ∧ fX6_isRun (nI f) (nI t) = nI 1 := by
  constructor
  · unfold fX7_areSlices fX7_isIn
    simp (disch := (first | assumption | trivial | omega)) only [lit, neg1, oI_s, addN, mulN, subN, clN, gdN, ltN, leN, eqN, nIo, oIn, oI_eq, divN, remN, giT, giF, lzE, prE, bdE, smL, smR, shlN, shrN, hasE, andN, orN, bit1, bit0, max7, min7, giTr, giFa, gdp, litL, i2l, addL, mulL, divL, remL, cmLe, cmGt, cmGe, cmEq, eqL]
  · unfold fX6_isRun
    simp (disch := (first | assumption | trivial | omega)) only [lit, neg1, oI_s, addN, mulN, subN, clN, gdN, ltN, leN, eqN, nIo, oIn, oI_eq, divN, remN, giT, giF, lzE, prE, bdE, smL, smR, shlN, shrN, hasE, andN, orN, bit1, bit0, max7, min7, giTr, giFa, gdp, litL, i2l, addL, mulL, divL, remL, cmLe, cmGt, cmGe, cmEq, eqL]
theorem isRun7n {x y : Int32} (h : ¬ ∃ f t, f ≤ t ∧ t < 12 ∧ x = nI f ∧ y = nI t) : fX7_areSlices x y = nI 0 ∧ fX6_isRun x y = nI 0 := by
  by_cases cy : inR y 12
  · obtain ⟨t, ht, rfl⟩ := cy
    by_cases cx : inR x (t + 1)
    · obtain ⟨f, hf, rfl⟩ := cx
      exact absurd ⟨f, t, by omega, ht, rfl, rfl⟩ h
    · constructor
      · unfold fX7_areSlices
        rw [isIn_pos (lo := 0) (hi := 11) (n := 11) (by decide) rfl rfl ⟨t, ht, rfl⟩, gi_neg one_ne, isIn_neg (lo := 0) (hi := nI t) (n := t) (by omega) rfl rfl cx]
        exact gi_pos rfl
      · unfold fX6_isRun
        by_cases c : x < 0
        · exact gi_pos c
        · rw [gi_neg c]
          have := not_in (by omega) cx c
          apply gi_pos
          rw [le_toInt, nI_toInt (by omega)] at this
          rw [lt_toInt, nI_toInt (by omega)]
          omega
  · constructor
    · unfold fX7_areSlices
      rw [isIn_neg (lo := 0) (hi := 11) (n := 11) (by decide) rfl rfl cy]
      exact gi_pos rfl
    · unfold fX6_isRun
      by_cases c : x < 0
      · exact gi_pos c
      · rw [gi_neg c]
        by_cases c2 : y < x
        · exact gi_pos c2
        · rw [gi_neg c2]
          apply gi_pos
          apply not_in (n := 12) (by decide) cy
          rw [lt_toInt] at *
          have e0 : (0 : Int32).toInt = 0 := by decide
          omega
end SD
