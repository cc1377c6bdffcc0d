-- 42: PURE PART: hopes, waiting, crowds (out of wip/whole/pure by pure.py)
theorem maxL {a b : Nat} (ha : a < 9223372036854775808) (hb : b < 9223372036854775808) : jlmax (lN a) (lN b) = lN (max a b) := by
  unfold jlmax
  by_cases c : b < a
  · rw [if_pos ((pk_lLT hb ha).mpr c), Nat.max_eq_left (by omega)]
  · rw [if_neg (fun x => c ((pk_lLT hb ha).mp x)), Nat.max_eq_right (by omega)]
def wl (S : Nat → Nat → Nat) : Nat := max 1 (oa S)
section HO
variable {S : Nat → Nat → Nat} {IC IM : gI} {JM : gJ} {s b k k0 q up : Nat}
theorem wl_lt (h : sv S IC IM) : 1 ≤ wl S ∧ wl S ≤ 45 := by
  have := oa_lt h
  unfold wl
  omega
theorem lk_sum (h : sv S IC IM) : lk S 0 + lk S 1 + lk S 2 + lk S 3 + lk S 4 = wl S := by
  unfold wl lk
  by_cases c : oa S = 0
  · simp only [if_pos c]
    rw [c]
    decide
  · simp only [if_neg c]
    unfold oa at *
    omega
theorem lk_le (h : sv S IC IM) (hs : s < 5) : lk S s ≤ wl S := by
  have e := lk_sum h
  have : s = 0 ∨ s = 1 ∨ s = 2 ∨ s = 3 ∨ s = 4 := by omega
  rcases this with rfl | rfl | rfl | rfl | rfl <;> omega
theorem wpow (h : sv S IC IM) (hk : k ≤ 10) : wl S ^ k ≤ 34050628916015625 ∧ 0 < wl S ^ k := by
  have hw := wl_lt h
  refine ⟨?_, Nat.pow_pos (by omega)⟩
  calc wl S ^ k ≤ 45 ^ k := Nat.pow_le_pow_left hw.2 k
    _ ≤ 45 ^ 10 := Nat.pow_le_pow_right (by decide) hk
theorem wpow6 (h : sv S IC IM) (hk : k ≤ 6) : wl S ^ k ≤ 8303765625 := by
  have hw := wl_lt h
  calc wl S ^ k ≤ 45 ^ k := Nat.pow_le_pow_left hw.2 k
    _ ≤ 45 ^ 6 := Nat.pow_le_pow_right (by decide) hk
theorem ar7 (h : sv S IC IM) (hn : q ≤ 10) : fX7_allRows (nI q) IM = some (lN (wl S ^ q)) := by
  have hw := wl_lt h
  have R7 := lp_run (fun n k (a : Nat) => fX7_allRows_5 n (nI q) (lN a) (nI k) IM) (q) (fun k a => a * wl S) (lN) (fun k a => a = wl S ^ k) 1 (by first | decide | omega) (rfl)
      (fun n a hP => by
        try dsimp only
        rw [sX7_allRows_5, fX7_allRows_5b]
        simp (disch := (first | assumption | trivial | omega)) only [lit, neg1, oI_s, addN, mulN, subN, clN, gdN, ltN, leN, eqN, nIo, oIn, oI_eq, divN, remN, giT, giF, lzE, prE, bdE, smL, smR, shlN, shrN, hasE, andN, orN, bit1, bit0, max7, min7, giTr, giFa, gdp, litL, i2l, addL, mulL, divL, remL, cmLe, cmGt, cmGe, cmEq, eqL])
      (fun n k a hk hP => by
        try dsimp only at hP ⊢
        refine ⟨?_, by rw [hP, Nat.pow_succ]⟩
        rw [sX7_allRows_5, fX7_allRows_5b]
        simp (disch := (first | assumption | trivial | omega)) only [wh7 h, show max 1 (oa S) = wl S from rfl, lit, neg1, oI_s, addN, mulN, subN, clN, gdN, ltN, leN, eqN, nIo, oIn, oI_eq, divN, remN, giT, giF, lzE, prE, bdE, smL, smR, shlN, shrN, hasE, andN, orN, bit1, bit0, max7, min7, giTr, giFa, gdp, litL, i2l, addL, mulL, divL, remL, cmLe, cmGt, cmGe, cmEq, eqL])
  obtain ⟨e, f⟩ := R7
  try dsimp only at e f
  rw [f] at e
  unfold fX7_allRows
  simp (disch := (first | assumption | trivial | omega)) only [e, lit, neg1, oI_s, addN, mulN, subN, clN, gdN, ltN, leN, eqN, nIo, oIn, oI_eq, divN, remN, giT, giF, lzE, prE, bdE, smL, smR, shlN, shrN, hasE, andN, orN, bit1, bit0, max7, min7, giTr, giFa, gdp, litL, i2l, addL, mulL, divL, remL, cmLe, cmGt, cmGe, cmEq, eqL]
/-- a day's hope -/
def hs (S : Nat → Nat → Nat) (k up : Nat) : Nat := itr (fun s a => a + lk S s * max (S 2 s * wl S ^ k) up) 0 5 0
def hu (S : Nat → Nat → Nat) : Nat → Nat
  | 0 => 0
  | k + 1 => hs S k (hu S k)
theorem hu_le (h : sv S IC IM) : ∀ k, hu S k ≤ 99 * wl S ^ k := by
  intro k
  induction k with
  | zero => exact Nat.zero_le _
  | succ k ih =>
    show hs S k (hu S k) ≤ _
    have m : ∀ s, s < 5 → lk S s * max (S 2 s * wl S ^ k) (hu S k) ≤ lk S s * (99 * wl S ^ k) := by
      intro s hs
      apply Nat.mul_le_mul_left
      have h1 : S 2 s * wl S ^ k ≤ 99 * wl S ^ k := Nat.mul_le_mul_right _ (by have := (b_od h hs).2; omega)
      exact Nat.max_le.mpr ⟨h1, ih⟩
    have m0 := m 0 (by decide)
    have m1 := m 1 (by decide)
    have m2 := m 2 (by decide)
    have m3 := m 3 (by decide)
    have m4 := m 4 (by decide)
    have e : 99 * wl S ^ (k + 1) = lk S 0 * (99 * wl S ^ k) + lk S 1 * (99 * wl S ^ k) + lk S 2 * (99 * wl S ^ k) + lk S 3 * (99 * wl S ^ k) + lk S 4 * (99 * wl S ^ k) := by
      rw [← Nat.add_mul, ← Nat.add_mul, ← Nat.add_mul, ← Nat.add_mul, lk_sum h, Nat.pow_succ, ← Nat.mul_assoc, Nat.mul_comm]
    rw [e]
    show 0 + lk S 0 * max (S 2 0 * wl S ^ k) (hu S k) + lk S 1 * max (S 2 1 * wl S ^ k) (hu S k) + lk S 2 * max (S 2 2 * wl S ^ k) (hu S k) + lk S 3 * max (S 2 3 * wl S ^ k) (hu S k) + lk S 4 * max (S 2 4 * wl S ^ k) (hu S k) ≤ _
    omega
theorem hs7 (h : sv S IC IM) (hk0 : k0 < 6) (hup : up ≤ 99 * wl S ^ k0) : fX7_hoped_17 FU (nI q) (lN up) (nI (k0 + 1)) (lN 0) (nI 0) IM = some (lN (hs S k0 up)) := by
  have hw := wl_lt h
  have hp := wpow6 h (k := k0) (by omega)
  have R7 := lp_run (fun n k (a : Nat) => fX7_hoped_17 n (nI q) (lN up) (nI (k0 + 1)) (lN a) (nI k) IM) (5) (fun s a => a + lk S s * max (S 2 s * wl S ^ k0) up) (lN) (fun _ _ => True) 0 (by first | decide | omega) (trivial)
      (fun n a hP => by
        try dsimp only
        rw [sX7_hoped_17, fX7_hoped_17b]
        simp (disch := (first | assumption | trivial | omega)) only [lit, neg1, oI_s, addN, mulN, subN, clN, gdN, ltN, leN, eqN, nIo, oIn, oI_eq, divN, remN, giT, giF, lzE, prE, bdE, smL, smR, shlN, shrN, hasE, andN, orN, bit1, bit0, max7, min7, giTr, giFa, gdp, litL, i2l, addL, mulL, divL, remL, cmLe, cmGt, cmGe, cmEq, eqL])
      (fun n k a hk hP => by
        try dsimp only at hP ⊢
        have ho := b_od h hk
        have h1 : S 2 k * wl S ^ k0 ≤ 99 * wl S ^ k0 := Nat.mul_le_mul_right _ (by omega)
        have h2 : wl S ^ k0 * S 2 k = S 2 k * wl S ^ k0 := Nat.mul_comm _ _
        have hl := lk_lt h hk
        refine ⟨?_, trivial⟩
        rw [sX7_hoped_17, fX7_hoped_17b]
        by_cases c : S 2 k * wl S ^ k0 ≤ up
        · rw [Nat.max_eq_right c]
          simp (disch := (first | assumption | trivial | omega)) only [Nat.add_sub_cancel, ar7 h, v_wo7 h, lk7 h, h2, lit, neg1, oI_s, addN, mulN, subN, clN, gdN, ltN, leN, eqN, nIo, oIn, oI_eq, divN, remN, giT, giF, lzE, prE, bdE, smL, smR, shlN, shrN, hasE, andN, orN, bit1, bit0, max7, min7, giTr, giFa, gdp, litL, i2l, addL, mulL, divL, remL, cmLe, cmGt, cmGe, cmEq, eqL]
        · rw [Nat.max_eq_left (by omega)]
          simp (disch := (first | assumption | trivial | omega)) only [Nat.add_sub_cancel, ar7 h, v_wo7 h, lk7 h, h2, lit, neg1, oI_s, addN, mulN, subN, clN, gdN, ltN, leN, eqN, nIo, oIn, oI_eq, divN, remN, giT, giF, lzE, prE, bdE, smL, smR, shlN, shrN, hasE, andN, orN, bit1, bit0, max7, min7, giTr, giFa, gdp, litL, i2l, addL, mulL, divL, remL, cmLe, cmGt, cmGe, cmEq, eqL])
  exact R7.1
theorem hs6 (h : sv S IC IM) (hk0 : k0 < 6) (hup : up ≤ 99 * wl S ^ k0) {x i : Int32} : fX6_hoped_20 FU (nI q) x (lN up) (lN (wl S ^ k0)) i (lN 0) (nI 0) IC = some (lN (hs S k0 up)) := by
  have hw := wl_lt h
  have hp := wpow6 h (k := k0) (by omega)
  have R6 := lp_run (fun n k (a : Nat) => fX6_hoped_20 n (nI q) x (lN up) (lN (wl S ^ k0)) i (lN a) (nI k) IC) (5) (fun s a => a + lk S s * max (S 2 s * wl S ^ k0) up) (lN) (fun _ _ => True) 0 (by first | decide | omega) (trivial)
      (fun n a hP => by
        try dsimp only
        rw [sX6_hoped_20, fX6_hoped_20b]
        simp (disch := (first | assumption | trivial | omega)) only [lit, neg1, oI_s, addN, mulN, subN, clN, gdN, ltN, leN, eqN, nIo, oIn, oI_eq, divN, remN, giT, giF, lzE, prE, bdE, smL, smR, shlN, shrN, hasE, andN, orN, bit1, bit0, max7, min7, giTr, giFa, gdp, litL, i2l, addL, mulL, divL, remL, cmLe, cmGt, cmGe, cmEq, eqL])
      (fun n k a hk hP => by
        try dsimp only at hP ⊢
        have ho := b_od h hk
        have h1 : S 2 k * wl S ^ k0 ≤ 99 * wl S ^ k0 := Nat.mul_le_mul_right _ (by omega)
        have hl := lk_lt h hk
        refine ⟨?_, trivial⟩
        rw [sX6_hoped_20, fX6_hoped_20b]
        simp (disch := (first | assumption | trivial | omega)) only [v_wo6 h, lk6 h, maxL, lit, neg1, oI_s, addN, mulN, subN, clN, gdN, ltN, leN, eqN, nIo, oIn, oI_eq, divN, remN, giT, giF, lzE, prE, bdE, smL, smR, shlN, shrN, hasE, andN, orN, bit1, bit0, max7, min7, giTr, giFa, gdp, litL, i2l, addL, mulL, divL, remL, cmLe, cmGt, cmGe, cmEq, eqL])
  exact R6.1
theorem ho7 (h : sv S IC IM) (hn : q ≤ 6) : fX7_hoped (nI q) IM = some (lN (hu S q)) := by
  have R7 := lp_run (fun n k (a : Nat) => fX7_hoped_5 n (nI q) (lN a) (nI (k + 1)) IM) (q) (hs S) (lN) (fun k a => a = hu S k) 0 (by first | decide | omega) (rfl)
      (fun n a hP => by
        try dsimp only
        rw [sX7_hoped_5, fX7_hoped_5b]
        simp (disch := (first | assumption | trivial | omega)) only [lit, neg1, oI_s, addN, mulN, subN, clN, gdN, ltN, leN, eqN, nIo, oIn, oI_eq, divN, remN, giT, giF, lzE, prE, bdE, smL, smR, shlN, shrN, hasE, andN, orN, bit1, bit0, max7, min7, giTr, giFa, gdp, litL, i2l, addL, mulL, divL, remL, cmLe, cmGt, cmGe, cmEq, eqL])
      (fun n k a hk hP => by
        try dsimp only at hP ⊢
        have hb := hu_le h k
        rw [← hP] at hb
        refine ⟨?_, by rw [hP]; rfl⟩
        rw [sX7_hoped_5, fX7_hoped_5b]
        simp (disch := (first | assumption | trivial | omega)) only [hs7 h (show k < 6 by omega) hb, lit, neg1, oI_s, addN, mulN, subN, clN, gdN, ltN, leN, eqN, nIo, oIn, oI_eq, divN, remN, giT, giF, lzE, prE, bdE, smL, smR, shlN, shrN, hasE, andN, orN, bit1, bit0, max7, min7, giTr, giFa, gdp, litL, i2l, addL, mulL, divL, remL, cmLe, cmGt, cmGe, cmEq, eqL])
  obtain ⟨e, f⟩ := R7
  try dsimp only at e f
  rw [f] at e
  unfold fX7_hoped
  simp (disch := (first | assumption | trivial | omega)) only [show fX7_hoped_5 FU (nI q) (lN 0) (nI 1) IM = _ from e, lit, neg1, oI_s, addN, mulN, subN, clN, gdN, ltN, leN, eqN, nIo, oIn, oI_eq, divN, remN, giT, giF, lzE, prE, bdE, smL, smR, shlN, shrN, hasE, andN, orN, bit1, bit0, max7, min7, giTr, giFa, gdp, litL, i2l, addL, mulL, divL, remL, cmLe, cmGt, cmGe, cmEq, eqL]
theorem ho6 (h : sv S IC IM) (hn : q ≤ 6) (x : Int32) : fX6_hoped_8 FU (nI q) x (lN 0) (lN 1) (nI 0) IC = some (lN (hu S q), lN (wl S ^ q)) := by
  have R6 := lp_run (fun n k (a : Nat) => fX6_hoped_8 n (nI q) x (lN a) (lN (wl S ^ k)) (nI k) IC) (q) (hs S) ((fun a => (lN a, lN (wl S ^ q)))) (fun k a => a = hu S k) 0 (by first | decide | omega) (rfl)
      (fun n a hP => by
        try dsimp only
        rw [sX6_hoped_8, fX6_hoped_8b]
        simp (disch := (first | assumption | trivial | omega)) only [lit, neg1, oI_s, addN, mulN, subN, clN, gdN, ltN, leN, eqN, nIo, oIn, oI_eq, divN, remN, giT, giF, lzE, prE, bdE, smL, smR, shlN, shrN, hasE, andN, orN, bit1, bit0, max7, min7, giTr, giFa, gdp, litL, i2l, addL, mulL, divL, remL, cmLe, cmGt, cmGe, cmEq, eqL])
      (fun n k a hk hP => by
        try dsimp only at hP ⊢
        have hb := hu_le h k
        rw [← hP] at hb
        have hw := wl_lt h
        refine ⟨?_, by rw [hP]; rfl⟩
        rw [sX6_hoped_8, fX6_hoped_8b]
        simp (disch := (first | assumption | trivial | omega)) only [hs6 h (show k < 6 by omega) hb, wh6 h, show max 1 (oa S) = wl S from rfl, Nat.pow_succ, lit, neg1, oI_s, addN, mulN, subN, clN, gdN, ltN, leN, eqN, nIo, oIn, oI_eq, divN, remN, giT, giF, lzE, prE, bdE, smL, smR, shlN, shrN, hasE, andN, orN, bit1, bit0, max7, min7, giTr, giFa, gdp, litL, i2l, addL, mulL, divL, remL, cmLe, cmGt, cmGe, cmEq, eqL])
  obtain ⟨e, f⟩ := R6
  try dsimp only at e f
  rw [f] at e
  exact e
end HO
theorem low6v {up down : Nat} (x : Int32) (hu : up < 2 ^ 62) (hd : down < 2 ^ 62) (h0 : 0 < down) : (x = 0 → fX6_lowest (lN up) (lN down) x = some (lN (up / Nat.gcd up down))) ∧ (¬ x = 0 → fX6_lowest (lN up) (lN down) x = some (lN (down / Nat.gcd up down))) := by
  have hg : 0 < Nat.gcd up down := Nat.gcd_pos_of_pos_right _ h0
  have hg2 : Nat.gcd up down ≤ down := Nat.gcd_le_right _ h0
  have e6 := low_lp (lN up) (lN down) x 62 down up 0 FU hu (by omega) (by omega) (by decide) (by decide)
  constructor
  · intro hx
    unfold fX6_lowest
    rw [show (0 : Int32) = nI 0 from rfl, e6, bdE, ← show x = nI 0 from hx]
    subst hx
    simp (disch := (first | assumption | trivial | omega)) only [lit, neg1, oI_s, addN, mulN, subN, clN, gdN, ltN, leN, eqN, nIo, oIn, oI_eq, divN, remN, giT, giF, lzE, prE, bdE, smL, smR, shlN, shrN, hasE, andN, orN, bit1, bit0, max7, min7, giTr, giFa, gdp, litL, i2l, addL, mulL, divL, remL, cmLe, cmGt, cmGe, cmEq, eqL]
  · intro hx
    have hx' : ¬ x = nI 0 := hx
    unfold fX6_lowest
    rw [show (0 : Int32) = nI 0 from rfl, e6, bdE]
    simp (disch := (first | assumption | trivial | omega)) only [lit, neg1, oI_s, addN, mulN, subN, clN, gdN, ltN, leN, eqN, nIo, oIn, oI_eq, divN, remN, giT, giF, lzE, prE, bdE, smL, smR, shlN, shrN, hasE, andN, orN, bit1, bit0, max7, min7, giTr, giFa, gdp, litL, i2l, addL, mulL, divL, remL, cmLe, cmGt, cmGe, cmEq, eqL]
theorem case_23 : st_23 V0 := by
  intro a1 a2 IC IM JM hV
  obtain ⟨S, h⟩ := view hV
  by_cases c : inR a1 7
  · have i2 : fX7_isIn a1 0 6 = 1 := isIn_pos (lo := 0) (hi := 6) (n := 6) (by decide) rfl rfl c
    have i3 : fX6_within a1 0 6 = 1 := i2
    obtain ⟨n, hn, rfl⟩ := c
    have hw := wpow h (k := n) (by omega)
    have hw6 := wpow6 h (k := n) (by omega)
    have hb := hu_le h n
    obtain ⟨r, r6, r7⟩ := low67 (up := hu S n) (down := wl S ^ n) (bz a2) (by omega) (by omega) hw.2
    refine ⟨r, ?_, ?_, hV⟩
    · unfold fX6_hope fX6_hoped
      rw [i3]
      simp (disch := (first | assumption | trivial | omega)) only [ho6 h (show n ≤ 6 by omega), r6, lit, neg1, oI_s, addN, mulN, subN, clN, gdN, ltN, leN, eqN, nIo, oIn, oI_eq, divN, remN, giT, giF, lzE, prE, bdE, smL, smR, shlN, shrN, hasE, andN, orN, bit1, bit0, max7, min7, giTr, giFa, gdp, litL, i2l, addL, mulL, divL, remL, cmLe, cmGt, cmGe, cmEq, eqL]
    · unfold fX7_hope fX7_isHope
      rw [i2]
      simp (disch := (first | assumption | trivial | omega)) only [ho7 h (show n ≤ 6 by omega), ar7 h, r7, lit, neg1, oI_s, addN, mulN, subN, clN, gdN, ltN, leN, eqN, nIo, oIn, oI_eq, divN, remN, giT, giF, lzE, prE, bdE, smL, smR, shlN, shrN, hasE, andN, orN, bit1, bit0, max7, min7, giTr, giFa, gdp, litL, i2l, addL, mulL, divL, remL, cmLe, cmGt, cmGe, cmEq, eqL]
  · have i2 : fX7_isIn a1 0 6 = 0 := isIn_neg (lo := 0) (hi := 6) (n := 6) (by decide) rfl rfl c
    have i3 : fX6_within a1 0 6 = 0 := i2
    refine ⟨-1, ?_, ?_, hV⟩
    · unfold fX6_hope
      rw [i3, gi_pos rfl]
    · unfold fX7_hope fX7_isHope
      rw [i2, gi_pos rfl]
theorem case_24 : st_24 V0 := by
  intro a1 IC IM JM hV
  obtain ⟨S, h⟩ := view hV
  by_cases c : inR a1 7
  · have i2 : fX7_isIn a1 0 6 = 1 := isIn_pos (lo := 0) (hi := 6) (n := 6) (by decide) rfl rfl c
    have i3 : fX6_within a1 0 6 = 1 := i2
    obtain ⟨n, hn, rfl⟩ := c
    have hw := wpow h (k := n) (by omega)
    have hw6 := wpow6 h (k := n) (by omega)
    have hb := hu_le h n
    have hso := (b_w h).2.2.2.1
    have hwo := (b_od h hso).2
    have r0 := (low6v (up := hu S n) (down := wl S ^ n) (nI 0) (by omega) (by omega) hw.2).1 rfl
    have r1 := (low6v (up := hu S n) (down := wl S ^ n) (nI 1) (by omega) (by omega) hw.2).2 (by decide)
    have hg : 0 < Nat.gcd (hu S n) (wl S ^ n) := Nat.gcd_pos_of_pos_right _ hw.2
    obtain ⟨u, eu⟩ := Nat.gcd_dvd_left (hu S n) (wl S ^ n)
    obtain ⟨v, ev⟩ := Nat.gcd_dvd_right (hu S n) (wl S ^ n)
    have du : hu S n / Nat.gcd (hu S n) (wl S ^ n) = u := by
      conv => lhs; arg 1; rw [eu]
      exact Nat.mul_div_cancel_left u hg
    have dv : wl S ^ n / Nat.gcd (hu S n) (wl S ^ n) = v := by
      conv => lhs; arg 1; rw [ev]
      exact Nat.mul_div_cancel_left v hg
    rw [du] at r0
    rw [dv] at r1
    have hul : u ≤ hu S n := by rw [← du]; exact Nat.div_le_self _ _
    have hvl : v ≤ wl S ^ n := by rw [← dv]; exact Nat.div_le_self _ _
    have p1 : S 2 (S 10 3) * v ≤ 99 * v := Nat.mul_le_mul_right _ (by omega)
    have p2 : wl S ^ n * S 2 (S 10 3) ≤ wl S ^ n * 99 := Nat.mul_le_mul_left _ (by omega)
    have hiff : (u ≤ S 2 (S 10 3) * v) ↔ (hu S n ≤ wl S ^ n * S 2 (S 10 3)) := by
      rw [show (hu S n ≤ wl S ^ n * S 2 (S 10 3)) ↔ (Nat.gcd (hu S n) (wl S ^ n) * u ≤ Nat.gcd (hu S n) (wl S ^ n) * v * S 2 (S 10 3)) by rw [← eu, ← ev]]
      rw [Nat.mul_assoc, Nat.mul_le_mul_left_iff hg, Nat.mul_comm]
    by_cases cc : hu S n ≤ wl S ^ n * S 2 (S 10 3)
    · have cc' := hiff.mpr cc
      refine ⟨0, ?_, ?_, hV⟩
      · unfold fX6_keep fX6_hoped
        rw [i3]
        simp (disch := (first | assumption | trivial | omega)) only [ho6 h (show n ≤ 6 by omega), r0, r1, v_so6 h, v_wo6 h, lit, neg1, oI_s, addN, mulN, subN, clN, gdN, ltN, leN, eqN, nIo, oIn, oI_eq, divN, remN, giT, giF, lzE, prE, bdE, smL, smR, shlN, shrN, hasE, andN, orN, bit1, bit0, max7, min7, giTr, giFa, gdp, litL, i2l, addL, mulL, divL, remL, cmLe, cmGt, cmGe, cmEq, eqL]
      · unfold fX7_keep fX7_isHope
        rw [i2]
        simp (disch := (first | assumption | trivial | omega)) only [ho7 h (show n ≤ 6 by omega), ar7 h, v_so7 h, v_wo7 h, lit, neg1, oI_s, addN, mulN, subN, clN, gdN, ltN, leN, eqN, nIo, oIn, oI_eq, divN, remN, giT, giF, lzE, prE, bdE, smL, smR, shlN, shrN, hasE, andN, orN, bit1, bit0, max7, min7, giTr, giFa, gdp, litL, i2l, addL, mulL, divL, remL, cmLe, cmGt, cmGe, cmEq, eqL]
    · have cc' : ¬ u ≤ S 2 (S 10 3) * v := fun x => cc (hiff.mp x)
      refine ⟨1, ?_, ?_, hV⟩
      · unfold fX6_keep fX6_hoped
        rw [i3]
        simp (disch := (first | assumption | trivial | omega)) only [ho6 h (show n ≤ 6 by omega), r0, r1, v_so6 h, v_wo6 h, lit, neg1, oI_s, addN, mulN, subN, clN, gdN, ltN, leN, eqN, nIo, oIn, oI_eq, divN, remN, giT, giF, lzE, prE, bdE, smL, smR, shlN, shrN, hasE, andN, orN, bit1, bit0, max7, min7, giTr, giFa, gdp, litL, i2l, addL, mulL, divL, remL, cmLe, cmGt, cmGe, cmEq, eqL]
      · unfold fX7_keep fX7_isHope
        rw [i2]
        simp (disch := (first | assumption | trivial | omega)) only [ho7 h (show n ≤ 6 by omega), ar7 h, v_so7 h, v_wo7 h, lit, neg1, oI_s, addN, mulN, subN, clN, gdN, ltN, leN, eqN, nIo, oIn, oI_eq, divN, remN, giT, giF, lzE, prE, bdE, smL, smR, shlN, shrN, hasE, andN, orN, bit1, bit0, max7, min7, giTr, giFa, gdp, litL, i2l, addL, mulL, divL, remL, cmLe, cmGt, cmGe, cmEq, eqL]
  · have i2 : fX7_isIn a1 0 6 = 0 := isIn_neg (lo := 0) (hi := 6) (n := 6) (by decide) rfl rfl c
    have i3 : fX6_within a1 0 6 = 0 := i2
    refine ⟨0, ?_, ?_, hV⟩
    · unfold fX6_keep
      rw [i3, gi_pos rfl]
    · unfold fX7_keep fX7_isHope
      rw [i2, gi_pos rfl]
theorem case_26 : st_26 V0 := by
  intro a1 IC IM JM hV
  obtain ⟨S, h⟩ := view hV
  have hw := wl_lt h
  by_cases c : inR a1 5
  · obtain ⟨s, hs, rfl⟩ := id c
    have hl := lk_le h hs
    obtain ⟨r6, r7, e6, e7, hq⟩ := lp_2 (fun m k (a : Nat) => fX6_first_22 m (nI s) (nI (wl S)) (lN a) (lN (wl S ^ k)) (nI (k + 1)) IC) (fun m k (a : Nat) => fX7_first_14 m (nI s) (lN a) (nI (k + 1)) IM) 10 (fun k a => a ≤ wl S ^ k) (fun x y => x = y)
      (fun m a _ => by
        refine ⟨.inr (), .inr (), ?_, ?_, rfl⟩
        · rw [sX6_first_22, fX6_first_22b]
          simp (disch := (first | assumption | trivial | omega)) only [lit, neg1, oI_s, addN, mulN, subN, clN, gdN, ltN, leN, eqN, nIo, oIn, oI_eq, divN, remN, giT, giF, lzE, prE, bdE, smL, smR, shlN, shrN, hasE, andN, orN, bit1, bit0, max7, min7, giTr, giFa, gdp, litL, i2l, addL, mulL, divL, remL, cmLe, cmGt, cmGe, cmEq, eqL]
        · rw [sX7_first_14, fX7_first_14b]
          simp (disch := (first | assumption | trivial | omega)) only [lit, neg1, oI_s, addN, mulN, subN, clN, gdN, ltN, leN, eqN, nIo, oIn, oI_eq, divN, remN, giT, giF, lzE, prE, bdE, smL, smR, shlN, shrN, hasE, andN, orN, bit1, bit0, max7, min7, giTr, giFa, gdp, litL, i2l, addL, mulL, divL, remL, cmLe, cmGt, cmGe, cmEq, eqL])
      (fun m k a hk hP => by
        try dsimp only at hP ⊢
        have b1 := wpow h (k := k + 1) (by omega)
        have b2 : a * (wl S - lk S s) ≤ wl S ^ (k + 1) := by
          rw [Nat.pow_succ]; exact Nat.mul_le_mul hP (by omega)
        have b3 : wl S ^ k * wl S = wl S ^ (k + 1) := by rw [Nat.pow_succ]
        by_cases cc : wl S ^ (k + 1) < 2 * (a * (wl S - lk S s))
        · right
          refine ⟨a * (wl S - lk S s), ?_, ?_, b2⟩
          · rw [sX6_first_22, fX6_first_22b]
            simp (disch := (first | assumption | trivial | omega)) only [lk6 h, b3, lit, neg1, oI_s, addN, mulN, subN, clN, gdN, ltN, leN, eqN, nIo, oIn, oI_eq, divN, remN, giT, giF, lzE, prE, bdE, smL, smR, shlN, shrN, hasE, andN, orN, bit1, bit0, max7, min7, giTr, giFa, gdp, litL, i2l, addL, mulL, divL, remL, cmLe, cmGt, cmGe, cmEq, eqL]
          · rw [sX7_first_14, fX7_first_14b]
            simp (disch := (first | assumption | trivial | omega)) only [wh7 h, show max 1 (oa S) = wl S from rfl, lk7 h, ar7 h, lit, neg1, oI_s, addN, mulN, subN, clN, gdN, ltN, leN, eqN, nIo, oIn, oI_eq, divN, remN, giT, giF, lzE, prE, bdE, smL, smR, shlN, shrN, hasE, andN, orN, bit1, bit0, max7, min7, giTr, giFa, gdp, litL, i2l, addL, mulL, divL, remL, cmLe, cmGt, cmGe, cmEq, eqL]
        · left
          refine ⟨.inl (nI (k + 1)), .inl (nI (k + 1)), ?_, ?_, rfl⟩
          · rw [sX6_first_22, fX6_first_22b]
            simp (disch := (first | assumption | trivial | omega)) only [lk6 h, b3, lit, neg1, oI_s, addN, mulN, subN, clN, gdN, ltN, leN, eqN, nIo, oIn, oI_eq, divN, remN, giT, giF, lzE, prE, bdE, smL, smR, shlN, shrN, hasE, andN, orN, bit1, bit0, max7, min7, giTr, giFa, gdp, litL, i2l, addL, mulL, divL, remL, cmLe, cmGt, cmGe, cmEq, eqL]
          · rw [sX7_first_14, fX7_first_14b]
            simp (disch := (first | assumption | trivial | omega)) only [wh7 h, show max 1 (oa S) = wl S from rfl, lk7 h, ar7 h, lit, neg1, oI_s, addN, mulN, subN, clN, gdN, ltN, leN, eqN, nIo, oIn, oI_eq, divN, remN, giT, giF, lzE, prE, bdE, smL, smR, shlN, shrN, hasE, andN, orN, bit1, bit0, max7, min7, giTr, giFa, gdp, litL, i2l, addL, mulL, divL, remL, cmLe, cmGt, cmGe, cmEq, eqL]) 10 0 1 FU (by decide) (Nat.le_refl 1) (by decide)
    subst hq
    try dsimp only at e6 e7
    refine ⟨r6.elim id (fun _ => oI 0), ?_, ?_, hV⟩
    · unfold fX6_first
      simp (disch := (first | assumption | trivial | omega)) only [isSort6_pos c, wh6 h, show fX6_first_22 FU (nI s) (nI (max 1 (oa S))) (lN 1) (lN 1) (nI 1) IC = _ from e6, lit, neg1, oI_s, addN, mulN, subN, clN, gdN, ltN, leN, eqN, nIo, oIn, oI_eq, divN, remN, giT, giF, lzE, prE, bdE, smL, smR, shlN, shrN, hasE, andN, orN, bit1, bit0, max7, min7, giTr, giFa, gdp, litL, i2l, addL, mulL, divL, remL, cmLe, cmGt, cmGe, cmEq, eqL]
      cases r6 <;> rfl
    · unfold fX7_first
      simp (disch := (first | assumption | trivial | omega)) only [isSort7_pos c, show fX7_first_14 FU (nI s) (lN 1) (nI 1) IM = _ from e7, lit, neg1, oI_s, addN, mulN, subN, clN, gdN, ltN, leN, eqN, nIo, oIn, oI_eq, divN, remN, giT, giF, lzE, prE, bdE, smL, smR, shlN, shrN, hasE, andN, orN, bit1, bit0, max7, min7, giTr, giFa, gdp, litL, i2l, addL, mulL, divL, remL, cmLe, cmGt, cmGe, cmEq, eqL]
      cases r6 <;> rfl
  · refine ⟨-1, ?_, ?_, hV⟩
    · unfold fX6_first
      simp (disch := (first | assumption | trivial | omega)) only [isSort6_neg c, lit, neg1, oI_s, addN, mulN, subN, clN, gdN, ltN, leN, eqN, nIo, oIn, oI_eq, divN, remN, giT, giF, lzE, prE, bdE, smL, smR, shlN, shrN, hasE, andN, orN, bit1, bit0, max7, min7, giTr, giFa, gdp, litL, i2l, addL, mulL, divL, remL, cmLe, cmGt, cmGe, cmEq, eqL]
    · unfold fX7_first
      simp (disch := (first | assumption | trivial | omega)) only [isSort7_neg c, lit, neg1, oI_s, addN, mulN, subN, clN, gdN, ltN, leN, eqN, nIo, oIn, oI_eq, divN, remN, giT, giF, lzE, prE, bdE, smL, smR, shlN, shrN, hasE, andN, orN, bit1, bit0, max7, min7, giTr, giFa, gdp, litL, i2l, addL, mulL, divL, remL, cmLe, cmGt, cmGe, cmEq, eqL]
/-- how many want a slice -/
def ca (S : Nat → Nat → Nat) (s : Nat) : Nat := itr (fun k a => if (sq S k).testBit s = true then a + 1 else a) 0 (S 0 0) 0
section CR
variable {S : Nat → Nat → Nat} {IC IM : gI} {JM : gJ} {s b k k0 n up : Nat}
theorem ca7 (h : sv S IC IM) (hs : s < 12) : fX7_crowdAt (nI s) IM = some (nI (ca S s)) ∧ ca S s ≤ 6 := by
  have hn := b_nb h
  have R7 := lp_run (fun n k (a : Nat) => fX7_crowdAt_4 n (nI s) (nI a) (nI k) IM) (S 0 0) (fun k a => if (sq S k).testBit s = true then a + 1 else a) (nI) (fun k a => a ≤ k) 0 (by first | decide | omega) (by omega)
      (fun n a hP => by
        try dsimp only
        rw [sX7_crowdAt_4, fX7_crowdAt_4b]
        simp (disch := (first | assumption | trivial | omega)) only [v_nb7 h, lit, neg1, oI_s, addN, mulN, subN, clN, gdN, ltN, leN, eqN, nIo, oIn, oI_eq, divN, remN, giT, giF, lzE, prE, bdE, smL, smR, shlN, shrN, hasE, andN, orN, bit1, bit0, max7, min7, giTr, giFa, gdp, litL, i2l, addL, mulL, divL, remL, cmLe, cmGt, cmGe, cmEq, eqL])
      (fun n k a hk hP => by
        try dsimp only at hP ⊢
        have hq := sq_lt h (b := k) (by omega)
        rw [sX7_crowdAt_4, fX7_crowdAt_4b]
        by_cases c : (sq S k).testBit s = true
        · refine ⟨?_, ?_⟩
          · simp (disch := (first | assumption | trivial | omega)) only [if_pos c, v_nb7 h, sl7 h, fX7_has, lit, neg1, oI_s, addN, mulN, subN, clN, gdN, ltN, leN, eqN, nIo, oIn, oI_eq, divN, remN, giT, giF, lzE, prE, bdE, smL, smR, shlN, shrN, hasE, andN, orN, bit1, bit0, max7, min7, giTr, giFa, gdp, litL, i2l, addL, mulL, divL, remL, cmLe, cmGt, cmGe, cmEq, eqL]
          · first | trivial | omega | (simp only [if_pos c]; first | trivial | omega)
        · refine ⟨?_, ?_⟩
          · simp (disch := (first | assumption | trivial | omega)) only [if_neg c, v_nb7 h, sl7 h, fX7_has, Nat.add_zero, lit, neg1, oI_s, addN, mulN, subN, clN, gdN, ltN, leN, eqN, nIo, oIn, oI_eq, divN, remN, giT, giF, lzE, prE, bdE, smL, smR, shlN, shrN, hasE, andN, orN, bit1, bit0, max7, min7, giTr, giFa, gdp, litL, i2l, addL, mulL, divL, remL, cmLe, cmGt, cmGe, cmEq, eqL]
          · first | trivial | omega | (simp only [if_neg c]; first | trivial | omega))
  refine ⟨?_, ?_⟩
  · unfold fX7_crowdAt
    simp (disch := (first | assumption | trivial | omega)) only [R7.1, lit, neg1, oI_s, addN, mulN, subN, clN, gdN, ltN, leN, eqN, nIo, oIn, oI_eq, divN, remN, giT, giF, lzE, prE, bdE, smL, smR, shlN, shrN, hasE, andN, orN, bit1, bit0, max7, min7, giTr, giFa, gdp, litL, i2l, addL, mulL, divL, remL, cmLe, cmGt, cmGe, cmEq, eqL]
    rfl
  · have := R7.2
    unfold ca
    omega
theorem ca6 (h : sv S IC IM) (hs : s < 12) {x y z : Int32} : fX6_crowd_20 FU x y z (nI s) (nI 0) (nI 0) IC = some (nI (ca S s)) := by
  have hn := b_nb h
  have R6 := lp_run (fun n k (a : Nat) => fX6_crowd_20 n x y z (nI s) (nI a) (nI k) IC) (S 0 0) (fun k a => if (sq S k).testBit s = true then a + 1 else a) (nI) (fun k a => a ≤ k) 0 (by first | decide | omega) (by omega)
      (fun n a hP => by
        try dsimp only
        rw [sX6_crowd_20, fX6_crowd_20b]
        simp (disch := (first | assumption | trivial | omega)) only [v_nb6 h, lit, neg1, oI_s, addN, mulN, subN, clN, gdN, ltN, leN, eqN, nIo, oIn, oI_eq, divN, remN, giT, giF, lzE, prE, bdE, smL, smR, shlN, shrN, hasE, andN, orN, bit1, bit0, max7, min7, giTr, giFa, gdp, litL, i2l, addL, mulL, divL, remL, cmLe, cmGt, cmGe, cmEq, eqL])
      (fun n k a hk hP => by
        try dsimp only at hP ⊢
        rw [sX6_crowd_20, fX6_crowd_20b]
        by_cases c : (sq S k).testBit s = true
        · refine ⟨?_, ?_⟩
          · simp (disch := (first | assumption | trivial | omega)) only [if_pos c, v_nb6 h, wsl6p h, lit, neg1, oI_s, addN, mulN, subN, clN, gdN, ltN, leN, eqN, nIo, oIn, oI_eq, divN, remN, giT, giF, lzE, prE, bdE, smL, smR, shlN, shrN, hasE, andN, orN, bit1, bit0, max7, min7, giTr, giFa, gdp, litL, i2l, addL, mulL, divL, remL, cmLe, cmGt, cmGe, cmEq, eqL]
          · first | trivial | omega | (simp only [if_pos c]; first | trivial | omega)
        · refine ⟨?_, ?_⟩
          · simp (disch := (first | assumption | trivial | omega)) only [if_neg c, v_nb6 h, wsl6n h, lit, neg1, oI_s, addN, mulN, subN, clN, gdN, ltN, leN, eqN, nIo, oIn, oI_eq, divN, remN, giT, giF, lzE, prE, bdE, smL, smR, shlN, shrN, hasE, andN, orN, bit1, bit0, max7, min7, giTr, giFa, gdp, litL, i2l, addL, mulL, divL, remL, cmLe, cmGt, cmGe, cmEq, eqL]
          · first | trivial | omega | (simp only [if_neg c]; first | trivial | omega))
  exact R6.1
end CR
theorem case_34 : st_34 V0 := by
  intro a1 IC IM JM hV
  obtain ⟨S, h⟩ := view hV
  have R7 := lp_gen (fun n k (a : Nat) => fX7_crowd_4 n (bz a1) (nI a) (nI k) IM) 12 (fun k a => if ca S a < ca S k then k else a) nI (fun k a => a < 12)
    (fun n a hP => by
      try dsimp only
      rw [sX7_crowd_4, fX7_crowd_4b]
      simp (disch := (first | assumption | trivial | omega)) only [lit, neg1, oI_s, addN, mulN, subN, clN, gdN, ltN, leN, eqN, nIo, oIn, oI_eq, divN, remN, giT, giF, lzE, prE, bdE, smL, smR, shlN, shrN, hasE, andN, orN, bit1, bit0, max7, min7, giTr, giFa, gdp, litL, i2l, addL, mulL, divL, remL, cmLe, cmGt, cmGe, cmEq, eqL])
    (fun n k a hk hP => by
      try dsimp only at hP ⊢
      have q1 := ca7 h hk
      have q2 := ca7 h hP
      rw [sX7_crowd_4, fX7_crowd_4b]
      by_cases c : ca S a < ca S k
      · rw [if_pos c]
        refine ⟨?_, by omega⟩
        simp (disch := (first | assumption | trivial | omega)) only [q1.1, q2.1, lit, neg1, oI_s, addN, mulN, subN, clN, gdN, ltN, leN, eqN, nIo, oIn, oI_eq, divN, remN, giT, giF, lzE, prE, bdE, smL, smR, shlN, shrN, hasE, andN, orN, bit1, bit0, max7, min7, giTr, giFa, gdp, litL, i2l, addL, mulL, divL, remL, cmLe, cmGt, cmGe, cmEq, eqL]
      · rw [if_neg c]
        refine ⟨?_, by omega⟩
        simp (disch := (first | assumption | trivial | omega)) only [q1.1, q2.1, lit, neg1, oI_s, addN, mulN, subN, clN, gdN, ltN, leN, eqN, nIo, oIn, oI_eq, divN, remN, giT, giF, lzE, prE, bdE, smL, smR, shlN, shrN, hasE, andN, orN, bit1, bit0, max7, min7, giTr, giFa, gdp, litL, i2l, addL, mulL, divL, remL, cmLe, cmGt, cmGe, cmEq, eqL]) 11 1 0 FU (by decide) (by decide) (by decide)
  have R6 := lp_gen (fun n k (a : Nat) => fX6_crowd_7 n (bz a1) (nI (ca S a)) (nI a) (nI k) IC) 12 (fun k a => if ca S a < ca S k then k else a) (fun a => (nI (ca S a), nI a)) (fun k a => a < 12)
    (fun n a hP => by
      try dsimp only
      rw [sX6_crowd_7, fX6_crowd_7b]
      simp (disch := (first | assumption | trivial | omega)) only [lit, neg1, oI_s, addN, mulN, subN, clN, gdN, ltN, leN, eqN, nIo, oIn, oI_eq, divN, remN, giT, giF, lzE, prE, bdE, smL, smR, shlN, shrN, hasE, andN, orN, bit1, bit0, max7, min7, giTr, giFa, gdp, litL, i2l, addL, mulL, divL, remL, cmLe, cmGt, cmGe, cmEq, eqL])
    (fun n k a hk hP => by
      try dsimp only at hP ⊢
      have q1 := ca7 h hk
      have q2 := ca7 h hP
      rw [sX6_crowd_7, fX6_crowd_7b]
      by_cases c : ca S a < ca S k
      · rw [if_pos c]
        refine ⟨?_, by omega⟩
        simp (disch := (first | assumption | trivial | omega)) only [ca6 h hk, lit, neg1, oI_s, addN, mulN, subN, clN, gdN, ltN, leN, eqN, nIo, oIn, oI_eq, divN, remN, giT, giF, lzE, prE, bdE, smL, smR, shlN, shrN, hasE, andN, orN, bit1, bit0, max7, min7, giTr, giFa, gdp, litL, i2l, addL, mulL, divL, remL, cmLe, cmGt, cmGe, cmEq, eqL]
      · rw [if_neg c]
        refine ⟨?_, by omega⟩
        simp (disch := (first | assumption | trivial | omega)) only [ca6 h hk, lit, neg1, oI_s, addN, mulN, subN, clN, gdN, ltN, leN, eqN, nIo, oIn, oI_eq, divN, remN, giT, giF, lzE, prE, bdE, smL, smR, shlN, shrN, hasE, andN, orN, bit1, bit0, max7, min7, giTr, giFa, gdp, litL, i2l, addL, mulL, divL, remL, cmLe, cmGt, cmGe, cmEq, eqL]) 11 1 0 4999 (by decide) (by decide) (by decide)
  obtain ⟨e7, f7⟩ := R7
  have e6 := R6.1
  try dsimp only at e6 e7 f7
  generalize itr (fun k (a : Nat) => if ca S a < ca S k then k else a) 1 11 0 = v at e6 e7 f7
  have q0 := ca7 h (s := 0) (by decide)
  have e60 : fX6_crowd_7 FU (bz a1) (nI 0) (nI 0) (nI 0) IC = some (nI (ca S v), nI v) := by
    rw [← e6]
    show fX6_crowd_7 (4999 + 1) (bz a1) (nI 0) (nI 0) (nI 0) IC = _
    rw [sX6_crowd_7, fX6_crowd_7b]
    by_cases c : ca S 0 = 0
    · simp (disch := (first | assumption | trivial | omega)) only [ca6 h (show 0 < 12 by decide), lit, neg1, oI_s, addN, mulN, subN, clN, gdN, ltN, leN, eqN, nIo, oIn, oI_eq, divN, remN, giT, giF, lzE, prE, bdE, smL, smR, shlN, shrN, hasE, andN, orN, bit1, bit0, max7, min7, giTr, giFa, gdp, litL, i2l, addL, mulL, divL, remL, cmLe, cmGt, cmGe, cmEq, eqL]
      rw [c]
    · simp (disch := (first | assumption | trivial | omega)) only [ca6 h (show 0 < 12 by decide), lit, neg1, oI_s, addN, mulN, subN, clN, gdN, ltN, leN, eqN, nIo, oIn, oI_eq, divN, remN, giT, giF, lzE, prE, bdE, smL, smR, shlN, shrN, hasE, andN, orN, bit1, bit0, max7, min7, giTr, giFa, gdp, litL, i2l, addL, mulL, divL, remL, cmLe, cmGt, cmGe, cmEq, eqL]
  by_cases cz : bz a1 = nI 0
  · refine ⟨nI (ca S v), ?_, ?_, hV⟩
    · unfold fX6_crowd
      simp (disch := (first | assumption | trivial | omega)) only [e60, lit, neg1, oI_s, addN, mulN, subN, clN, gdN, ltN, leN, eqN, nIo, oIn, oI_eq, divN, remN, giT, giF, lzE, prE, bdE, smL, smR, shlN, shrN, hasE, andN, orN, bit1, bit0, max7, min7, giTr, giFa, gdp, litL, i2l, addL, mulL, divL, remL, cmLe, cmGt, cmGe, cmEq, eqL]
    · unfold fX7_crowd
      simp (disch := (first | assumption | trivial | omega)) only [e7, (ca7 h f7).1, lit, neg1, oI_s, addN, mulN, subN, clN, gdN, ltN, leN, eqN, nIo, oIn, oI_eq, divN, remN, giT, giF, lzE, prE, bdE, smL, smR, shlN, shrN, hasE, andN, orN, bit1, bit0, max7, min7, giTr, giFa, gdp, litL, i2l, addL, mulL, divL, remL, cmLe, cmGt, cmGe, cmEq, eqL]
  · refine ⟨nI v, ?_, ?_, hV⟩
    · unfold fX6_crowd
      simp (disch := (first | assumption | trivial | omega)) only [e60, lit, neg1, oI_s, addN, mulN, subN, clN, gdN, ltN, leN, eqN, nIo, oIn, oI_eq, divN, remN, giT, giF, lzE, prE, bdE, smL, smR, shlN, shrN, hasE, andN, orN, bit1, bit0, max7, min7, giTr, giFa, gdp, litL, i2l, addL, mulL, divL, remL, cmLe, cmGt, cmGe, cmEq, eqL]
    · unfold fX7_crowd
      simp (disch := (first | assumption | trivial | omega)) only [e7, lit, neg1, oI_s, addN, mulN, subN, clN, gdN, ltN, leN, eqN, nIo, oIn, oI_eq, divN, remN, giT, giF, lzE, prE, bdE, smL, smR, shlN, shrN, hasE, andN, orN, bit1, bit0, max7, min7, giTr, giFa, gdp, litL, i2l, addL, mulL, divL, remL, cmLe, cmGt, cmGe, cmEq, eqL]
