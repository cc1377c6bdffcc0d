-- 59: PURE PART: the best packing, who must see, a month ahead (out of wip/whole/pure by pure.py)
/-- the slices taken by the buyers of u below b, if they fit -/
def fk (S : Nat → Nat → Nat) (s u : Nat) : Nat → Option Nat
  | 0 => some 0
  | b + 1 => match fk S s u b with
    | none => none
    | some m => if u.testBit b = true then (if (S 3 b).testBit s = true ∧ m &&& sq S b = 0 then some (m ||| sq S b) else none) else some m
def su (f : Nat → Nat) (u : Nat) : Nat → Nat
  | 0 => 0
  | b + 1 => su f u b + (if u.testBit b = true then f b else 0)
/-- what u brings, one more; 0: it doesn't fit -/
def va (S : Nat → Nat → Nat) (f : Nat → Nat) (s u : Nat) : Nat := match fk S s u (S 0 0) with
  | none => 0
  | some _ => su f u (S 0 0) + 1
theorem fk_none {S : Nat → Nat → Nat} {s u : Nat} {b : Nat} (h : fk S s u b = none) : ∀ j, fk S s u (b + j) = none := by
  intro j
  induction j with
  | zero => exact h
  | succ j ih =>
    show (match fk S s u (b + j) with
      | none => none
      | some m => if u.testBit (b + j) = true then (if (S 3 (b + j)).testBit s = true ∧ m &&& sq S (b + j) = 0 then some (m ||| sq S (b + j)) else none) else some m) = none
    rw [ih]
theorem fk_s {S : Nat → Nat → Nat} {s u b m : Nat} (h : fk S s u b = some m) : fk S s u (b + 1) = if u.testBit b = true then (if (S 3 b).testBit s = true ∧ m &&& sq S b = 0 then some (m ||| sq S b) else none) else some m := by
  show (match fk S s u b with
      | none => none
      | some m => if u.testBit b = true then (if (S 3 b).testBit s = true ∧ m &&& sq S b = 0 then some (m ||| sq S b) else none) else some m) = _
  rw [h]
theorem va_n {S : Nat → Nat → Nat} {f : Nat → Nat} {s u : Nat} (h : fk S s u (S 0 0) = none) : va S f s u = 0 := by
  unfold va
  rw [h]
theorem va_s {S : Nat → Nat → Nat} {f : Nat → Nat} {s u m : Nat} (h : fk S s u (S 0 0) = some m) : va S f s u = su f u (S 0 0) + 1 := by
  unfold va
  rw [h]
theorem fk_0 {S : Nat → Nat → Nat} {s : Nat} : ∀ b, fk S s 0 b = some 0 := by
  intro b
  induction b with
  | zero => rfl
  | succ b ih => rw [fk_s ih, Nat.zero_testBit]; rfl
theorem su_0 {f : Nat → Nat} : ∀ b, su f 0 b = 0 := by
  intro b
  induction b with
  | zero => rfl
  | succ b ih =>
    show su f 0 b + (if (0 : Nat).testBit b = true then f b else 0) = 0
    rw [ih, Nat.zero_testBit]; rfl
theorem su_le {f : Nat → Nat} {u n : Nat} (hf : ∀ b, b < n → f b < 100) : ∀ b, b ≤ n → su f u b ≤ 100 * b := by
  intro b
  induction b with
  | zero => intro _; exact Nat.le_refl _
  | succ b ih =>
    intro hb
    have := ih (by omega)
    have := hf b (by omega)
    show su f u b + (if u.testBit b = true then f b else 0) ≤ 100 * (b + 1)
    by_cases c : u.testBit b = true
    · rw [if_pos c]; omega
    · rw [if_neg c]; omega
theorem su_top {f : Nat → Nat} {u n : Nat} (hu : u < 2 ^ n) : ∀ j, su f u (n + j) = su f u n := by
  intro j
  induction j with
  | zero => rfl
  | succ j ih =>
    show su f u (n + j) + (if u.testBit (n + j) = true then f (n + j) else 0) = _
    have : u < 2 ^ (n + j) := Nat.lt_of_lt_of_le hu (Nat.pow_le_pow_right (by decide) (by omega))
    rw [ih, Nat.testBit_lt_two_pow this]
    rfl
theorem oIle {a b : Nat} (ha : a < 2147483648) (hb : b < 2147483648) : (oI a ≤ oI b) = (a ≤ b) := by
  have e0 : (oI 0).toInt = -1 := by decide
  have es : ∀ k, k < 2147483648 → (oI k).toInt = (k : Int) - 1 := by
    intro k hk
    cases k with
    | zero => rw [e0]; rfl
    | succ k =>
      rw [oI_s, nI_toInt (by omega)]
      omega
  apply propext
  rw [le_toInt, es a ha, es b hb]
  omega
def fC2 (I I' : gI) : Prop := ∀ o, o ≠ 288 → o ≠ 293 → I' o = I o
theorem eqC_2 {I I' : gI} (h : fC2 I I') : eqC I I' := fun o ho => h o (by omega) (by omega)
theorem fC2_f {I I' : gI} (h : fC I I') : fC2 I I' := fun o a _ => h o a
theorem fC2_tr {I1 I2 I3 : gI} (h : fC2 I1 I2) (g : fC2 I2 I3) : fC2 I1 I3 := fun o a b => (g o a b).trans (h o a b)
theorem lik_2 {IC IC' IM IM' : gI} (hC : fC2 IC IC') (hM : fM IM IM') : lik IC IM IC' IM' := ⟨fun o ho => hC o (by omega) (by omega), hM 3 (by omega) (by omega)⟩
theorem sv_2 {S : Nat → Nat → Nat} {IC IC' IM IM' : gI} (h : sv S IC IM) (hC : fC2 IC IC') (hM : fM IM IM') : sv S IC' IM' := sv_eq h (eqC_2 hC) (eqM_f hM)
section BS
variable {S : Nat → Nat → Nat} {bV : Nat → Nat → Nat → Nat} {IC IM : gI} {s u : Nat}
/-- bids for sort s -/
def bf (S : Nat → Nat → Nat) (bV : Nat → Nat → Nat → Nat) (s : Nat) : Nat → Nat := fun b => bV (S 0 2) b s
theorem ft6 (h : sv S IC IM) (hs : s < 5) (hu : u < 64) : ∃ r, fX6_fitTogether (nI u) (nI s) IC = some r ∧ ((r = nI 0 ∧ fk S s u (S 0 0) = none) ∨ (r = nI 1 ∧ ∃ m, fk S s u (S 0 0) = some m)) := by
  have bn := b_nb h
  obtain ⟨r, e, q⟩ := lp_ex (fun n k (m : Nat) => fX6_fitTogether_5 n (nI u) (nI s) (nI m) (nI k) IC) (S 0 0) (fun k m => fk S s u k = some m ∧ m < 4096) (fun r => (r = Sum.inl () ∧ fk S s u (S 0 0) = none) ∨ (r = Sum.inr () ∧ ∃ m, fk S s u (S 0 0) = some m))
    (fun n m hP => by
      try dsimp only at hP ⊢
      refine ⟨Sum.inr (), ?_, Or.inr ⟨rfl, m, hP.1⟩⟩
      rw [sX6_fitTogether_5, fX6_fitTogether_5b]
      simp (disch := (first | assumption | trivial | omega)) only [v_nb6 h, lit, neg1, oI_s, addN, mulN, subN, clN, gdN, ltN, leN, eqN, nIo, oIn, oI_eq, divN, remN, giT, giF, lzE, prE, bdE, smL, smR, shlN, shrN, hasE, andN, orN, bit1, bit0, max7, min7, giTr, giFa, gdp, litL, i2l, addL, mulL, divL, remL, cmLe, cmGt, cmGe, cmEq, eqL])
    (fun n b m hb hP => by
      try dsimp only at hP ⊢
      obtain ⟨p1, p2⟩ := hP
      have hb6 : b < 6 := by omega
      have hs32 : s < 32 := by omega
      have hq := sq_lt h hb6
      have hor : m ||| sq S b < 4096 := Nat.or_lt_two_pow (n := 12) p2 hq
      have hand : m &&& sq S b < 4096 := Nat.lt_of_le_of_lt Nat.and_le_left p2
      have hfk := fk_s p1
      by_cases c : u.testBit b = true
      · rw [if_pos c] at hfk
        by_cases w : (S 3 b).testBit s = true
        · by_cases d : m &&& sq S b = 0
          · right
            rw [if_pos ⟨w, d⟩] at hfk
            refine ⟨m ||| sq S b, ?_, hfk, hor⟩
            rw [sX6_fitTogether_5, fX6_fitTogether_5b]
            simp (disch := (first | assumption | trivial | omega)) only [v_nb6 h, bit1 c, sl6 h, ws6p h hb6 hs32 w, d, lit, neg1, oI_s, addN, mulN, subN, clN, gdN, ltN, leN, eqN, nIo, oIn, oI_eq, divN, remN, giT, giF, lzE, prE, bdE, smL, smR, shlN, shrN, hasE, andN, orN, bit1, bit0, max7, min7, giTr, giFa, gdp, litL, i2l, addL, mulL, divL, remL, cmLe, cmGt, cmGe, cmEq, eqL]
          · left
            rw [if_neg (fun q => d q.2)] at hfk
            refine ⟨Sum.inl (), ?_, Or.inl ⟨rfl, ?_⟩⟩
            · rw [sX6_fitTogether_5, fX6_fitTogether_5b]
              simp (disch := (first | assumption | trivial | omega)) only [v_nb6 h, bit1 c, sl6 h, ws6p h hb6 hs32 w, d, lit, neg1, oI_s, addN, mulN, subN, clN, gdN, ltN, leN, eqN, nIo, oIn, oI_eq, divN, remN, giT, giF, lzE, prE, bdE, smL, smR, shlN, shrN, hasE, andN, orN, bit1, bit0, max7, min7, giTr, giFa, gdp, litL, i2l, addL, mulL, divL, remL, cmLe, cmGt, cmGe, cmEq, eqL]
            · have := fk_none hfk (S 0 0 - (b + 1))
              rw [show b + 1 + (S 0 0 - (b + 1)) = S 0 0 by omega] at this
              exact this
        · left
          rw [if_neg (fun q => w q.1)] at hfk
          refine ⟨Sum.inl (), ?_, Or.inl ⟨rfl, ?_⟩⟩
          · rw [sX6_fitTogether_5, fX6_fitTogether_5b]
            simp (disch := (first | assumption | trivial | omega)) only [v_nb6 h, bit1 c, sl6 h, ws6n h hb6 hs32 w, lit, neg1, oI_s, addN, mulN, subN, clN, gdN, ltN, leN, eqN, nIo, oIn, oI_eq, divN, remN, giT, giF, lzE, prE, bdE, smL, smR, shlN, shrN, hasE, andN, orN, bit1, bit0, max7, min7, giTr, giFa, gdp, litL, i2l, addL, mulL, divL, remL, cmLe, cmGt, cmGe, cmEq, eqL]
          · have := fk_none hfk (S 0 0 - (b + 1))
            rw [show b + 1 + (S 0 0 - (b + 1)) = S 0 0 by omega] at this
            exact this
      · right
        rw [if_neg c] at hfk
        refine ⟨m, ?_, hfk, p2⟩
        rw [sX6_fitTogether_5, fX6_fitTogether_5b]
        simp (disch := (first | assumption | trivial | omega)) only [v_nb6 h, bit0 c, lit, neg1, oI_s, addN, mulN, subN, clN, gdN, ltN, leN, eqN, nIo, oIn, oI_eq, divN, remN, giT, giF, lzE, prE, bdE, smL, smR, shlN, shrN, hasE, andN, orN, bit1, bit0, max7, min7, giTr, giFa, gdp, litL, i2l, addL, mulL, divL, remL, cmLe, cmGt, cmGe, cmEq, eqL]) (S 0 0) 0 0 FU (by omega) ⟨rfl, by decide⟩ (by show _ < 5000; omega)
  have e' : fX6_fitTogether_5 FU (nI u) (nI s) 0 0 IC = some r := e
  rcases q with ⟨rfl, q⟩ | ⟨rfl, q⟩
  · refine ⟨nI 0, ?_, Or.inl ⟨rfl, q⟩⟩
    unfold fX6_fitTogether
    rw [e']
    rfl
  · refine ⟨nI 1, ?_, Or.inr ⟨rfl, q⟩⟩
    unfold fX6_fitTogether
    rw [e']
    rfl
theorem bt6 {f : Nat → Nat} {n : Nat} (hn : n ≤ 6) (hf : ∀ b, b < n → f b < 100) (h293 : ∀ b, b < n → IC 293 b = nI (f b)) (hu : u < 2 ^ n) (hu64 : u < 64) : fX6_bidTogether (nI u) IC = some (nI (su f u n)) := by
  have R := lp_gen (fun q k (a : Nat) => fX6_bidTogether_4 q (nI u) (nI a) (nI k) IC) 6 (fun k a => a + (if u.testBit k = true then f k else 0)) nI (fun k a => a = su f u k ∧ a ≤ 100 * k)
    (fun q a hP => by
      try dsimp only
      rw [sX6_bidTogether_4, fX6_bidTogether_4b]
      simp (disch := (first | assumption | trivial | omega)) only [lit, neg1, oI_s, addN, mulN, subN, clN, gdN, ltN, leN, eqN, nIo, oIn, oI_eq, divN, remN, giT, giF, lzE, prE, bdE, smL, smR, shlN, shrN, hasE, andN, orN, bit1, bit0, max7, min7, giTr, giFa, gdp, litL, i2l, addL, mulL, divL, remL, cmLe, cmGt, cmGe, cmEq, eqL])
    (fun q k a hk hP => by
      try dsimp only at hP ⊢
      by_cases c : u.testBit k = true
      · have hkn : k < n := by
          apply Decidable.byContradiction
          intro z
          have : u < 2 ^ k := Nat.lt_of_lt_of_le hu (Nat.pow_le_pow_right (by decide) (by omega))
          rw [Nat.testBit_lt_two_pow this] at c
          exact absurd c (by decide)
        have e := h293 k hkn
        have hlt := hf k hkn
        refine ⟨?_, ?_, ?_⟩
        · rw [sX6_bidTogether_4, fX6_bidTogether_4b, if_pos c]
          simp (disch := (first | assumption | trivial | omega)) only [bit1 c, e, lit, neg1, oI_s, addN, mulN, subN, clN, gdN, ltN, leN, eqN, nIo, oIn, oI_eq, divN, remN, giT, giF, lzE, prE, bdE, smL, smR, shlN, shrN, hasE, andN, orN, bit1, bit0, max7, min7, giTr, giFa, gdp, litL, i2l, addL, mulL, divL, remL, cmLe, cmGt, cmGe, cmEq, eqL]
        · rw [hP.1]; rfl
        · rw [if_pos c]; omega
      · refine ⟨?_, ?_, ?_⟩
        · rw [sX6_bidTogether_4, fX6_bidTogether_4b, if_neg c]
          simp (disch := (first | assumption | trivial | omega)) only [bit0 c, Nat.add_zero, lit, neg1, oI_s, addN, mulN, subN, clN, gdN, ltN, leN, eqN, nIo, oIn, oI_eq, divN, remN, giT, giF, lzE, prE, bdE, smL, smR, shlN, shrN, hasE, andN, orN, bit1, bit0, max7, min7, giTr, giFa, gdp, litL, i2l, addL, mulL, divL, remL, cmLe, cmGt, cmGe, cmEq, eqL]
        · rw [hP.1]; rfl
        · rw [if_neg c]; omega) 6 0 0 FU rfl ⟨rfl, by omega⟩ (by show _ < 5000; omega)
  obtain ⟨e, p, _⟩ := R
  try dsimp only at e
  have ht := su_top (f := f) hu (6 - n)
  rw [show n + (6 - n) = 6 by omega] at ht
  rw [p, ht] at e
  unfold fX6_bidTogether
  rw [show (0 : Int32) = nI 0 from rfl, e]
  rfl
theorem br7 (h : sv S IC IM) (hbid : ∀ M, fM IM M → bidOK S bV IC M) (hs : s < 5) (hu : u < 64) {M : gI} (hM : fM IM M) (J : gJ) : ∃ M' J', fX7_broughtBy (nI u) (nI s) M J = some (oI (va S (bf S bV s) s u), M', J') ∧ fM IM M' := by
  have bn := b_nb h
  obtain ⟨r, e, q⟩ := lp_ex (fun n k (a : Nat × Nat × gI × gJ) => fX7_broughtBy_8 n (nI u) (nI s) (nI a.1) (nI a.2.1) (nI k) a.2.2.1 a.2.2.2) (S 0 0) (fun k a => fk S s u k = some a.1 ∧ a.1 < 4096 ∧ a.2.1 = su (bf S bV s) u k ∧ a.2.1 ≤ 100 * k ∧ fM IM a.2.2.1) (fun r => (∃ M' J', r = Sum.inl (M', J') ∧ fM IM M' ∧ fk S s u (S 0 0) = none) ∨ (∃ M' J', r = Sum.inr (nI (su (bf S bV s) u (S 0 0)), M', J') ∧ fM IM M' ∧ ∃ m, fk S s u (S 0 0) = some m))
    (fun n a hP => by
      obtain ⟨m, c, M, J⟩ := a
      try dsimp only at hP ⊢
      obtain ⟨p1, p2, p3, p4, p5⟩ := hP
      have g := sv_f h (fC_rf (I := IC)) p5
      refine ⟨_, ?_, Or.inr ⟨M, J, rfl, p5, m, p1⟩⟩
      rw [sX7_broughtBy_8, fX7_broughtBy_8b, ← p3]
      simp (disch := (first | assumption | trivial | omega)) only [v_nb7 g, lit, neg1, oI_s, addN, mulN, subN, clN, gdN, ltN, leN, eqN, nIo, oIn, oI_eq, divN, remN, giT, giF, lzE, prE, bdE, smL, smR, shlN, shrN, hasE, andN, orN, bit1, bit0, max7, min7, giTr, giFa, gdp, litL, i2l, addL, mulL, divL, remL, cmLe, cmGt, cmGe, cmEq, eqL])
    (fun n b a hb hP => by
      obtain ⟨m, c, M, J⟩ := a
      try dsimp only at hP ⊢
      obtain ⟨p1, p2, p3, p4, p5⟩ := hP
      have g := sv_f h (fC_rf (I := IC)) p5
      have hb6 : b < 6 := by omega
      have hs32 : s < 32 := by omega
      have hq := sq_lt h hb6
      have hor : m ||| sq S b < 4096 := Nat.or_lt_two_pow (n := 12) p2 hq
      have hand : m &&& sq S b < 4096 := Nat.lt_of_le_of_lt Nat.and_le_left p2
      have hfk := fk_s p1
      by_cases cb : u.testBit b = true
      · rw [if_pos cb] at hfk
        have hhas : fX7_has (nI u) (nI b) = nI 1 := by
          unfold fX7_has
          simp (disch := (first | assumption | trivial | omega)) only [bit1 cb, lit, neg1, oI_s, addN, mulN, subN, clN, gdN, ltN, leN, eqN, nIo, oIn, oI_eq, divN, remN, giT, giF, lzE, prE, bdE, smL, smR, shlN, shrN, hasE, andN, orN, bit1, bit0, max7, min7, giTr, giFa, gdp, litL, i2l, addL, mulL, divL, remL, cmLe, cmGt, cmGe, cmEq, eqL]
        by_cases w : (S 3 b).testBit s = true
        · by_cases d : m &&& sq S b = 0
          · right
            rw [if_pos ⟨w, d⟩] at hfk
            obtain ⟨hlt, _, e7⟩ := hbid M p5 (S 0 2) b s bn.2.2 hb hs
            obtain ⟨M1, J1, e7, f7⟩ := e7 J
            refine ⟨(m ||| sq S b, c + bV (S 0 2) b s, M1, J1), ?_, hfk, hor, ?_, ?_, fM_tr p5 f7⟩
            · rw [sX7_broughtBy_8, fX7_broughtBy_8b]
              simp (disch := (first | assumption | trivial | omega)) only [v_nb7 g, hhas, dw7p g hb6 hs32 w, sl7 g, d, v_ru7 g, e7, lit, neg1, oI_s, addN, mulN, subN, clN, gdN, ltN, leN, eqN, nIo, oIn, oI_eq, divN, remN, giT, giF, lzE, prE, bdE, smL, smR, shlN, shrN, hasE, andN, orN, bit1, bit0, max7, min7, giTr, giFa, gdp, litL, i2l, addL, mulL, divL, remL, cmLe, cmGt, cmGe, cmEq, eqL]
            · show c + bV (S 0 2) b s = su (bf S bV s) u b + (if u.testBit b = true then bf S bV s b else 0)
              rw [if_pos cb, p3]
              rfl
            · show c + bV (S 0 2) b s ≤ 100 * (b + 1)
              omega
          · left
            rw [if_neg (fun q => d q.2)] at hfk
            refine ⟨_, ?_, Or.inl ⟨M, J, rfl, p5, ?_⟩⟩
            · rw [sX7_broughtBy_8, fX7_broughtBy_8b]
              simp (disch := (first | assumption | trivial | omega)) only [v_nb7 g, hhas, dw7p g hb6 hs32 w, sl7 g, d, lit, neg1, oI_s, addN, mulN, subN, clN, gdN, ltN, leN, eqN, nIo, oIn, oI_eq, divN, remN, giT, giF, lzE, prE, bdE, smL, smR, shlN, shrN, hasE, andN, orN, bit1, bit0, max7, min7, giTr, giFa, gdp, litL, i2l, addL, mulL, divL, remL, cmLe, cmGt, cmGe, cmEq, eqL]
            · have := fk_none hfk (S 0 0 - (b + 1))
              rw [show b + 1 + (S 0 0 - (b + 1)) = S 0 0 by omega] at this
              exact this
        · left
          rw [if_neg (fun q => w q.1)] at hfk
          refine ⟨_, ?_, Or.inl ⟨M, J, rfl, p5, ?_⟩⟩
          · rw [sX7_broughtBy_8, fX7_broughtBy_8b]
            simp (disch := (first | assumption | trivial | omega)) only [v_nb7 g, hhas, dw7n g hb6 hs32 w, lit, neg1, oI_s, addN, mulN, subN, clN, gdN, ltN, leN, eqN, nIo, oIn, oI_eq, divN, remN, giT, giF, lzE, prE, bdE, smL, smR, shlN, shrN, hasE, andN, orN, bit1, bit0, max7, min7, giTr, giFa, gdp, litL, i2l, addL, mulL, divL, remL, cmLe, cmGt, cmGe, cmEq, eqL]
          · have := fk_none hfk (S 0 0 - (b + 1))
            rw [show b + 1 + (S 0 0 - (b + 1)) = S 0 0 by omega] at this
            exact this
      · right
        rw [if_neg cb] at hfk
        have hhas : fX7_has (nI u) (nI b) = nI 0 := by
          unfold fX7_has
          simp (disch := (first | assumption | trivial | omega)) only [bit0 cb, lit, neg1, oI_s, addN, mulN, subN, clN, gdN, ltN, leN, eqN, nIo, oIn, oI_eq, divN, remN, giT, giF, lzE, prE, bdE, smL, smR, shlN, shrN, hasE, andN, orN, bit1, bit0, max7, min7, giTr, giFa, gdp, litL, i2l, addL, mulL, divL, remL, cmLe, cmGt, cmGe, cmEq, eqL]
        refine ⟨(m, c, M, J), ?_, hfk, p2, ?_, ?_, p5⟩
        · rw [sX7_broughtBy_8, fX7_broughtBy_8b]
          simp (disch := (first | assumption | trivial | omega)) only [v_nb7 g, hhas, lit, neg1, oI_s, addN, mulN, subN, clN, gdN, ltN, leN, eqN, nIo, oIn, oI_eq, divN, remN, giT, giF, lzE, prE, bdE, smL, smR, shlN, shrN, hasE, andN, orN, bit1, bit0, max7, min7, giTr, giFa, gdp, litL, i2l, addL, mulL, divL, remL, cmLe, cmGt, cmGe, cmEq, eqL]
        · show c = su (bf S bV s) u b + (if u.testBit b = true then bf S bV s b else 0)
          rw [if_neg cb, p3]
          rfl
        · show c ≤ 100 * (b + 1)
          omega) (S 0 0) 0 (0, 0, M, J) FU (by omega) ⟨rfl, (by decide : 0 < 4096), rfl, (by omega : 0 ≤ 100 * 0), hM⟩ (by show _ < 5000; omega)
  have e' : fX7_broughtBy_8 FU (nI u) (nI s) 0 0 0 M J = some r := e
  unfold fX7_broughtBy
  rw [e']
  rcases q with ⟨M', J', rfl, f, q⟩ | ⟨M', J', rfl, f, m, q⟩
  · refine ⟨M', J', ?_, f⟩
    rw [va_n q]
    rfl
  · refine ⟨M', J', ?_, f⟩
    rw [va_s q]
    rfl
end BS
/-- both find the same best set (one more; 0: none) -/
theorem best67 {S : Nat → Nat → Nat} {bV : Nat → Nat → Nat → Nat} {IC IM : gI} (h : sv S IC IM) (hbid : ∀ C M, sv S C M → lik IC IM C M → bidOK S bV C M) {mask s : Nat} (hs : s < 5) (hm : mask < 2 ^ S 0 0) (J : gJ) : ∃ (a : Nat) (C M : gI) (J' : gJ), fX6_bestSet (nI mask) (nI s) IC = some (oI a, C) ∧ fX7_bestSet (nI mask) (nI s) IM J = some (oI a, M, J') ∧ fC2 IC C ∧ fM IM M ∧ (∀ b, b < S 0 0 → C 293 b = nI (bf S bV s b)) ∧ (mask = 0 → 0 < a) ∧ (a = 0 ∨ (a - 1 < 2 ^ S 0 0 ∧ va S (bf S bV s) s (a - 1) = su (bf S bV s) (a - 1) (S 0 0) + 1)) ∧ a ≤ 64 := by
  have bn := b_nb h
  have hp64 : 2 ^ S 0 0 ≤ 64 := by
    have z : 2 ^ S 0 0 ≤ 2 ^ 6 := Nat.pow_le_pow_right (by decide) bn.1
    exact z
  have hbf : ∀ b, b < S 0 0 → bf S bV s b < 100 := fun b hb => (hbid _ _ h lik_rf (S 0 2) b s bn.2.2 hb hs).1
  obtain ⟨C, e1, fc, q293⟩ := lp_ex (fun n k (a : gI) => fX6_bestSet_2 n (nI mask) (nI s) (nI k) a) (S 0 0) (fun k a => fC2 IC a ∧ ∀ b, b < k → a 293 b = nI (bf S bV s b)) (fun a => fC2 IC a ∧ ∀ b, b < S 0 0 → a 293 b = nI (bf S bV s b))
    (fun n a hP => by
      try dsimp only at hP ⊢
      have g := sv_2 h hP.1 (fM_rf (I := IM))
      refine ⟨a, ?_, hP⟩
      rw [sX6_bestSet_2, fX6_bestSet_2b]
      simp (disch := (first | assumption | trivial | omega)) only [v_nb6 g, lit, neg1, oI_s, addN, mulN, subN, clN, gdN, ltN, leN, eqN, nIo, oIn, oI_eq, divN, remN, giT, giF, lzE, prE, bdE, smL, smR, shlN, shrN, hasE, andN, orN, bit1, bit0, max7, min7, giTr, giFa, gdp, litL, i2l, addL, mulL, divL, remL, cmLe, cmGt, cmGe, cmEq, eqL])
    (fun n b a hb hP => by
      try dsimp only at hP ⊢
      right
      have g := sv_2 h hP.1 (fM_rf (I := IM))
      have hb6 : b < 6 := by omega
      obtain ⟨_, ⟨C1, e6, f6⟩, _⟩ := hbid _ _ g (lik_2 hP.1 fM_rf) (S 0 2) b s bn.2.2 hb hs
      refine ⟨wI C1 293 b (nI (bf S bV s b)), ?_, fun o h1 h2 => by rw [wI_o h2, f6 o h1]; exact hP.1 o h1 h2, fun j hj => ?_⟩
      · rw [sX6_bestSet_2, fX6_bestSet_2b]
        simp (disch := (first | assumption | trivial | omega)) only [v_nb6 g, v_ru6 g, e6, lit, neg1, oI_s, addN, mulN, subN, clN, gdN, ltN, leN, eqN, nIo, oIn, oI_eq, divN, remN, giT, giF, lzE, prE, bdE, smL, smR, shlN, shrN, hasE, andN, orN, bit1, bit0, max7, min7, giTr, giFa, gdp, litL, i2l, addL, mulL, divL, remL, cmLe, cmGt, cmGe, cmEq, eqL]
        rfl
      · by_cases e : j = b
        · subst e; exact wI_eq
        · rw [wI_ne (by omega), f6 293 (by omega)]; exact hP.2 j (by omega)) (S 0 0) 0 IC FU (by omega) ⟨fun _ _ _ => rfl, fun b hb => absurd hb (by omega)⟩ (by show _ < 5000; omega)
  have g0 := sv_2 h fc (fM_rf (I := IM))
  have hyb : ∀ u, va S (bf S bV s) s u ≤ 601 := by
    intro u
    cases c : fk S s u (S 0 0) with
    | none => rw [va_n c]; omega
    | some m =>
      rw [va_s c]
      have := su_le (u := u) hbf (S 0 0) (Nat.le_refl _)
      omega
  obtain ⟨r6, r7, e6, e7, a, M, J', x6, x7, f7, y1, y2, y3⟩ := lp_2 (fun n k (a : Nat × gI × gJ) => fX6_bestSet_46 n (nI mask) (nI s) (oI a.1) (oI (if a.1 = 0 then 0 else va S (bf S bV s) s (a.1 - 1))) (nI k) C) (fun n k (a : Nat × gI × gJ) => fX7_bestSet_5 n (nI mask) (nI s) (oI a.1) (nI k) a.2.1 a.2.2) (2 ^ S 0 0)
    (fun k a => a.1 ≤ k ∧ fM IM a.2.1 ∧ (0 < k → mask = 0 → 0 < a.1) ∧ (a.1 = 0 ∨ ∃ m, fk S s (a.1 - 1) (S 0 0) = some m)) (fun r6 r7 => ∃ (a : Nat) (M : gI) (J : gJ), r6 = oI a ∧ r7 = (oI a, M, J) ∧ fM IM M ∧ (mask = 0 → 0 < a) ∧ a ≤ 2 ^ S 0 0 ∧ (a = 0 ∨ ∃ m, fk S s (a - 1) (S 0 0) = some m))
    (fun n a hP => by
      obtain ⟨a, M, J⟩ := a
      try dsimp only at hP ⊢
      obtain ⟨p1, p2, p3, p4⟩ := hP
      have g := sv_f h (fC_rf (I := IC)) p2
      have hpos : 0 < 2 ^ S 0 0 := Nat.pow_pos (by decide)
      refine ⟨oI a, (oI a, M, J), ?_, ?_, a, M, J, rfl, rfl, p2, p3 hpos, p1, p4⟩
      · rw [sX6_bestSet_46, fX6_bestSet_46b]
        simp (disch := (first | assumption | trivial | omega)) only [v_nb6 g0, Nat.one_mul, Nat.le_refl, lit, neg1, oI_s, addN, mulN, subN, clN, gdN, ltN, leN, eqN, nIo, oIn, oI_eq, divN, remN, giT, giF, lzE, prE, bdE, smL, smR, shlN, shrN, hasE, andN, orN, bit1, bit0, max7, min7, giTr, giFa, gdp, litL, i2l, addL, mulL, divL, remL, cmLe, cmGt, cmGe, cmEq, eqL]
      · rw [sX7_bestSet_5, fX7_bestSet_5b]
        simp (disch := (first | assumption | trivial | omega)) only [v_nb7 g, Nat.one_mul, Nat.le_refl, lit, neg1, oI_s, addN, mulN, subN, clN, gdN, ltN, leN, eqN, nIo, oIn, oI_eq, divN, remN, giT, giF, lzE, prE, bdE, smL, smR, shlN, shrN, hasE, andN, orN, bit1, bit0, max7, min7, giTr, giFa, gdp, litL, i2l, addL, mulL, divL, remL, cmLe, cmGt, cmGe, cmEq, eqL])
    (fun n k a hk hP => by
      obtain ⟨a, M, J⟩ := a
      try dsimp only at hP ⊢
      right
      obtain ⟨p1, p2, p3, p4⟩ := hP
      have g := sv_f h (fC_rf (I := IC)) p2
      have hk64 : k < 64 := by omega
      have hm64 : mask < 64 := by omega
      have hnk : ¬ 2 ^ S 0 0 ≤ k := by omega
      have hland : k &&& mask < 64 := Nat.lt_of_le_of_lt Nat.and_le_left hk64
      have hann : mask &&& (4294967295 - k) < 64 := Nat.lt_of_le_of_lt Nat.and_le_left hm64
      have hz := andn_z (r := mask) (f := k) (by omega) (by omega)
      by_cases cm : k &&& mask = mask
      · have cz : mask &&& (4294967295 - k) = 0 := hz.mpr cm
        obtain ⟨M1, J1, d1, f1⟩ := br7 (bV := bV) h (fun M hM => hbid _ _ (sv_f h fC_rf hM) (lik_f fC_rf hM)) hs hk64 p2 J
        -- what stands now
        obtain ⟨M2, J2, d2, f2⟩ : ∃ M2 J2, (gi (oI a = oI 0) (some (oI 0, M1, J1)) (fX7_broughtBy (oI a) (nI s) M1 J1)) = some (oI (if a = 0 then 0 else va S (bf S bV s) s (a - 1)), M2, J2) ∧ fM IM M2 := by
          by_cases ca : a = 0
          · subst ca
            exact ⟨M1, J1, by rw [gi_pos rfl, if_pos rfl], f1⟩
          · obtain ⟨M2, J2, d2, f2⟩ := br7 (u := a - 1) (bV := bV) h (fun M hM => hbid _ _ (sv_f h fC_rf hM) (lik_f fC_rf hM)) hs (by omega) f1 J1
            refine ⟨M2, J2, ?_, f2⟩
            rw [gi_neg (fun e => ca ((oI_eq (by omega) (by omega)).mp e)), if_neg ca, ← oIp (by omega : 0 < a)]
            exact d2
        have hy1 := hyb k
        have hy2 : (if a = 0 then 0 else va S (bf S bV s) s (a - 1)) ≤ 601 := by
          by_cases ca : a = 0
          · rw [if_pos ca]; omega
          · rw [if_neg ca]; exact hyb _
        generalize hy : (if a = 0 then 0 else va S (bf S bV s) s (a - 1)) = y at d2 hy2 ⊢
        -- the reference's turn
        have t7 : fX7_bestSet_5 (n + 1) (nI mask) (nI s) (oI a) (nI k) M J = fX7_bestSet_5 n (nI mask) (nI s) (oI (if va S (bf S bV s) s k ≤ y then a else k + 1)) (nI (k + 1)) M2 J2 := by
          rw [sX7_bestSet_5, fX7_bestSet_5b]
          have d2' : a = 0 ∨ ¬ a = 0 := by omega
          by_cases cv : va S (bf S bV s) s k ≤ y
          · rw [if_pos cv]
            rcases d2' with ca | ca
            · subst ca
              rw [gi_pos rfl] at d2
              have d3 := Option.some.inj d2
              have d4 : y = 0 := (oI_eq (by omega) (by omega)).mp (congrArg Prod.fst d3).symm
              have d5 : (M1, J1) = (M2, J2) := congrArg Prod.snd d3
              obtain ⟨rfl, rfl⟩ := Prod.mk.inj d5
              subst d4
              simp (disch := (first | assumption | trivial | omega)) only [v_nb7 g, Nat.one_mul, hnk, notN', cz, d1, oIle, cv, lit, neg1, oI_s, addN, mulN, subN, clN, gdN, ltN, leN, eqN, nIo, oIn, oI_eq, divN, remN, giT, giF, lzE, prE, bdE, smL, smR, shlN, shrN, hasE, andN, orN, bit1, bit0, max7, min7, giTr, giFa, gdp, litL, i2l, addL, mulL, divL, remL, cmLe, cmGt, cmGe, cmEq, eqL]
            · rw [gi_neg (fun e => ca ((oI_eq (by omega) (by omega)).mp e))] at d2
              simp (disch := (first | assumption | trivial | omega)) only [v_nb7 g, Nat.one_mul, hnk, notN', cz, d1, oIle, cv, d2, ca, lit, neg1, oI_s, addN, mulN, subN, clN, gdN, ltN, leN, eqN, nIo, oIn, oI_eq, divN, remN, giT, giF, lzE, prE, bdE, smL, smR, shlN, shrN, hasE, andN, orN, bit1, bit0, max7, min7, giTr, giFa, gdp, litL, i2l, addL, mulL, divL, remL, cmLe, cmGt, cmGe, cmEq, eqL]
          · rw [if_neg cv]
            rcases d2' with ca | ca
            · subst ca
              rw [gi_pos rfl] at d2
              have d3 := Option.some.inj d2
              have d4 : y = 0 := (oI_eq (by omega) (by omega)).mp (congrArg Prod.fst d3).symm
              have d5 : (M1, J1) = (M2, J2) := congrArg Prod.snd d3
              obtain ⟨rfl, rfl⟩ := Prod.mk.inj d5
              subst d4
              simp (disch := (first | assumption | trivial | omega)) only [v_nb7 g, Nat.one_mul, hnk, notN', cz, d1, oIle, cv, lit, neg1, oI_s, addN, mulN, subN, clN, gdN, ltN, leN, eqN, nIo, oIn, oI_eq, divN, remN, giT, giF, lzE, prE, bdE, smL, smR, shlN, shrN, hasE, andN, orN, bit1, bit0, max7, min7, giTr, giFa, gdp, litL, i2l, addL, mulL, divL, remL, cmLe, cmGt, cmGe, cmEq, eqL]
            · rw [gi_neg (fun e => ca ((oI_eq (by omega) (by omega)).mp e))] at d2
              simp (disch := (first | assumption | trivial | omega)) only [v_nb7 g, Nat.one_mul, hnk, notN', cz, d1, oIle, cv, d2, ca, lit, neg1, oI_s, addN, mulN, subN, clN, gdN, ltN, leN, eqN, nIo, oIn, oI_eq, divN, remN, giT, giF, lzE, prE, bdE, smL, smR, shlN, shrN, hasE, andN, orN, bit1, bit0, max7, min7, giTr, giFa, gdp, litL, i2l, addL, mulL, divL, remL, cmLe, cmGt, cmGe, cmEq, eqL]
        obtain ⟨r, e6, q6⟩ := ft6 (u := k) g0 hs hk64
        rcases q6 with ⟨rfl, q6⟩ | ⟨rfl, m, q6⟩
        · -- it doesn't fit
          have hv := va_n (f := bf S bV s) q6
          rw [hv, if_pos (Nat.zero_le _)] at t7
          refine ⟨(a, M2, J2), ?_, t7, by omega, f2, fun _ hm0 => ?_, p4⟩
          · rw [sX6_bestSet_46, fX6_bestSet_46b, hy]
            simp (disch := (first | assumption | trivial | omega)) only [v_nb6 g0, Nat.one_mul, hnk, cm, e6, lit, neg1, oI_s, addN, mulN, subN, clN, gdN, ltN, leN, eqN, nIo, oIn, oI_eq, divN, remN, giT, giF, lzE, prE, bdE, smL, smR, shlN, shrN, hasE, andN, orN, bit1, bit0, max7, min7, giTr, giFa, gdp, litL, i2l, addL, mulL, divL, remL, cmLe, cmGt, cmGe, cmEq, eqL]
          · by_cases ck : 0 < k
            · exact p3 ck hm0
            · exfalso
              have : k = 0 := by omega
              subst this
              rw [fk_0] at q6
              exact absurd q6 (by simp)
        · have hv := va_s (f := bf S bV s) q6
          have hbt := bt6 (u := k) (IC := C) (f := bf S bV s) bn.1 hbf q293 hk hk64
          have hsu := su_le (u := k) hbf (S 0 0) (Nat.le_refl _)
          have hcmp : (nI (su (bf S bV s) k (S 0 0)) ≤ oI y) = (va S (bf S bV s) s k ≤ y) := by
            rw [hv, ← oIle (by omega) (by omega), oI_s]
          by_cases cv : va S (bf S bV s) s k ≤ y
          · rw [if_pos cv] at t7
            refine ⟨(a, M2, J2), ?_, t7, by omega, f2, fun _ hm0 => ?_, p4⟩
            · rw [sX6_bestSet_46, fX6_bestSet_46b, hy]
              simp (disch := (first | assumption | trivial | omega)) only [v_nb6 g0, Nat.one_mul, hnk, cm, e6, hbt, hcmp, cv, lit, neg1, oI_s, addN, mulN, subN, clN, gdN, ltN, leN, eqN, nIo, oIn, oI_eq, divN, remN, giT, giF, lzE, prE, bdE, smL, smR, shlN, shrN, hasE, andN, orN, bit1, bit0, max7, min7, giTr, giFa, gdp, litL, i2l, addL, mulL, divL, remL, cmLe, cmGt, cmGe, cmEq, eqL]
            · apply Decidable.byContradiction
              intro ca
              have : a = 0 := by omega
              rw [if_pos this] at hy
              omega
          · rw [if_neg cv] at t7
            refine ⟨(k + 1, M2, J2), ?_, t7, Nat.le_refl _, f2, fun _ _ => Nat.succ_pos k, Or.inr ⟨m, q6⟩⟩
            rw [sX6_bestSet_46, fX6_bestSet_46b]
            try dsimp only
            rw [if_neg (by omega), Nat.add_sub_cancel, hv]
            simp (disch := (first | assumption | trivial | omega)) only [v_nb6 g0, Nat.one_mul, hnk, cm, e6, hbt, hcmp, cv, lit, neg1, oI_s, addN, mulN, subN, clN, gdN, ltN, leN, eqN, nIo, oIn, oI_eq, divN, remN, giT, giF, lzE, prE, bdE, smL, smR, shlN, shrN, hasE, andN, orN, bit1, bit0, max7, min7, giTr, giFa, gdp, litL, i2l, addL, mulL, divL, remL, cmLe, cmGt, cmGe, cmEq, eqL]
      · have cz : ¬ mask &&& (4294967295 - k) = 0 := fun e => cm (hz.mp e)
        refine ⟨(a, M, J), ?_, ?_, by omega, p2, fun _ hm0 => ?_, p4⟩
        · rw [sX6_bestSet_46, fX6_bestSet_46b]
          simp (disch := (first | assumption | trivial | omega)) only [v_nb6 g0, Nat.one_mul, hnk, cm, lit, neg1, oI_s, addN, mulN, subN, clN, gdN, ltN, leN, eqN, nIo, oIn, oI_eq, divN, remN, giT, giF, lzE, prE, bdE, smL, smR, shlN, shrN, hasE, andN, orN, bit1, bit0, max7, min7, giTr, giFa, gdp, litL, i2l, addL, mulL, divL, remL, cmLe, cmGt, cmGe, cmEq, eqL]
        · rw [sX7_bestSet_5, fX7_bestSet_5b]
          simp (disch := (first | assumption | trivial | omega)) only [v_nb7 g, Nat.one_mul, hnk, notN', cz, lit, neg1, oI_s, addN, mulN, subN, clN, gdN, ltN, leN, eqN, nIo, oIn, oI_eq, divN, remN, giT, giF, lzE, prE, bdE, smL, smR, shlN, shrN, hasE, andN, orN, bit1, bit0, max7, min7, giTr, giFa, gdp, litL, i2l, addL, mulL, divL, remL, cmLe, cmGt, cmGe, cmEq, eqL]
        · exfalso
          apply cm
          rw [hm0, Nat.and_zero]) (2 ^ S 0 0) 0 (0, IM, J) FU (by omega) ⟨Nat.le_refl 0, fM_rf, fun q => absurd q (by omega), Or.inl rfl⟩ (by show _ < 5000; omega)
  have e1' : fX6_bestSet_2 FU (nI mask) (nI s) 0 IC = some C := e1
  have e6' : fX6_bestSet_46 FU (nI mask) (nI s) (oI 0) (oI 0) 0 C = some r6 := e6
  have e7' : fX7_bestSet_5 FU (nI mask) (nI s) (oI 0) 0 IM J = some r7 := e7
  rw [x6] at e6'
  rw [x7] at e7'
  refine ⟨a, C, M, J', ?_, ?_, fc, f7, q293, y1, ?_, by omega⟩
  · unfold fX6_bestSet
    rw [e1', bdE, show (-1 : Int32) = oI 0 from rfl, e6']
    rfl
  · unfold fX7_bestSet
    rw [show (-1 : Int32) = oI 0 from rfl, e7']
    rfl
  · rcases y3 with y3 | ⟨m, y3⟩
    · exact Or.inl y3
    · by_cases c : a = 0
      · exact Or.inl c
      · exact Or.inr ⟨by omega, va_s y3⟩
