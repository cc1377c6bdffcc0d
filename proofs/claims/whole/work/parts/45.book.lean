-- 45: PURE PART: the book, a wall made anew (out of wip/whole/pure by pure.py)
/-- other numbers at i -/
def ub (S : Nat → Nat → Nat) (i : Nat) (f : Nat → Nat) : Nat → Nat → Nat := fun a b => if a = i then f b else S a b
theorem ub_eq {S : Nat → Nat → Nat} {i k : Nat} {f : Nat → Nat} : ub S i f i k = f k := if_pos rfl
theorem ub_ne {S : Nat → Nat → Nat} {i j k : Nat} {f : Nat → Nat} (h : j ≠ i) : ub S i f j k = S j k := if_neg h
/-- the day's numbers but one -/
def u10 (S : Nat → Nat → Nat) (k v : Nat) : Nat → Nat → Nat := ub S 10 (fun j => if j = k then v else S 10 j)
theorem u10_eq {S : Nat → Nat → Nat} {k v : Nat} : u10 S k v 10 k = v := (ub_eq).trans (if_pos rfl)
theorem u10_ne {S : Nat → Nat → Nat} {i k j v : Nat} (h : ¬ (i = 10 ∧ j = k)) : u10 S k v i j = S i j := by
  unfold u10
  by_cases c : i = 10
  · subst c
    rw [ub_eq, if_neg (fun e => h ⟨rfl, e⟩)]
  · exact ub_ne c
def lnv (S : Nat → Nat → Nat) (w : Nat) (IC IM : gI) : Prop := S 10 4 < 26 ∧ IM 1 10 = nI (S 10 4) ∧ IC w 3 = nI (S 10 4) ∧ ∀ i, i < S 10 4 → rLine (IC (w + 3) i) (IM 1 (1567 + i))
def wq (S : Nat → Nat → Nat) (w : Nat) (IC IM : gI) : Prop :=
  (S 10 0 < 10000 ∧ S 10 1 < 31039 ∧ S 10 2 < 100000 ∧ S 10 3 < 5 ∧ S 10 5 < 4096) ∧
  (IM 1 6 = nI (S 10 0) ∧ IC w 7 = nI (S 10 0) ∧ IM 1 7 = nI (S 10 1) ∧ IC w 8 = nI (S 10 1) ∧ IM 1 8 = nI (S 10 2) ∧ IC w 6 = nI (S 10 2) ∧ IM 1 9 = nI (S 10 3) ∧ IC w 5 = nI (S 10 3) ∧ IC w 4 = nI (S 10 5)) ∧
  (∀ s, s < 12 → (S 11 s ≤ S 0 0 ∨ S 11 s = 7) ∧ IM 1 (11 + s) = oI (S 11 s) ∧ ((S 10 5).testBit s = true ↔ S 11 s = 0)) ∧
  (∀ b, b < 6 → S 12 b < 4096 ∧ IC (w + 2) b = nI (S 12 b) ∧ ∀ s, s < 12 → ((S 12 b).testBit s = true ↔ S 11 s = b + 1)) ∧
  (∀ b, b < 6 → S 13 b < 1000 ∧ IM 1 (23 + b) = nI (S 13 b) ∧ IC (w + 1) b = nI (S 13 b))
theorem wv_join {S : Nat → Nat → Nat} {w : Nat} {IC IM : gI} (h : wq S w IC IM) (l : lnv S w IC IM) : wv S w IC IM := by
  obtain ⟨⟨a0, a1, a2, a3, a5⟩, ⟨b1, b2, b3, b4, b5, b6, b7, b8, b9⟩, c, d, e⟩ := h
  obtain ⟨l1, l2, l3, l4⟩ := l
  exact ⟨⟨a0, a1, a2, a3, l1, a5⟩, ⟨b1, b2, b3, b4, b5, b6, b7, b8, l2, l3, b9⟩, c, d, e, l4⟩
theorem wv_q {S : Nat → Nat → Nat} {w : Nat} {IC IM : gI} (h : wv S w IC IM) : wq S w IC IM := by
  obtain ⟨⟨a0, a1, a2, a3, l1, a5⟩, ⟨b1, b2, b3, b4, b5, b6, b7, b8, l2, l3, b9⟩, c, d, e, l4⟩ := h
  exact ⟨⟨a0, a1, a2, a3, a5⟩, ⟨b1, b2, b3, b4, b5, b6, b7, b8, b9⟩, c, d, e⟩
theorem wv_l {S : Nat → Nat → Nat} {w : Nat} {IC IM : gI} (h : wv S w IC IM) : lnv S w IC IM := by
  obtain ⟨⟨a0, a1, a2, a3, l1, a5⟩, ⟨b1, b2, b3, b4, b5, b6, b7, b8, l2, l3, b9⟩, c, d, e, l4⟩ := h
  exact ⟨l1, l2, l3, l4⟩
theorem ln_or {d k x q : Nat} (hk : k < 8) (hx : x < 16) (hq : q < 128) : ((d * 16384 ||| k * 2048) ||| x * 128) ||| q = ((d * 8 + k) * 16 + x) * 128 + q := by
  have e1 := Nat.two_pow_add_eq_or_of_lt (b := k * 2048) (i := 14) (by omega) d
  have e2 := Nat.two_pow_add_eq_or_of_lt (b := x * 128) (i := 11) (by omega) (d * 8 + k)
  have e3 := Nat.two_pow_add_eq_or_of_lt (b := q) (i := 7) (by omega) ((d * 8 + k) * 16 + x)
  rw [show (2 : Nat) ^ 14 = 16384 from rfl, Nat.mul_comm 16384 d] at e1
  rw [show (2 : Nat) ^ 11 = 2048 from rfl] at e2
  rw [show (2 : Nat) ^ 7 = 128 from rfl] at e3
  rw [← e1, show d * 16384 + k * 2048 = 2048 * (d * 8 + k) by omega, ← e2, show 2048 * (d * 8 + k) + x * 128 = 128 * ((d * 8 + k) * 16 + x) by omega, ← e3]
  omega
section BK
variable {S : Nat → Nat → Nat} {IC IM : gI} {JM : gJ} {w n d k x q : Nat}
/-- the class writes a line -/
theorem wr6 (hn : IC w 3 = nI n) (hn' : n < 26) (h7 : IC w 7 = nI d) (hd : d < 10000) (hk : k < 5) (hx : x < 12) (hq : q < 100) : ∃ IC' m, fX5_writeDown w (nI k) (nI x) (nI q) IC = some IC' ∧ (∀ o, o ≠ w → o ≠ w + 3 → IC' o = IC o) ∧ (∀ j, j ≠ 3 → IC' w j = IC w j) ∧ m < 25 ∧ IC' w 3 = nI (m + 1) ∧ IC' (w + 3) m = nI (((d * 8 + k) * 16 + x) * 128 + q) ∧ ((n < 25 ∧ m = n ∧ ∀ j, j < n → IC' (w + 3) j = IC (w + 3) j) ∨ (n = 25 ∧ m = 24 ∧ ∀ j, j < 24 → IC' (w + 3) j = IC (w + 3) (j + 1))) := by
  by_cases c : n < 25
  · refine ⟨wI (wI IC (w + 3) n (nI (((d * 8 + k) * 16 + x) * 128 + q))) w 3 (nI (n + 1)), n, ?_, fun o h1 h2 => ?_, fun j hj => ?_, c, wI_eq, ?_, Or.inl ⟨c, rfl, fun j hj => ?_⟩⟩
    · unfold fX5_writeDown
      simp (disch := (first | assumption | trivial | omega)) only [hn, h7, wI_ne, ln_or (d := d) (show k < 8 by omega) (show x < 16 by omega) (show q < 128 by omega), lit, neg1, oI_s, addN, mulN, subN, clN, gdN, ltN, leN, eqN, nIo, oIn, oI_eq, divN, remN, giT, giF, lzE, prE, bdE, smL, smR, shlN, shrN, hasE, andN, orN, bit1, bit0, max7, min7, giTr, giFa, gdp, litL, i2l, addL, mulL, divL, remL, cmLe, cmGt, cmGe, cmEq, eqL]
    · rw [wI_o h1, wI_o h2]
    · rw [wI_ne (by omega), wI_o (by omega)]
    · rw [wI_o (by omega), wI_eq]
    · rw [wI_o (by omega), wI_ne (by omega)]
  · refine ⟨wI (wI (wI (cpI IC (w + 3) 1 (w + 3) 0 24) w 3 (nI 24)) (w + 3) 24 (nI (((d * 8 + k) * 16 + x) * 128 + q))) w 3 (nI 25), 24, ?_, fun o h1 h2 => ?_, fun j hj => ?_, by omega, wI_eq, ?_, Or.inr ⟨by omega, rfl, fun j hj => ?_⟩⟩
    · unfold fX5_writeDown
      simp (disch := (first | assumption | trivial | omega)) only [hn, h7, wI_ne, wI_eq, cp_o, ln_or (d := d) (show k < 8 by omega) (show x < 16 by omega) (show q < 128 by omega), lit, neg1, oI_s, addN, mulN, subN, clN, gdN, ltN, leN, eqN, nIo, oIn, oI_eq, divN, remN, giT, giF, lzE, prE, bdE, smL, smR, shlN, shrN, hasE, andN, orN, bit1, bit0, max7, min7, giTr, giFa, gdp, litL, i2l, addL, mulL, divL, remL, cmLe, cmGt, cmGe, cmEq, eqL]
    · rw [wI_o h1, wI_o h2, wI_o h1, cp_o h2]
    · rw [wI_ne (by omega), wI_o (by omega), wI_ne (by omega), cp_o (by omega)]
    · rw [wI_o (by omega), wI_eq]
    · rw [wI_o (by omega), wI_ne (by omega), wI_o (by omega), cp_in (by omega) (by omega)]
      rw [show 1 + (j - 0) = j + 1 by omega]
theorem wr7_0 (h0 : IM 0 23 = nI 0) : fX7_write (nI k) (nI x) (nI q) IM = some IM := by
  unfold fX7_write
  rw [h0]
  simp (disch := (first | assumption | trivial | omega)) only [lit, neg1, oI_s, addN, mulN, subN, clN, gdN, ltN, leN, eqN, nIo, oIn, oI_eq, divN, remN, giT, giF, lzE, prE, bdE, smL, smR, shlN, shrN, hasE, andN, orN, bit1, bit0, max7, min7, giTr, giFa, gdp, litL, i2l, addL, mulL, divL, remL, cmLe, cmGt, cmGe, cmEq, eqL]
theorem wr7 (h0 : IM 0 23 = nI 1) (hn : IM 1 10 = nI n) (hn' : n < 26) (h7 : IM 1 6 = nI d) (hd : d < 10000) (hk : k < 5) (hx : x < 12) (hq : q < 100) : ∃ IM' m, fX7_write (nI k) (nI x) (nI q) IM = some IM' ∧ (∀ o, o ≠ 1 → IM' o = IM o) ∧ (∀ j, j ≠ 10 → j < 1567 → IM' 1 j = IM 1 j) ∧ m < 25 ∧ IM' 1 10 = nI (m + 1) ∧ IM' 1 (1567 + m) = nI (((d * 5 + k) * 12 + x) * 100 + q) ∧ ((n < 25 ∧ m = n ∧ ∀ j, j < n → IM' 1 (1567 + j) = IM 1 (1567 + j)) ∨ (n = 25 ∧ m = 24 ∧ ∀ j, j < 24 → IM' 1 (1567 + j) = IM 1 (1567 + (j + 1)))) := by
  by_cases c : n < 25
  · refine ⟨wI (wI IM 1 (1567 + n) (nI (((d * 5 + k) * 12 + x) * 100 + q))) 1 10 (nI (n + 1)), n, ?_, fun o h1 => ?_, fun j h1 h2 => ?_, c, wI_eq, ?_, Or.inl ⟨c, rfl, fun j hj => ?_⟩⟩
    · unfold fX7_write
      simp (disch := (first | assumption | trivial | omega)) only [h0, hn, h7, wI_ne, lit, neg1, oI_s, addN, mulN, subN, clN, gdN, ltN, leN, eqN, nIo, oIn, oI_eq, divN, remN, giT, giF, lzE, prE, bdE, smL, smR, shlN, shrN, hasE, andN, orN, bit1, bit0, max7, min7, giTr, giFa, gdp, litL, i2l, addL, mulL, divL, remL, cmLe, cmGt, cmGe, cmEq, eqL]
    · rw [wI_o h1, wI_o h1]
    · rw [wI_ne (by omega), wI_ne (by omega)]
    · rw [wI_ne (by omega), wI_eq]
    · rw [wI_ne (by omega), wI_ne (by omega)]
  · obtain ⟨I1, a1, a2, a3, a4⟩ := lp_cp (fun m j a => fX7_write_23 m (nI k) (nI x) (nI q) (nI j) a) 1 25 1566 1567 IM 1 (by omega)
      (fun m a => by
        try dsimp only
        rw [sX7_write_23, fX7_write_23b]
        simp (disch := (first | assumption | trivial | omega)) only [lit, neg1, oI_s, addN, mulN, subN, clN, gdN, ltN, leN, eqN, nIo, oIn, oI_eq, divN, remN, giT, giF, lzE, prE, bdE, smL, smR, shlN, shrN, hasE, andN, orN, bit1, bit0, max7, min7, giTr, giFa, gdp, litL, i2l, addL, mulL, divL, remL, cmLe, cmGt, cmGe, cmEq, eqL])
      (fun m j a _ hj => by
        try dsimp only
        rw [sX7_write_23, fX7_write_23b]
        simp (disch := (first | assumption | trivial | omega)) only [show 1567 + j - 1 = 1566 + j by omega, lit, neg1, oI_s, addN, mulN, subN, clN, gdN, ltN, leN, eqN, nIo, oIn, oI_eq, divN, remN, giT, giF, lzE, prE, bdE, smL, smR, shlN, shrN, hasE, andN, orN, bit1, bit0, max7, min7, giTr, giFa, gdp, litL, i2l, addL, mulL, divL, remL, cmLe, cmGt, cmGe, cmEq, eqL]) (by omega) (by omega)
    try dsimp only at a1
    have hn25 : n = 25 := by omega
    subst hn25
    have e10 : I1 1 10 = nI 25 := by rw [a4 10 (by omega)]; exact hn
    have e6 : I1 1 6 = nI d := by rw [a4 6 (by omega)]; exact h7
    refine ⟨wI (wI (wI I1 1 10 (nI 24)) 1 1591 (nI (((d * 5 + k) * 12 + x) * 100 + q))) 1 10 (nI 25), 24, ?_, fun o h1 => ?_, fun j h1 h2 => ?_, by omega, wI_eq, ?_, Or.inr ⟨by omega, rfl, fun j hj => ?_⟩⟩
    · unfold fX7_write
      simp (disch := (first | assumption | trivial | omega)) only [h0, hn, h7, a1, e10, e6, wI_ne, wI_eq, lit, neg1, oI_s, addN, mulN, subN, clN, gdN, ltN, leN, eqN, nIo, oIn, oI_eq, divN, remN, giT, giF, lzE, prE, bdE, smL, smR, shlN, shrN, hasE, andN, orN, bit1, bit0, max7, min7, giTr, giFa, gdp, litL, i2l, addL, mulL, divL, remL, cmLe, cmGt, cmGe, cmEq, eqL]
    · rw [wI_o h1, wI_o h1, wI_o h1]; exact a2 o h1
    · rw [wI_ne (by omega), wI_ne (by omega), wI_ne (by omega)]; exact a4 j (by omega)
    · rw [wI_ne (by omega), wI_eq]
    · rw [wI_ne (by omega), wI_ne (by omega), wI_ne (by omega), show 1567 + j = 1566 + (j + 1) by omega, a3 (j + 1) (by omega) (by omega)]
/-- both write a line -/
theorem wrB (l : lnv S w IC IM) (h0 : IM 0 23 = nI 1) (h6 : IC w 7 = nI d) (h7 : IM 1 6 = nI d) (hd : d < 10000) (hk : k < 5) (hx : x < 12) (hq : q < 100) : ∃ IC' IM' m, fX5_writeDown w (nI k) (nI x) (nI q) IC = some IC' ∧ fX7_write (nI k) (nI x) (nI q) IM = some IM' ∧ (∀ o, o ≠ w → o ≠ w + 3 → IC' o = IC o) ∧ (∀ j, j ≠ 3 → IC' w j = IC w j) ∧ (∀ o, o ≠ 1 → IM' o = IM o) ∧ (∀ j, j ≠ 10 → j < 1567 → IM' 1 j = IM 1 j) ∧ ∀ S' : Nat → Nat → Nat, S' 10 4 = m → lnv S' w IC' IM' := by
  obtain ⟨l1, l2, l3, l4⟩ := l
  obtain ⟨IC', m, a1, a2, a3, a4, a5, a6, a7⟩ := wr6 l3 l1 h6 hd hk hx hq
  obtain ⟨IM', m', b1, b2, b3, b4, b5, b6, b7⟩ := wr7 h0 l2 l1 h7 hd hk hx hq
  have hm : m' = m := by omega
  subst hm
  refine ⟨IC', IM', m' + 1, a1, b1, a2, a3, b2, b3, fun S' hS => ⟨by omega, by rw [hS]; exact b5, by rw [hS]; exact a5, fun i hi => ?_⟩⟩
  rw [hS] at hi
  by_cases c : i = m'
  · subst c
    exact ⟨d, k, x, q, hd, hk, hx, hq, a6, b6⟩
  · rcases a7 with ⟨x1, x2, x3⟩ | ⟨x1, x2, x3⟩
    · rcases b7 with ⟨y1, y2, y3⟩ | ⟨y1, y2, y3⟩
      · rw [x3 i (by omega), y3 i (by omega)]
        exact l4 i (by omega)
      · omega
    · rcases b7 with ⟨y1, y2, y3⟩ | ⟨y1, y2, y3⟩
      · omega
      · rw [x3 i (by omega), y3 i (by omega)]
        exact l4 (i + 1) (by omega)
end BK
theorem wall_of {S : Nat → Nat → Nat} {w nb : Nat} {IC IM : gI} (hn : S 0 0 = nb) (hb6 : nb ≤ 6) (h : wv S w IC IM) : rWall IC w nb (fun k => IM 1 (6 + k)) (fun k => IM 1 (1567 + k)) := by
  obtain ⟨⟨b0, b1, b2, b3, b4, b5⟩, ⟨m6, c7, m7, c8, m8, c6, m9, c5, m10, c3, c4⟩, sl, ow, pu, ln⟩ := h
  have hs : ∀ s, s < 12 → IM 1 (6 + (5 + s)) = oI (S 11 s) ∧ S 11 s < 8 := fun s hs => by
    rw [show 6 + (5 + s) = 11 + s by omega]
    have := (sl s hs).1
    exact ⟨(sl s hs).2.1, by omega⟩
  refine ⟨⟨⟨_, b0, m6⟩, ⟨_, b1, m7⟩, ⟨_, b2, m8⟩, ⟨_, b3, m9⟩, ⟨_, b4, m10⟩⟩, ⟨c7.trans m6.symm, c8.trans m7.symm, c6.trans m8.symm, c5.trans m9.symm, c3.trans m10.symm⟩, fun s hs' => ?_, ⟨S 10 5, b5, c4, fun s hs' => ?_⟩, fun b hb => ⟨S 12 b, (ow b hb).1, (ow b hb).2.1, fun s hs' => ?_⟩, fun b hb => ?_, fun i n hq hi hn2 => ?_⟩
  · show IM 1 (6 + (5 + s)) = -1 ∨ ∃ o, (o < nb ∨ o = 6) ∧ IM 1 (6 + (5 + s)) = nI o
    rw [(hs s hs').1]
    have := (sl s hs').1
    generalize S 11 s = v at this
    cases v with
    | zero => exact Or.inl rfl
    | succ v => exact Or.inr ⟨v, by omega, rfl⟩
  · show _ ↔ IM 1 (6 + (5 + s)) = oI 0
    rw [(hs s hs').1, (sl s hs').2.2, oI_eq (by have := (hs s hs').2; omega) (by omega)]
  · show _ ↔ IM 1 (6 + (5 + s)) = nI b
    rw [(hs s hs').1, (ow b hb).2.2 s hs', oIn (by have := (hs s hs').2; omega) (by omega)]
  · obtain ⟨q1, q2, q3⟩ := pu b hb
    show inR (IM 1 (6 + (17 + b))) 1000 ∧ IC (w + 1) b = IM 1 (6 + (17 + b))
    rw [show 6 + (17 + b) = 23 + b by omega, q2]
    exact ⟨inR_nI q1, q3⟩
  · have e : IM 1 10 = nI n := hq
    rw [m10] at e
    have := (nI_eq (by omega) (by omega)).mp e
    exact ln i (by omega)
/-- owners are within their hours -/
def own (S : Nat → Nat → Nat) : Prop := ∀ s b, s < 12 → b < 6 → S 11 s = b + 1 → S 4 b ≤ s ∧ s ≤ S 5 b
theorem inH_of {S : Nat → Nat → Nat} {IC IM : gI} {b s : Nat} (h : pv S IC IM) (hb : b < 6) (h1 : S 4 b ≤ s) (h2 : s ≤ S 5 b) : inH (IM 1) b s := by
  obtain ⟨⟨q1, q2, q3, q4⟩, r1, ⟨r2, _⟩, ⟨r3, _⟩, _⟩ := h.2.2.2.1 b hb
  exact ⟨_, _, r2, r3, h1, h2, q3⟩
theorem own_of {S : Nat → Nat → Nat} {IC IM : gI} {JM : gJ} (hV : V0 IC IM JM) (h : sv S IC IM) : own S := by
  obtain ⟨nb, nt, mb, mt, h1, ⟨p1, p2, p3, p4, p5, p6, p7, p8, p9⟩, h3, h4, h5⟩ := hV
  intro s b hs hb e
  have e2 := v_sl7 h hs
  rw [e, oI_s] at e2
  obtain ⟨f, t, q1, q2, q3, q4, q5⟩ := p9.1 s b hs hb e2
  have b4 := b_bu h hb
  rw [v_fr7 h hb] at q1
  rw [v_to7 h hb] at q2
  have g1 := (nI_eq (by omega) (by omega)).mp q1
  have g2 := (nI_eq (by omega) (by omega)).mp q2
  omega
theorem nb_of {S : Nat → Nat → Nat} {IC IM : gI} {nb nt : Nat} (h : sv S IC IM) (p : rHead IC 1 (IM 1) nb nt) : S 0 0 = nb ∧ S 0 1 = nt := by
  have b := b_nb h
  have e1 := p.2.2.1
  have e2 := p.2.2.2.2.1
  rw [v_nb7 h] at e1
  rw [v_nt7 h] at e2
  have := p.1
  have := p.2.1
  exact ⟨(nI_eq (by omega) (by omega)).mp e1, (nI_eq (by omega) (by omega)).mp e2⟩
/-- another wall now -/
theorem V0_wall {S S' : Nat → Nat → Nat} {IC IM IC' IM' : gI} {JM JM' : gJ} (hV : V0 IC IM JM) (h : sv S IC IM) (hw : wv S' 11 IC' IM') (h00 : S' 0 0 = S 0 0) (ho : ∀ s b, s < 12 → b < 6 → S' 11 s = b + 1 → S 4 b ≤ s ∧ s ≤ S 5 b) (hC : ∀ o, o < 11 ∨ (14 < o ∧ o < 275) ∨ 296 ≤ o → IC' o = IC o) (hM : ∀ o, o = 2 ∨ o = 3 ∨ o = 4 → IM' o = IM o) (hM0 : IM' 0 4 = IM 0 4 ∧ IM' 0 5 = IM 0 5 ∧ IM' 0 6 = IM 0 6 ∧ IM' 0 23 = IM 0 23) (hM1 : ∀ k, k < 6 ∨ (29 ≤ k ∧ k < 1567) → IM' 1 k = IM 1 k) : V0 IC' IM' JM' := by
  obtain ⟨nb, nt, mb, mt, h1, ⟨p1, p2, p3, p4, p5, p6, p7, p8, p9⟩, h3, h4, h5⟩ := hV
  obtain ⟨n1, n2⟩ := nb_of h p1
  have hb6 := p1.1
  refine ⟨nb, nt, mb, mt, h1, ⟨rHead_congr p1 ⟨by rw [hC 1 (by omega)], by rw [hC 1 (by omega)], by rw [hC 1 (by omega)]⟩ (fun k hk => hM1 k (by omega)), rPaid_congr p2 ⟨by rw [hC 1 (by omega)], by rw [hC 1 (by omega)]⟩ (hM1 4 (by omega)) (fun k _ _ => hM1 k (by omega)), rSaid_congr p3 (by rw [hC 1 (by omega)]) (hC _ (by omega)) (hC _ (by omega)) (hM1 5 (by omega)) (fun k _ _ => hM1 k (by omega)), rOdds_congr p4 (hC _ (by omega)) (hC _ (by omega)) (fun k _ _ => hM1 k (by omega)), rBuy_congr p5 (hC _ (by omega)) (hC _ (by omega)) (hC _ (by omega)) (hC _ (by omega)) (fun k _ _ => hM1 k (by omega)), rVals_congr p6 (hC _ (by omega)) (fun k _ _ => hM1 k (by omega)), wall_of (h00.trans n1) hb6 hw, rSteps_congr p8 ⟨by rw [hC 1 (by omega)], by rw [hC 1 (by omega)]⟩ (hC _ (by omega)) (fun k _ => hC _ (by omega)) (hM1 3 (by omega)) (fun k _ _ => hM1 k (by omega)), fun s b hs hb e => ?_, fun N i s b e1 e2 e3 hs hb e => ?_⟩, rPort_congr h3 (fun o _ _ => hC o (by omega)) (hM 2 (by omega)), rTape_congr h4 (hC 0 (by omega)) (hC _ (by omega)) (hM 4 (by omega)) hM0, fun t ht => rText_congr (h5 t ht) (fun k _ => hC _ (by omega)) (fun k _ => by rw [hM 3 (by omega)])⟩
  · have e2 := (hw.2.2.1 s hs).2.1
    have e3 := (hw.2.2.1 s hs).1
    rw [e, nIo (by omega) (by omega)] at e2
    obtain ⟨g1, g2⟩ := ho s b hs hb e2.symm
    exact inH_congr (inH_of h.1 hb g1 g2) (hM1 _ (by omega)) (hM1 _ (by omega))
  · rw [hM1 _ (by omega)] at e1 e
    exact inH_congr (p9.2 N i s b e1 e2 e3 hs hb e) (hM1 _ (by omega)) (hM1 _ (by omega))
theorem mkS (S : Nat → Nat → Nat) (a0 a1 a2 a3 a4 a5 : Nat) (sl ow pu : Nat → Nat) : ∃ S2 : Nat → Nat → Nat, (∀ i, i < 10 → S2 i = S i) ∧ (S2 10 0 = a0 ∧ S2 10 1 = a1 ∧ S2 10 2 = a2 ∧ S2 10 3 = a3 ∧ S2 10 4 = a4 ∧ S2 10 5 = a5) ∧ S2 11 = sl ∧ S2 12 = ow ∧ S2 13 = pu := by
  refine ⟨fun i => if i = 10 then (fun k => if k = 0 then a0 else if k = 1 then a1 else if k = 2 then a2 else if k = 3 then a3 else if k = 4 then a4 else a5) else if i = 11 then sl else if i = 12 then ow else if i = 13 then pu else S i, fun i hi => ?_, ⟨rfl, rfl, rfl, rfl, rfl, rfl⟩, rfl, rfl, rfl⟩
  show (if i = 10 then _ else if i = 11 then sl else if i = 12 then ow else if i = 13 then pu else S i) = S i
  rw [if_neg (by omega), if_neg (by omega), if_neg (by omega), if_neg (by omega)]
/-- another wall now, and a line in the book -/
theorem mutw {S : Nat → Nat → Nat} {IC IM IC2 IM2 : gI} {JM : gJ} (JM' : gJ) (kV : V0 IC IM JM) (g : sv S IC IM) (a0 a1 a2 a3 a5 : Nat) (sl ow pu : Nat → Nat)
    (hb : a0 < 10000 ∧ a1 < 31039 ∧ a2 < 100000 ∧ a3 < 5 ∧ a5 < 4096)
    (he : IM2 1 6 = nI a0 ∧ IC2 11 7 = nI a0 ∧ IM2 1 7 = nI a1 ∧ IC2 11 8 = nI a1 ∧ IM2 1 8 = nI a2 ∧ IC2 11 6 = nI a2 ∧ IM2 1 9 = nI a3 ∧ IC2 11 5 = nI a3 ∧ IC2 11 4 = nI a5)
    (hs : ∀ s, s < 12 → (sl s ≤ S 0 0 ∨ sl s = 7) ∧ IM2 1 (11 + s) = oI (sl s) ∧ (a5.testBit s = true ↔ sl s = 0))
    (hw : ∀ b, b < 6 → ow b < 4096 ∧ IC2 13 b = nI (ow b) ∧ ∀ s, s < 12 → ((ow b).testBit s = true ↔ sl s = b + 1))
    (hp : ∀ b, b < 6 → pu b < 1000 ∧ IM2 1 (23 + b) = nI (pu b) ∧ IC2 12 b = nI (pu b))
    (ho : ∀ s b, s < 12 → b < 6 → sl s = b + 1 → S 4 b ≤ s ∧ s ≤ S 5 b)
    (hC : ∀ o, o ≠ 11 → o ≠ 12 → o ≠ 13 → IC2 o = IC o) (hC3 : IC2 11 3 = IC 11 3) (hM : ∀ o, o ≠ 1 → IM2 o = IM o) (hM1 : ∀ k, k < 6 ∨ k = 10 ∨ 29 ≤ k → IM2 1 k = IM 1 k)
    {k x q : Nat} (hk : k < 5) (hx : x < 12) (hq : q < 100) : ∃ IC3 IM3, fX5_writeDown 11 (nI k) (nI x) (nI q) IC2 = some IC3 ∧ fX7_write (nI k) (nI x) (nI q) IM2 = some IM3 ∧ V0 IC3 IM3 JM' := by
  obtain ⟨l1, l2, l3, l4⟩ := wv_l g.2
  have h23 : IM 0 23 = nI 1 := by
    obtain ⟨nb, nt, mb, mt, h1, ⟨p1, p2, p3, p4, p5, p6, p7, p8, p9⟩, h3, h4, h5⟩ := kV
    obtain ⟨n, b1, b2, b3, b4, b5, b6, b7⟩ := h4
    exact b7
  obtain ⟨h1, h2, h3, h4, h5, h6, h7, h8, h9⟩ := he
  obtain ⟨IC3, IM3, m, w1, w2, w3, w4, w5, w6, w7⟩ := wrB (S := S) (w := 11) (IC := IC2) (IM := IM2) ⟨l1, by rw [hM1 10 (by omega)]; exact l2, by rw [hC3]; exact l3, fun i hi => by rw [hC _ (by omega) (by omega) (by omega), hM1 _ (by omega)]; exact l4 i hi⟩ (by rw [hM 0 (by omega)]; exact h23) h2 h1 hb.1 hk hx hq
  obtain ⟨S2, e0, ⟨d0, d1, d2, d3, d4, d5⟩, e1, e2, e3⟩ := mkS S a0 a1 a2 a3 m a5 sl ow pu
  refine ⟨IC3, IM3, w1, w2, V0_wall (S' := S2) kV g (wv_join ⟨?_, ?_, fun s hs' => ?_, fun b hb' => ?_, fun b hb' => ?_⟩ (w7 S2 d4)) (by rw [e0 0 (by omega)]) (fun s b hs hb e => ho s b hs hb (by rw [← e1]; exact e)) (fun o h => by rw [w3 o (by omega) (by omega), hC o (by omega) (by omega) (by omega)]) (fun o h => by rw [w5 o (by omega), hM o (by omega)]) ⟨by rw [w5 0 (by omega), hM 0 (by omega)], by rw [w5 0 (by omega), hM 0 (by omega)], by rw [w5 0 (by omega), hM 0 (by omega)], by rw [w5 0 (by omega), hM 0 (by omega)]⟩ (fun k h => by rw [w6 k (by omega) (by omega), hM1 k (by omega)])⟩
  · rw [d0, d1, d2, d3, d5]; exact hb
  · rw [d0, d1, d2, d3, d5, w6 6 (by omega) (by omega), w6 7 (by omega) (by omega), w6 8 (by omega) (by omega), w6 9 (by omega) (by omega), w4 7 (by omega), w4 8 (by omega), w4 6 (by omega), w4 5 (by omega), w4 4 (by omega)]
    exact ⟨h1, h2, h3, h4, h5, h6, h7, h8, h9⟩
  · rw [e1, e0 0 (by omega), d5, w6 _ (by omega) (by omega)]
    exact hs s hs'
  · rw [e1, e2, w3 _ (by omega) (by omega)]
    exact hw b hb'
  · rw [e3, w6 _ (by omega) (by omega), w3 _ (by omega) (by omega)]
    exact hp b hb'
theorem sv_kp {S : Nat → Nat → Nat} {IC IM IC' IM' : gI} (h : sv S IC IM) (kC : ∀ o, o ≠ 1 → o < 16 ∨ 137 ≤ o → IC' o = IC o) (kC1 : ∀ k, k ≠ 18 → k ≠ 19 → IC' 1 k = IC 1 k) (kM1 : ∀ k, k ≠ 3 → k < 97 ∨ 1567 ≤ k → IM' 1 k = IM 1 k) : sv S IC' IM' := by
  refine ⟨?_, wv_eq h.2 (kC _ (by omega) (by omega)) (kC _ (by omega) (by omega)) (kC _ (by omega) (by omega)) (kC _ (by omega) (by omega)) (fun k _ => kM1 k (by omega) (by omega))⟩
  obtain ⟨h1, h2, h3, h4, h5⟩ := h.1
  refine ⟨h1, ?_, fun s hs => ?_, fun b hb => ?_, fun s hs => ?_⟩
  · rw [kC1 12 (by omega) (by omega), kC1 13 (by omega) (by omega), kC1 14 (by omega) (by omega), kM1 0 (by omega) (by omega), kM1 1 (by omega) (by omega), kM1 2 (by omega) (by omega)]; exact h2
  · rw [kC 2 (by omega) (by omega), kC 3 (by omega) (by omega), kM1 _ (by omega) (by omega), kM1 _ (by omega) (by omega)]; exact h3 s hs
  · rw [kC 4 (by omega) (by omega), kC 5 (by omega) (by omega), kC 6 (by omega) (by omega), kC 7 (by omega) (by omega), kM1 _ (by omega) (by omega), kM1 _ (by omega) (by omega), kM1 _ (by omega) (by omega), kM1 _ (by omega) (by omega)]; exact h4 b hb
  · rw [kC 8 (by omega) (by omega), kM1 _ (by omega) (by omega)]; exact h5 s hs
