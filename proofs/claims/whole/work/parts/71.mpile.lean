-- 71: PURE PART: the reference's pile (out of wip/whole/pure by pure.py)
def rk (c : Nat) : Nat := if c < 40 then (if c = 22 then 1 else if c = 21 then 2 else if c = 20 then 3 else if c < 10 then (if c < 8 then (if c < 6 then 7 else 5) else 6) else 4) else 0
theorem rank7 {c : Nat} (hc : c < 100) : fX7_rank (nI c) = nI (rk c) := by
  unfold fX7_rank rk
  by_cases h1 : c < 40
  · rw [if_pos h1]
    by_cases h2 : c = 22
    · rw [if_pos h2]; simp (disch := (first | assumption | trivial | omega)) only [h1, h2, lit, neg1, oI_s, addN, mulN, subN, clN, gdN, ltN, leN, eqN, nIo, oIn, oI_eq, divN, remN, giT, giF, lzE, prE, bdE, smL, smR, shlN, shrN, hasE, andN, orN, bit1, bit0, max7, min7, giTr, giFa, gdp, litL, i2l, addL, mulL, divL, remL, cmLe, cmGt, cmGe, cmEq, eqL]
    · rw [if_neg h2]
      by_cases h3 : c = 21
      · rw [if_pos h3]; simp (disch := (first | assumption | trivial | omega)) only [h1, h2, h3, lit, neg1, oI_s, addN, mulN, subN, clN, gdN, ltN, leN, eqN, nIo, oIn, oI_eq, divN, remN, giT, giF, lzE, prE, bdE, smL, smR, shlN, shrN, hasE, andN, orN, bit1, bit0, max7, min7, giTr, giFa, gdp, litL, i2l, addL, mulL, divL, remL, cmLe, cmGt, cmGe, cmEq, eqL]
      · rw [if_neg h3]
        by_cases h4 : c = 20
        · rw [if_pos h4]; simp (disch := (first | assumption | trivial | omega)) only [h1, h2, h3, h4, lit, neg1, oI_s, addN, mulN, subN, clN, gdN, ltN, leN, eqN, nIo, oIn, oI_eq, divN, remN, giT, giF, lzE, prE, bdE, smL, smR, shlN, shrN, hasE, andN, orN, bit1, bit0, max7, min7, giTr, giFa, gdp, litL, i2l, addL, mulL, divL, remL, cmLe, cmGt, cmGe, cmEq, eqL]
        · rw [if_neg h4]
          by_cases h5 : c < 10
          · rw [if_pos h5]
            by_cases h6 : c < 8
            · rw [if_pos h6]
              by_cases h7 : c < 6
              · rw [if_pos h7]; simp (disch := (first | assumption | trivial | omega)) only [h1, h2, h3, h4, h5, h6, h7, lit, neg1, oI_s, addN, mulN, subN, clN, gdN, ltN, leN, eqN, nIo, oIn, oI_eq, divN, remN, giT, giF, lzE, prE, bdE, smL, smR, shlN, shrN, hasE, andN, orN, bit1, bit0, max7, min7, giTr, giFa, gdp, litL, i2l, addL, mulL, divL, remL, cmLe, cmGt, cmGe, cmEq, eqL]
              · rw [if_neg h7]; simp (disch := (first | assumption | trivial | omega)) only [h1, h2, h3, h4, h5, h6, h7, lit, neg1, oI_s, addN, mulN, subN, clN, gdN, ltN, leN, eqN, nIo, oIn, oI_eq, divN, remN, giT, giF, lzE, prE, bdE, smL, smR, shlN, shrN, hasE, andN, orN, bit1, bit0, max7, min7, giTr, giFa, gdp, litL, i2l, addL, mulL, divL, remL, cmLe, cmGt, cmGe, cmEq, eqL]
            · rw [if_neg h6]; simp (disch := (first | assumption | trivial | omega)) only [h1, h2, h3, h4, h5, h6, lit, neg1, oI_s, addN, mulN, subN, clN, gdN, ltN, leN, eqN, nIo, oIn, oI_eq, divN, remN, giT, giF, lzE, prE, bdE, smL, smR, shlN, shrN, hasE, andN, orN, bit1, bit0, max7, min7, giTr, giFa, gdp, litL, i2l, addL, mulL, divL, remL, cmLe, cmGt, cmGe, cmEq, eqL]
          · rw [if_neg h5]; simp (disch := (first | assumption | trivial | omega)) only [h1, h2, h3, h4, h5, lit, neg1, oI_s, addN, mulN, subN, clN, gdN, ltN, leN, eqN, nIo, oIn, oI_eq, divN, remN, giT, giF, lzE, prE, bdE, smL, smR, shlN, shrN, hasE, andN, orN, bit1, bit0, max7, min7, giTr, giFa, gdp, litL, i2l, addL, mulL, divL, remL, cmLe, cmGt, cmGe, cmEq, eqL]
  · rw [if_neg h1]; simp (disch := (first | assumption | trivial | omega)) only [h1, lit, neg1, oI_s, addN, mulN, subN, clN, gdN, ltN, leN, eqN, nIo, oIn, oI_eq, divN, remN, giT, giF, lzE, prE, bdE, smL, smR, shlN, shrN, hasE, andN, orN, bit1, bit0, max7, min7, giTr, giFa, gdp, litL, i2l, addL, mulL, divL, remL, cmLe, cmGt, cmGe, cmEq, eqL]
theorem rk_le (c : Nat) : rk c ≤ 7 := by
  unfold rk
  split
  · split
    · omega
    · split
      · omega
      · split
        · omega
        · split
          · split
            · split <;> omega
            · omega
          · omega
  · omega
/-- one more on the pile -/
def pu1 (pl : Nat → Nat) (ps c : Nat) : Nat → Nat := fun j => if j = ps then c else pl j
theorem pu1_e {pl : Nat → Nat} {ps c : Nat} : pu1 pl ps c ps = c := if_pos rfl
theorem pu1_n {pl : Nat → Nat} {ps c j : Nat} (h : j ≠ ps) : pu1 pl ps c j = pl j := if_neg h
/-- the reference's reader: at token i, n codes so far, its pile, so many open, operand had (w) -/
def PM (tk tv tp ep : Nat → Nat) (B : gI) (t law i n ps : Nat) (pl : Nat → Nat) (x w : Nat) (M : gI) (J : gJ) : Prop := (M 0 7 = nI (ep i) ∧ M 0 8 = nI (tp i) ∧ tkR (tk i) (tv i) (M 0 9) (M 0 10) (J 0 11)) ∧ (M 4 = B 4 ∧ M 0 4 = B 0 4) ∧ M 0 12 = nI (681 * t) ∧ M 0 13 = nI n ∧ M 0 14 = nI law ∧ M 0 16 = nI ps ∧ M 0 17 = nI x ∧ M 0 18 = nI w ∧ ∀ j, j < ps → M 5 j = nI (pl j)
/-- what it leaves, codes below n among it -/
def KM (t n : Nat) (M M' : gI) : Prop := (∀ o, o ≠ 0 → o ≠ 3 → o ≠ 5 → M' o = M o) ∧ (∀ k, k < 7 ∨ k = 11 ∨ k = 12 ∨ k = 14 ∨ k = 15 ∨ 18 < k → M' 0 k = M 0 k) ∧ ∀ k, k < 681 * t + 73 + 2 * n ∨ 681 * t + 681 ≤ k → M' 3 k = M 3 k
theorem KM_rf {t n : Nat} {M : gI} : KM t n M M := ⟨fun _ _ _ _ => rfl, fun _ _ => rfl, fun _ _ => rfl⟩
theorem KM_tr {t n m : Nat} {A B C : gI} (h : KM t n A B) (g : KM t m B C) (hm : n ≤ m) : KM t n A C :=
  ⟨fun o a b c => (g.1 o a b c).trans (h.1 o a b c), fun k a => (g.2.1 k a).trans (h.2.1 k a), fun k a => (g.2.2 k (by omega)).trans (h.2.2 k a)⟩
/-- the codes that lie already -/
theorem KM_rc {t n p : Nat} {M M' : gI} (h : KM t n M M') (hp : p < n) : rC (M' 3) t p = rC (M 3) t p ∧ rO (M' 3) t p = rO (M 3) t p := by
  unfold rC rO
  by_cases c : p < 304
  · rw [if_pos c, if_pos c, if_pos c, if_pos c, h.2.2 _ (by omega), h.2.2 _ (by omega)]
    exact ⟨rfl, rfl⟩
  · rw [if_neg c, if_neg c, if_neg c, if_neg c]
    exact ⟨rfl, rfl⟩
/-- the reference's next token -/
def NXT (tk tv tp ep : Nat → Nat) (B : gI) (K : Nat) : Prop := ∀ i M J, i < K → ¬ tk i = 40 → M 4 = B 4 → M 0 4 = B 0 4 → M 0 7 = nI (ep i) → ∃ M' J', fX7_nextToken M J = some (M', J') ∧ (M' 0 7 = nI (ep (i + 1)) ∧ M' 0 8 = nI (tp (i + 1)) ∧ tkR (tk (i + 1)) (tv (i + 1)) (M' 0 9) (M' 0 10) (J' 0 11)) ∧ (∀ o, o ≠ 0 → M' o = M o) ∧ ∀ k, k < 7 ∨ 10 < k → M' 0 k = M 0 k
section MP
variable {tk tv tp ep : Nat → Nat} {B : gI} {t law i n ps x w : Nat} {pl : Nat → Nat} {M : gI} {J : gJ}
theorem nx7 {K : Nat} (hN : NXT tk tv tp ep B K) (h : PM tk tv tp ep B t law i n ps pl x w M J) (hi : i < K) (hk : ¬ tk i = 40) : ∃ M' J', fX7_nextToken M J = some (M', J') ∧ PM tk tv tp ep B t law (i + 1) n ps pl x w M' J' ∧ KM t n M M' := by
  obtain ⟨⟨h1, h2, h3⟩, ⟨h4, h5⟩, h6, h7, h8, h9, h10, h11, h12⟩ := h
  obtain ⟨M', J', e, a, b, c⟩ := hN i M J hi hk h4 h5 h1
  refine ⟨M', J', e, ⟨a, ⟨by rw [b 4 (by omega)]; exact h4, by rw [c 4 (by omega)]; exact h5⟩, by rw [c 12 (by omega)]; exact h6, by rw [c 13 (by omega)]; exact h7, by rw [c 14 (by omega)]; exact h8, by rw [c 16 (by omega)]; exact h9, by rw [c 17 (by omega)]; exact h10, by rw [c 18 (by omega)]; exact h11, fun j hj => by rw [b 5 (by omega)]; exact h12 j hj⟩, fun o ho _ _ => b o ho, fun k hk => c k (by omega), fun k _ => by rw [b 3 (by omega)]⟩
/-- a code more -/
theorem emit7 (h : PM tk tv tp ep B t law i n ps pl x w M J) (ht : t < 4) (hn : n < 304) (c v : Nat) : ∃ M', fX7_emit (nI c) (nI v) M = some M' ∧ PM tk tv tp ep B t law i (n + 1) ps pl x w M' J ∧ KM t n M M' ∧ rC (M' 3) t n = nI c ∧ rO (M' 3) t n = nI v ∧ M' 5 = M 5 := by
  obtain ⟨⟨h1, h2, h3⟩, ⟨h4, h5⟩, h6, h7, h8, h9, h10, h11, h12⟩ := h
  refine ⟨wI (wI (wI M 3 (681 * t + 73 + 2 * n) (nI c)) 3 (681 * t + 73 + 2 * n + 1) (nI v)) 0 13 (nI (n + 1)), ?_, ⟨?_, ?_, ?_, wI_eq, ?_, ?_, ?_, ?_, fun j hj => ?_⟩, ⟨fun o a b c => ?_, fun k hk => ?_, fun k hk => ?_⟩, ?_, ?_, ?_⟩
  · unfold fX7_emit
    simp (disch := (first | assumption | trivial | omega)) only [lit, addN, mulN, h6, h7, gdN, clN, lzE, wI_o]
  · simp (disch := omega) only [wI_ne, wI_o]
    exact ⟨h1, h2, h3⟩
  · simp (disch := omega) only [wI_ne, wI_o]
    exact ⟨h4, h5⟩
  · simp (disch := omega) only [wI_ne, wI_o]; exact h6
  · simp (disch := omega) only [wI_ne, wI_o]; exact h8
  · simp (disch := omega) only [wI_ne, wI_o]; exact h9
  · simp (disch := omega) only [wI_ne, wI_o]; exact h10
  · simp (disch := omega) only [wI_ne, wI_o]; exact h11
  · simp (disch := omega) only [wI_o]; exact h12 j hj
  · rw [wI_o a, wI_o b, wI_o b]
  · rw [wI_ne (by omega), wI_o (by omega), wI_o (by omega)]
  · rw [wI_o (by omega), wI_ne (by omega), wI_ne (by omega)]
  · rw [rc_at (by omega), wI_o (by omega), wI_ne (by omega), wI_eq]
  · rw [ro_at (by omega), wI_o (by omega), wI_eq]
  · rw [wI_o (by omega), wI_o (by omega), wI_o (by omega)]
/-- settling: what comes of it, however long it may turn -/
def Stl (ps r : Nat) (M I : gI) : Prop := ∀ n, ps < n → fX7_settle_0 n (nI r) M = some I
theorem stl_run {r : Nat} {I : gI} (h : Stl ps r M I) (hp : ps < 5000) : fX7_settle (nI r) M = some I := by
  unfold fX7_settle
  rw [h FU hp]
  rfl
theorem stl_stop (h : PM tk tv tp ep B t law i n ps pl x w M J) (hp : ps < 160) (hpl : ∀ j, j < ps → pl j < 100) {r : Nat} (hr : r < 10) (hs : ps = 0 ∨ rk (pl (ps - 1)) < r) : Stl ps r M M := by
  intro m hm
  obtain ⟨m, rfl⟩ : ∃ a, m = a + 1 := ⟨m - 1, by omega⟩
  obtain ⟨_, _, _, _, _, h9, _, _, h12⟩ := h
  rw [sX7_settle_0, fX7_settle_0b]
  by_cases c : ps = 0
  · subst c
    simp (disch := (first | assumption | trivial | omega)) only [h9, Nat.le_refl, lit, neg1, oI_s, addN, mulN, subN, clN, gdN, ltN, leN, eqN, nIo, oIn, oI_eq, divN, remN, giT, giF, lzE, prE, bdE, smL, smR, shlN, shrN, hasE, andN, orN, bit1, bit0, max7, min7, giTr, giFa, gdp, litL, i2l, addL, mulL, divL, remL, cmLe, cmGt, cmGe, cmEq, eqL]
  · have c2 : ¬ ps ≤ 0 := by omega
    have e := h12 (ps - 1) (by omega)
    have q := rank7 (hpl (ps - 1) (by omega))
    have hs2 : rk (pl (ps - 1)) < r := hs.resolve_left c
    simp (disch := (first | assumption | trivial | omega)) only [h9, lit, leN, c2, giFa, subN, gdN, clN, e, q, ltN, hs2, giTr]
theorem stl_pop (h : PM tk tv tp ep B t law i n (ps + 1) pl x w M J) (ht : t < 4) (hp : ps < 159) (hc : pl ps < 40) (hn : n < 304) (hx : (rk (pl ps) = 7 ∨ pl ps = 20) → 0 < x) : ∃ M', PM tk tv tp ep B t law i (n + 1) ps pl (if rk (pl ps) = 7 ∨ pl ps = 20 then x - 1 else x) w M' J ∧ KM t n M M' ∧ rC (M' 3) t n = nI (pl ps) ∧ M' 5 = M 5 ∧ ∀ r I, r ≤ rk (pl ps) → 0 < r → Stl ps r M' I → Stl (ps + 1) r M I := by
  have hP := h
  obtain ⟨⟨h1, h2, h3⟩, ⟨h4, h5⟩, h6, h7, h8, h9, h10, h11, h12⟩ := h
  have h16 : PM tk tv tp ep B t law i n ps pl x w (wI M 0 16 (nI ps)) J := by
    refine ⟨?_, ?_, ?_, ?_, ?_, wI_eq, ?_, ?_, fun j hj => ?_⟩
    · simp (disch := omega) only [wI_ne]; exact ⟨h1, h2, h3⟩
    · simp (disch := omega) only [wI_ne, wI_o]; exact ⟨h4, h5⟩
    · rw [wI_ne (by omega)]; exact h6
    · rw [wI_ne (by omega)]; exact h7
    · rw [wI_ne (by omega)]; exact h8
    · rw [wI_ne (by omega)]; exact h10
    · rw [wI_ne (by omega)]; exact h11
    · rw [wI_o (by omega)]; exact h12 j (by omega)
  obtain ⟨A, eA, pA, kA, cA, oA, fA⟩ := emit7 h16 ht hn (pl ps) 0
  have k16 : KM t n M (wI M 0 16 (nI ps)) := ⟨fun o a _ _ => wI_o a, fun k hk => wI_ne (by omega), fun k _ => by rw [wI_o (by omega)]⟩
  have e5 : A 5 ps = nI (pl ps) := by rw [fA, wI_o (by omega)]; exact h12 ps (by omega)
  have q := rank7 (show pl ps < 100 by omega)
  have hle := rk_le (pl ps)
  have step : ∀ r m, r ≤ rk (pl ps) → fX7_settle_0 (m + 1) (nI r) M = gi (rk (pl ps) = 7) (fX7_settle_0 m (nI r) (wI A 0 17 ((A 0 17) - nI 1))) (gi (pl ps = 20) (fX7_settle_0 m (nI r) (wI A 0 17 ((A 0 17) - nI 1))) (fX7_settle_0 m (nI r) A)) := by
    intro r m hr
    have c1 : ¬ ps + 1 ≤ 0 := by omega
    have c2 : ¬ rk (pl ps) < r := by omega
    have e1 := dec1' ps
    have a16 : A 0 16 = nI ps := pA.2.2.2.2.2.1
    have e0 := h12 ps (by omega)
    rw [sX7_settle_0, fX7_settle_0b]
    simp (disch := (first | assumption | trivial | omega)) only [h9, lit, leN, c1, giFa, e1, gdN, clN, e0, q, ltN, c2, lzE, wI_eq, wI_o, eA, bdE, a16, e5, eqN]
  by_cases c : rk (pl ps) = 7 ∨ pl ps = 20
  · have hx0 := hx c
    have a17 : A 0 17 = nI x := pA.2.2.2.2.2.2.1
    have d17 : (A 0 17) - nI 1 = nI (x - 1) := by rw [a17, subN (by omega)]
    refine ⟨wI A 0 17 (nI (x - 1)), ?_, ?_, by rw [wI_o (by omega)]; exact cA, ?_, fun r I hr hr0 hs => ?_⟩
    · rw [if_pos c]
      obtain ⟨⟨b1, b2, b3⟩, ⟨b4, b5⟩, b6, b7, b8, b9, b10, b11, b12⟩ := pA
      refine ⟨?_, ?_, ?_, ?_, ?_, ?_, wI_eq, ?_, fun j hj => ?_⟩
      · simp (disch := omega) only [wI_ne]; exact ⟨b1, b2, b3⟩
      · simp (disch := omega) only [wI_ne, wI_o]; exact ⟨b4, b5⟩
      · rw [wI_ne (by omega)]; exact b6
      · rw [wI_ne (by omega)]; exact b7
      · rw [wI_ne (by omega)]; exact b8
      · rw [wI_ne (by omega)]; exact b9
      · rw [wI_ne (by omega)]; exact b11
      · rw [wI_o (by omega)]; exact b12 j hj
    · refine KM_tr (KM_tr k16 kA (Nat.le_refl _)) (m := n) ⟨fun o a _ _ => wI_o a, fun k hk => wI_ne (by omega), fun k _ => by rw [wI_o (by omega)]⟩ (Nat.le_refl _)
    · rw [wI_o (by omega), fA, wI_o (by omega)]
    · intro m hm
      obtain ⟨m, rfl⟩ : ∃ a, m = a + 1 := ⟨m - 1, by omega⟩
      rw [step r m hr, d17]
      rcases c with c | c
      · rw [gi_pos c]; exact hs m (by omega)
      · by_cases c7 : rk (pl ps) = 7
        · rw [gi_pos c7]; exact hs m (by omega)
        · rw [gi_neg c7, gi_pos c]; exact hs m (by omega)
  · refine ⟨A, by rw [if_neg c]; exact pA, KM_tr k16 kA (Nat.le_refl _), cA, by rw [fA, wI_o (by omega)], fun r I hr hr0 hs => ?_⟩
    intro m hm
    obtain ⟨m, rfl⟩ : ∃ a, m = a + 1 := ⟨m - 1, by omega⟩
    rw [step r m hr, gi_neg (fun z => c (Or.inl z)), gi_neg (fun z => c (Or.inr z))]
    exact hs m (by omega)
/-- one is opened -/
theorem open7 {K : Nat} (hN : NXT tk tv tp ep B K) (h : PM tk tv tp ep B t law i n ps pl x w M J) (hi : i < K) (hk : ¬ tk i = 40) (hx : x < 8) (hp : ps < 160) (c : Nat) : ∃ M' J', fX7_opened (nI c) M J = some (0, M', J') ∧ PM tk tv tp ep B t law (i + 1) n (ps + 1) (pu1 pl ps c) (x + 1) w M' J' ∧ KM t n M M' := by
  obtain ⟨⟨h1, h2, h3⟩, ⟨h4, h5⟩, h6, h7, h8, h9, h10, h11, h12⟩ := h
  obtain ⟨A, hA⟩ : ∃ A, A = wI (wI (wI M 0 17 (nI (x + 1))) 5 ps (nI c)) 0 16 (nI (ps + 1)) := ⟨_, rfl⟩
  have pA : PM tk tv tp ep B t law i n (ps + 1) (pu1 pl ps c) (x + 1) w A J := by
    rw [hA]
    refine ⟨?_, ?_, ?_, ?_, ?_, wI_eq, ?_, ?_, fun j hj => ?_⟩
    · simp (disch := omega) only [wI_ne, wI_o]; exact ⟨h1, h2, h3⟩
    · simp (disch := omega) only [wI_ne, wI_o]; exact ⟨h4, h5⟩
    · simp (disch := omega) only [wI_ne, wI_o]; exact h6
    · simp (disch := omega) only [wI_ne, wI_o]; exact h7
    · simp (disch := omega) only [wI_ne, wI_o]; exact h8
    · rw [wI_ne (by omega), wI_o (by omega), wI_eq]
    · simp (disch := omega) only [wI_ne, wI_o]; exact h11
    · rw [wI_o (by omega)]
      by_cases e : j = ps
      · subst e; rw [wI_eq, pu1_e]
      · rw [wI_ne (by omega), wI_o (by omega), pu1_n e]; exact h12 j (by omega)
  have kA : KM t n M A := by
    rw [hA]
    exact ⟨fun o a _ d => by rw [wI_o a, wI_o d, wI_o a], fun k hk => by rw [wI_ne (by omega), wI_o (by omega), wI_ne (by omega)], fun k _ => by rw [wI_o (by omega), wI_o (by omega), wI_o (by omega)]⟩
  obtain ⟨M', J', e, p', k'⟩ := nx7 hN pA hi hk
  refine ⟨M', J', ?_, p', KM_tr kA k' (Nat.le_refl _)⟩
  unfold fX7_opened
  have c8 : ¬ x = 8 := by omega
  simp (disch := (first | assumption | trivial | omega)) only [h10, h9, lit, eqN, c8, giFa, addN, lzE, wI_ne, wI_o, gdN, clN]
  rw [← hA, e]
  rfl
theorem open7n (h : PM tk tv tp ep B t law i n ps pl x w M J) (hx : x = 8) (c : Int32) : fX7_opened c M J = some (3, M, J) := by
  unfold fX7_opened
  rw [h.2.2.2.2.2.2.1, hx, gi_pos (show nI 8 = (8 : Int32) from rfl)]
/-- the innermost that is open, among the j lowest (one more; 0: none) -/
def oat (pl : Nat → Nat) : Nat → Nat
  | 0 => 0
  | j + 1 => if 40 ≤ pl j then j + 1 else oat pl j
theorem oat_le {pl : Nat → Nat} : ∀ j, oat pl j ≤ j := by
  intro j
  induction j with
  | zero => exact Nat.le_refl _
  | succ j ih =>
    show (if 40 ≤ pl j then j + 1 else oat pl j) ≤ j + 1
    by_cases c : 40 ≤ pl j
    · rw [if_pos c]; exact Nat.le_refl _
    · rw [if_neg c]; omega
theorem oat7 (h : PM tk tv tp ep B t law i n ps pl x w M J) (hp : ps < 160) (hpl : ∀ j, j < ps → pl j < 100) : fX7_openAt M = some (oI (oat pl ps)) := by
  have h12 := h.2.2.2.2.2.2.2.2
  have h9 := h.2.2.2.2.2.1
  have key : ∀ j m, j ≤ ps → j < m → fX7_openAt_7 m (oI j) M = some (oI (oat pl j)) := by
    intro j
    induction j with
    | zero =>
      intro m _ hm
      obtain ⟨m, rfl⟩ : ∃ a, m = a + 1 := ⟨m - 1, by omega⟩
      rw [sX7_openAt_7, fX7_openAt_7b, gi_pos (show oI 0 < 0 by decide)]
      rfl
    | succ j ih =>
      intro m hj hm
      obtain ⟨m, rfl⟩ : ∃ a, m = a + 1 := ⟨m - 1, by omega⟩
      have e := h12 j (by omega)
      have hb := hpl j (by omega)
      rw [sX7_openAt_7, fX7_openAt_7b, oI_s]
      show _ = some (oI (if 40 ≤ pl j then j + 1 else oat pl j))
      by_cases c : 40 ≤ pl j
      · rw [if_pos c, oI_s]
        simp (disch := (first | assumption | trivial | omega)) only [e, c, lit, neg1, oI_s, addN, mulN, subN, clN, gdN, ltN, leN, eqN, nIo, oIn, oI_eq, divN, remN, giT, giF, lzE, prE, bdE, smL, smR, shlN, shrN, hasE, andN, orN, bit1, bit0, max7, min7, giTr, giFa, gdp, litL, i2l, addL, mulL, divL, remL, cmLe, cmGt, cmGe, cmEq, eqL]
      · rw [if_neg c]
        simp (disch := (first | assumption | trivial | omega)) only [e, c, decO, lit, neg1, oI_s, addN, mulN, subN, clN, gdN, ltN, leN, eqN, nIo, oIn, oI_eq, divN, remN, giT, giF, lzE, prE, bdE, smL, smR, shlN, shrN, hasE, andN, orN, bit1, bit0, max7, min7, giTr, giFa, gdp, litL, i2l, addL, mulL, divL, remL, cmLe, cmGt, cmGe, cmEq, eqL]
        exact ih m (by omega) (by omega)
  unfold fX7_openAt
  rw [h9, lzE, show (nI ps - (1 : Int32)) = oI ps from subO ps, key ps FU (Nat.le_refl _) (by show _ < 5000; omega)]
  rfl
/-- what is open innermost (one more; 0: none) -/
def onw (pl : Nat → Nat) (ps : Nat) : Nat := if oat pl ps = 0 then 0 else pl (oat pl ps - 1) + 1
theorem onw7 (h : PM tk tv tp ep B t law i n ps pl x w M J) (hp : ps < 160) (hpl : ∀ j, j < ps → pl j < 100) : fX7_openNow M = some (oI (onw pl ps)) := by
  have e := oat7 h hp hpl
  have hle := oat_le (pl := pl) ps
  have h12 := h.2.2.2.2.2.2.2.2
  unfold fX7_openNow onw
  rw [e]
  by_cases c : oat pl ps = 0
  · rw [if_pos c, c, bdE, gi_neg (show ¬ (0 : Int32) ≤ oI 0 by decide)]
    rfl
  · rw [if_neg c, oI_s]
    obtain ⟨a, ha⟩ : ∃ a, oat pl ps = a + 1 := ⟨oat pl ps - 1, by omega⟩
    rw [ha, Nat.add_sub_cancel, oI_s]
    have e2 := h12 a (by omega)
    simp (disch := (first | assumption | trivial | omega)) only [e2, lit, neg1, oI_s, addN, mulN, subN, clN, gdN, ltN, leN, eqN, nIo, oIn, oI_eq, divN, remN, giT, giF, lzE, prE, bdE, smL, smR, shlN, shrN, hasE, andN, orN, bit1, bit0, max7, min7, giTr, giFa, gdp, litL, i2l, addL, mulL, divL, remL, cmLe, cmGt, cmGe, cmEq, eqL]
/-- is it compared already -/
def cpd (pl : Nat → Nat) : Nat → Nat
  | 0 => 0
  | j + 1 => if rk (pl j) ≤ 4 then (if rk (pl j) = 4 then 1 else 0) else cpd pl j
theorem cpd_01 {pl : Nat → Nat} : ∀ j, cpd pl j = 0 ∨ cpd pl j = 1 := by
  intro j
  induction j with
  | zero => exact Or.inl rfl
  | succ j ih =>
    show (if rk (pl j) ≤ 4 then (if rk (pl j) = 4 then 1 else 0) else cpd pl j) = 0 ∨ (if rk (pl j) ≤ 4 then (if rk (pl j) = 4 then 1 else 0) else cpd pl j) = 1
    by_cases c : rk (pl j) ≤ 4
    · rw [if_pos c]
      by_cases d : rk (pl j) = 4
      · rw [if_pos d]; exact Or.inr rfl
      · rw [if_neg d]; exact Or.inl rfl
    · rw [if_neg c]; exact ih
theorem cpd7 (h : PM tk tv tp ep B t law i n ps pl x w M J) (hp : ps < 160) (hpl : ∀ j, j < ps → pl j < 100) : fX7_isCompared M = some (nI (cpd pl ps)) := by
  have h12 := h.2.2.2.2.2.2.2.2
  have h9 := h.2.2.2.2.2.1
  have key : ∀ j m, j ≤ ps → j < m → ∃ a, a ≤ j ∧ fX7_isCompared_7 m (oI j) M = some (oI a) ∧ ((a = 0 ∧ cpd pl j = 0) ∨ (0 < a ∧ cpd pl j = if rk (pl (a - 1)) = 4 then 1 else 0)) := by
    intro j
    induction j with
    | zero =>
      intro m _ hm
      obtain ⟨m, rfl⟩ : ∃ a, m = a + 1 := ⟨m - 1, by omega⟩
      refine ⟨0, Nat.le_refl _, ?_, Or.inl ⟨rfl, rfl⟩⟩
      rw [sX7_isCompared_7, fX7_isCompared_7b, gi_pos (show oI 0 < 0 by decide)]
    | succ j ih =>
      intro m hj hm
      obtain ⟨m, rfl⟩ : ∃ a, m = a + 1 := ⟨m - 1, by omega⟩
      have e := h12 j (by omega)
      have q := rank7 (hpl j (by omega))
      have hle := rk_le (pl j)
      have ec : cpd pl (j + 1) = if rk (pl j) ≤ 4 then (if rk (pl j) = 4 then 1 else 0) else cpd pl j := rfl
      by_cases c : rk (pl j) ≤ 4
      · refine ⟨j + 1, Nat.le_refl _, ?_, Or.inr ⟨by omega, by rw [ec, if_pos c, Nat.add_sub_cancel]⟩⟩
        rw [sX7_isCompared_7, fX7_isCompared_7b, oI_s]
        simp (disch := (first | assumption | trivial | omega)) only [e, q, c, lit, neg1, oI_s, addN, mulN, subN, clN, gdN, ltN, leN, eqN, nIo, oIn, oI_eq, divN, remN, giT, giF, lzE, prE, bdE, smL, smR, shlN, shrN, hasE, andN, orN, bit1, bit0, max7, min7, giTr, giFa, gdp, litL, i2l, addL, mulL, divL, remL, cmLe, cmGt, cmGe, cmEq, eqL]
      · obtain ⟨a, a1, a2, a3⟩ := ih m (by omega) (by omega)
        refine ⟨a, by omega, ?_, by rw [ec, if_neg c]; exact a3⟩
        rw [sX7_isCompared_7, fX7_isCompared_7b, oI_s]
        simp (disch := (first | assumption | trivial | omega)) only [e, q, c, decO, lit, neg1, oI_s, addN, mulN, subN, clN, gdN, ltN, leN, eqN, nIo, oIn, oI_eq, divN, remN, giT, giF, lzE, prE, bdE, smL, smR, shlN, shrN, hasE, andN, orN, bit1, bit0, max7, min7, giTr, giFa, gdp, litL, i2l, addL, mulL, divL, remL, cmLe, cmGt, cmGe, cmEq, eqL]
        exact a2
  obtain ⟨a, a1, a2, a3⟩ := key ps FU (Nat.le_refl _) (by show _ < 5000; omega)
  unfold fX7_isCompared
  rw [h9, lzE, show (nI ps - (1 : Int32)) = oI ps from subO ps, a2, bdE]
  rcases a3 with ⟨rfl, a3⟩ | ⟨a0, a3⟩
  · rw [gi_pos (show oI 0 < 0 by decide), a3]
    rfl
  · obtain ⟨b, rfl⟩ : ∃ b, a = b + 1 := ⟨a - 1, by omega⟩
    rw [Nat.add_sub_cancel] at a3
    have e := h12 b (by omega)
    have q := rank7 (hpl b (by omega))
    have hle := rk_le (pl b)
    rw [oI_s, a3]
    by_cases c : rk (pl b) = 4
    · rw [if_pos c]
      simp (disch := (first | assumption | trivial | omega)) only [e, q, c, lit, neg1, oI_s, addN, mulN, subN, clN, gdN, ltN, leN, eqN, nIo, oIn, oI_eq, divN, remN, giT, giF, lzE, prE, bdE, smL, smR, shlN, shrN, hasE, andN, orN, bit1, bit0, max7, min7, giTr, giFa, gdp, litL, i2l, addL, mulL, divL, remL, cmLe, cmGt, cmGe, cmEq, eqL]
    · rw [if_neg c]
      simp (disch := (first | assumption | trivial | omega)) only [e, q, c, lit, neg1, oI_s, addN, mulN, subN, clN, gdN, ltN, leN, eqN, nIo, oIn, oI_eq, divN, remN, giT, giF, lzE, prE, bdE, smL, smR, shlN, shrN, hasE, andN, orN, bit1, bit0, max7, min7, giTr, giFa, gdp, litL, i2l, addL, mulL, divL, remL, cmLe, cmGt, cmGe, cmEq, eqL]
end MP
