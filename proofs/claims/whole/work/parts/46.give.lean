-- 46: PURE PART: giving, turning away (out of wip/whole/pure by pure.py)
theorem bit_p2 {s j : Nat} : (2 ^ s).testBit j = true ↔ s = j := by
  rw [Nat.testBit_two_pow]
  exact decide_eq_true_iff
theorem p2lt {s : Nat} (hs : s < 12) : 2 ^ s < 4096 := by
  have := p2le s (by omega)
  have : 2 ^ s < 2 ^ 12 := Nat.pow_lt_pow_right (by decide) hs
  omega
theorem case_8 : st_8 V0 := by
  intro a1 IC IM JM hV
  obtain ⟨S, h⟩ := view hV
  have bn := b_nb h
  by_cases c : inR a1 12
  · have i6 := isSlice6_pos c
    have i7 := isSlice7_pos c
    obtain ⟨s, hs, rfl⟩ := c
    have bs := b_sl h hs
    have bw := b_w h
    have p2 := p2lt hs
    by_cases f : S 11 s = 0
    · have ft : (S 10 5).testBit s = true := bs.2.mpr f
      obtain ⟨IC1, IM1, k1, k2, kV, kC, kC1, kM, kM1⟩ := keep hV
      have g := sv_kp h kC kC1 kM1
      have ow1 := own_of kV g
      have hlt : andn (S 10 5) (2 ^ s) < 4096 := Nat.lt_of_le_of_lt andn_le bw.2.2.2.2.2
      have hbit : ∀ j, j < 12 → ((andn (S 10 5) (2 ^ s)).testBit j = true ↔ (S 10 5).testBit j = true ∧ ¬ s = j) := fun j hj => by rw [andn_bit (by omega) (by omega), bit_p2]
      obtain ⟨IC3, IM3, w1, w2, w3⟩ := mutw (S := S) (IC2 := wI IC1 11 4 (nI (andn (S 10 5) (2 ^ s)))) (IM2 := wI IM1 1 (11 + s) (nI 6)) JM kV g (S 10 0) (S 10 1) (S 10 2) (S 10 3) (andn (S 10 5) (2 ^ s)) (fun j => if j = s then 7 else S 11 j) (S 12) (S 13)
        ⟨bw.1, bw.2.1, bw.2.2.1, bw.2.2.2.1, hlt⟩
        (by simp (disch := omega) only [wI_ne, wI_eq]; exact ⟨v_da7 g, v_da6 g, v_dx7 g, v_dx6 g, v_fu7 g, v_fu6 g, v_so7 g, v_so6 g, trivial⟩)
        (fun j hj => by
          have bj := b_sl g hj
          try dsimp only
          by_cases e : j = s
          · subst e
            rw [if_pos rfl, wI_eq, hbit j hj]
            exact ⟨Or.inr rfl, rfl, ⟨fun q => absurd rfl q.2, fun q => absurd q (by decide)⟩⟩
          · rw [if_neg e, wI_ne (by omega), hbit j hj, bj.2]
            exact ⟨bj.1, v_sl7 g hj, ⟨fun q => q.1, fun q => ⟨q, fun x => e x.symm⟩⟩⟩)
        (fun b hb => by
          have bo := b_ow g hb
          refine ⟨bo.1, by rw [wI_o (by omega)]; exact v_ow6 g hb, fun j hj => ?_⟩
          try dsimp only
          by_cases e : j = s
          · subst e
            rw [if_pos rfl, bo.2 j hj, f]
            omega
          · rw [if_neg e]; exact bo.2 j hj)
        (fun b hb => ⟨b_pu g hb, by rw [wI_ne (by omega)]; exact v_pu7 g hb, by rw [wI_o (by omega)]; exact v_pu6 g hb⟩)
        (fun j b hj hb e => by
          try dsimp only at e
          by_cases e2 : j = s
          · rw [if_pos e2] at e; omega
          · rw [if_neg e2] at e; exact ow1 j b hj hb e)
        (fun o h1 h2 h3 => wI_o h1) (wI_ne (by omega)) (fun o h1 => wI_o h1) (fun k hk => wI_ne (by omega)) (k := 1) (x := s) (q := 0) (by omega) hs (by omega)
      refine ⟨1, IC3, IM3, ?_, ?_, w3⟩
      · unfold fX6_give fX6_isFree
        rw [i6]
        have e4 := v_f6 h
        have e4' := v_f6 g
        have w1' : fX5_writeDown 11 1 (nI s) 0 (wI IC1 11 4 (nI (andn (S 10 5) (2 ^ s)))) = some IC3 := w1
        unfold fX6_giveAway
        simp (disch := (first | assumption | trivial | omega)) only [e4, bit1 ft, k1, e4', notN', lit, neg1, oI_s, addN, mulN, subN, clN, gdN, ltN, leN, eqN, nIo, oIn, oI_eq, divN, remN, giT, giF, lzE, prE, bdE, smL, smR, shlN, shrN, hasE, andN, orN, bit1, bit0, max7, min7, giTr, giFa, gdp, litL, i2l, addL, mulL, divL, remL, cmLe, cmGt, cmGe, cmEq, eqL]
        rw [show S 10 5 &&& (4294967295 - 1 * 2 ^ s) = andn (S 10 5) (2 ^ s) by rw [Nat.one_mul]; rfl]
        rw [w1]
        rfl
      · unfold fX7_give fX7_canGive fX7_giveNow
        rw [i7]
        simp (disch := (first | assumption | trivial | omega)) only [k2, v_sl7 h hs, f, lit, neg1, oI_s, addN, mulN, subN, clN, gdN, ltN, leN, eqN, nIo, oIn, oI_eq, divN, remN, giT, giF, lzE, prE, bdE, smL, smR, shlN, shrN, hasE, andN, orN, bit1, bit0, max7, min7, giTr, giFa, gdp, litL, i2l, addL, mulL, divL, remL, cmLe, cmGt, cmGe, cmEq, eqL]
        rw [w2]
        rfl
    · have ft : ¬ (S 10 5).testBit s = true := fun q => f (bs.2.mp q)
      refine ⟨0, IC, IM, ?_, ?_, hV⟩
      · unfold fX6_give fX6_isFree
        rw [i6]
        simp (disch := (first | assumption | trivial | omega)) only [v_f6 h, bit0 ft, lit, neg1, oI_s, addN, mulN, subN, clN, gdN, ltN, leN, eqN, nIo, oIn, oI_eq, divN, remN, giT, giF, lzE, prE, bdE, smL, smR, shlN, shrN, hasE, andN, orN, bit1, bit0, max7, min7, giTr, giFa, gdp, litL, i2l, addL, mulL, divL, remL, cmLe, cmGt, cmGe, cmEq, eqL]
      · unfold fX7_give fX7_canGive
        rw [i7]
        simp (disch := (first | assumption | trivial | omega)) only [v_sl7 h hs, lit, neg1, oI_s, addN, mulN, subN, clN, gdN, ltN, leN, eqN, nIo, oIn, oI_eq, divN, remN, giT, giF, lzE, prE, bdE, smL, smR, shlN, shrN, hasE, andN, orN, bit1, bit0, max7, min7, giTr, giFa, gdp, litL, i2l, addL, mulL, divL, remL, cmLe, cmGt, cmGe, cmEq, eqL]
  · have i6 := isSlice6_neg c
    have i7 := isSlice7_neg c
    refine ⟨0, IC, IM, ?_, ?_, hV⟩
    · unfold fX6_give fX6_isFree
      rw [i6]
      simp (disch := (first | assumption | trivial | omega)) only [lit, neg1, oI_s, addN, mulN, subN, clN, gdN, ltN, leN, eqN, nIo, oIn, oI_eq, divN, remN, giT, giF, lzE, prE, bdE, smL, smR, shlN, shrN, hasE, andN, orN, bit1, bit0, max7, min7, giTr, giFa, gdp, litL, i2l, addL, mulL, divL, remL, cmLe, cmGt, cmGe, cmEq, eqL]
    · unfold fX7_give fX7_canGive
      rw [i7]
      simp (disch := (first | assumption | trivial | omega)) only [lit, neg1, oI_s, addN, mulN, subN, clN, gdN, ltN, leN, eqN, nIo, oIn, oI_eq, divN, remN, giT, giF, lzE, prE, bdE, smL, smR, shlN, shrN, hasE, andN, orN, bit1, bit0, max7, min7, giTr, giFa, gdp, litL, i2l, addL, mulL, divL, remL, cmLe, cmGt, cmGe, cmEq, eqL]
/-- slices, one by one -/
theorem lp_sl (L : Nat → Nat → gI → Option gI) (lo N : Nat) (f g : Nat → Nat) (I : gI) (hI : ∀ j, j < 12 → I 1 (11 + j) = oI (g j)) (h0 : ∀ n a, (∀ j, j < 11 ∨ 23 ≤ j → a 1 j = I 1 j) → L (n + 1) N a = some a) (h1 : ∀ n k a, lo ≤ k → k < N → (∀ j, j < 11 ∨ 23 ≤ j → a 1 j = I 1 j) → a 1 (11 + k) = oI (g k) → L (n + 1) k a = L n (k + 1) (wI a 1 (11 + k) (oI (f k))) ∨ (f k = g k ∧ L (n + 1) k a = L n (k + 1) a)) (hlo : lo ≤ N) (hN : N ≤ 12) : ∃ I', L FU lo I = some I' ∧ (∀ o, o ≠ 1 → I' o = I o) ∧ (∀ j, j < 11 ∨ 23 ≤ j → I' 1 j = I 1 j) ∧ (∀ j, lo ≤ j → j < N → I' 1 (11 + j) = oI (f j)) ∧ ∀ j, j < 12 → j < lo ∨ N ≤ j → I' 1 (11 + j) = I 1 (11 + j) := by
  obtain ⟨I', e, p1, p2, p3, p4⟩ := lp_ex L N (fun k a => lo ≤ k ∧ (∀ o, o ≠ 1 → a o = I o) ∧ (∀ j, j < 11 ∨ 23 ≤ j → a 1 j = I 1 j) ∧ (∀ j, lo ≤ j → j < k → a 1 (11 + j) = oI (f j)) ∧ ∀ j, j < 12 → j < lo ∨ k ≤ j → a 1 (11 + j) = I 1 (11 + j)) (fun a => (∀ o, o ≠ 1 → a o = I o) ∧ (∀ j, j < 11 ∨ 23 ≤ j → a 1 j = I 1 j) ∧ (∀ j, lo ≤ j → j < N → a 1 (11 + j) = oI (f j)) ∧ ∀ j, j < 12 → j < lo ∨ N ≤ j → a 1 (11 + j) = I 1 (11 + j))
    (fun n a hP => ⟨a, h0 n a hP.2.2.1, hP.2⟩)
    (fun n k a hk hP => by
      right
      obtain ⟨q0, q1, q2, q3, q4⟩ := hP
      have e := (q4 k (by omega) (Or.inr (Nat.le_refl k))).trans (hI k (by omega))
      rcases h1 n k a q0 hk q2 e with h | ⟨hf, h⟩
      · refine ⟨_, h, by omega, fun o ho => by rw [wI_o ho]; exact q1 o ho, fun j hj => by rw [wI_ne (by omega)]; exact q2 j hj, fun j hj1 hj2 => ?_, fun j hj1 hj2 => by rw [wI_ne (by omega)]; exact q4 j hj1 (by omega)⟩
        by_cases c : j = k
        · subst c; exact wI_eq
        · rw [wI_ne (by omega)]; exact q3 j hj1 (by omega)
      · refine ⟨_, h, by omega, q1, q2, fun j hj1 hj2 => ?_, fun j hj1 hj2 => q4 j hj1 (by omega)⟩
        by_cases c : j = k
        · subst c; rw [hf]; exact e
        · exact q3 j hj1 (by omega)) (N - lo) lo I FU (by omega) ⟨Nat.le_refl lo, fun _ _ => rfl, fun _ _ => rfl, fun j a b => absurd a (by omega), fun _ _ _ => rfl⟩ (by show _ < 5000; omega)
  exact ⟨I', e, p1, p2, p3, p4⟩
theorem pc_0 : ∀ x, x < 4096 → (pc x = 0 ↔ x = 0) := all64 (by decide +kernel)
theorem case_9 : st_9 V0 := by
  intro a1 IC IM JM hV
  obtain ⟨S, h⟩ := view hV
  have bn := b_nb h
  by_cases c : inR a1 (S 0 0)
  · have i6 := isB6p h c
    have i7 := isB7p h c
    obtain ⟨b, hb, rfl⟩ := c
    have hb6 : b < 6 := by omega
    have bo := b_ow h hb6
    have bw := b_w h
    have hpc := pc_0 (S 12 b) bo.1
    have hple := pc_le (S 12 b)
    by_cases f : S 12 b = 0
    · refine ⟨0, IC, IM, ?_, ?_, hV⟩
      · unfold fX6_turn fX6_hasSlices
        rw [i6]
        simp (disch := (first | assumption | trivial | omega)) only [v_ow6 h, f, lit, neg1, oI_s, addN, mulN, subN, clN, gdN, ltN, leN, eqN, nIo, oIn, oI_eq, divN, remN, giT, giF, lzE, prE, bdE, smL, smR, shlN, shrN, hasE, andN, orN, bit1, bit0, max7, min7, giTr, giFa, gdp, litL, i2l, addL, mulL, divL, remL, cmLe, cmGt, cmGe, cmEq, eqL]
      · unfold fX7_turn fX7_canTurn
        rw [i7]
        simp (disch := (first | assumption | trivial | omega)) only [hn7 h, hpc.mpr f, lit, neg1, oI_s, addN, mulN, subN, clN, gdN, ltN, leN, eqN, nIo, oIn, oI_eq, divN, remN, giT, giF, lzE, prE, bdE, smL, smR, shlN, shrN, hasE, andN, orN, bit1, bit0, max7, min7, giTr, giFa, gdp, litL, i2l, addL, mulL, divL, remL, cmLe, cmGt, cmGe, cmEq, eqL]
    · have f2 : ¬ pc (S 12 b) = 0 := fun q => f (hpc.mp q)
      obtain ⟨IC1, IM1, k1, k2, kV, kC, kC1, kM, kM1⟩ := keep hV
      have g := sv_kp h kC kC1 kM1
      have ow1 := own_of kV g
      have hor : S 10 5 ||| S 12 b < 4096 := Nat.or_lt_two_pow (n := 12) bw.2.2.2.2.2 bo.1
      obtain ⟨IM2, t1, t2, t3, t4, t5⟩ := lp_sl (fun n k a => fX7_turnNow_2 n (nI b) (nI k) a) 0 12 (fun j => if S 11 j = b + 1 then 0 else S 11 j) (S 11) IM1 (fun j hj => v_sl7 g hj)
        (fun n a _ => by
          try dsimp only
          rw [sX7_turnNow_2, fX7_turnNow_2b]
          simp (disch := (first | assumption | trivial | omega)) only [lit, neg1, oI_s, addN, mulN, subN, clN, gdN, ltN, leN, eqN, nIo, oIn, oI_eq, divN, remN, giT, giF, lzE, prE, bdE, smL, smR, shlN, shrN, hasE, andN, orN, bit1, bit0, max7, min7, giTr, giFa, gdp, litL, i2l, addL, mulL, divL, remL, cmLe, cmGt, cmGe, cmEq, eqL])
        (fun n k a _ hk _ e => by
          try dsimp only
          have bk := b_sl g hk
          rw [sX7_turnNow_2, fX7_turnNow_2b]
          by_cases q : S 11 k = b + 1
          · left
            rw [if_pos q]
            simp (disch := (first | assumption | trivial | omega)) only [e, q, lit, neg1, oI_s, addN, mulN, subN, clN, gdN, ltN, leN, eqN, nIo, oIn, oI_eq, divN, remN, giT, giF, lzE, prE, bdE, smL, smR, shlN, shrN, hasE, andN, orN, bit1, bit0, max7, min7, giTr, giFa, gdp, litL, i2l, addL, mulL, divL, remL, cmLe, cmGt, cmGe, cmEq, eqL]
          · right
            rw [if_neg q]
            refine ⟨rfl, ?_⟩
            simp (disch := (first | assumption | trivial | omega)) only [e, q, lit, neg1, oI_s, addN, mulN, subN, clN, gdN, ltN, leN, eqN, nIo, oIn, oI_eq, divN, remN, giT, giF, lzE, prE, bdE, smL, smR, shlN, shrN, hasE, andN, orN, bit1, bit0, max7, min7, giTr, giFa, gdp, litL, i2l, addL, mulL, divL, remL, cmLe, cmGt, cmGe, cmEq, eqL]) (by omega) (by omega)
      try dsimp only at t1
      obtain ⟨IC3, IM3, w1, w2, w3⟩ := mutw (S := S) (IC2 := wI (wI IC1 11 4 (nI (S 10 5 ||| S 12 b))) 13 b (nI 0)) (IM2 := IM2) JM kV g (S 10 0) (S 10 1) (S 10 2) (S 10 3) (S 10 5 ||| S 12 b) (fun j => if S 11 j = b + 1 then 0 else S 11 j) (fun j => if j = b then 0 else S 12 j) (S 13)
        ⟨bw.1, bw.2.1, bw.2.2.1, bw.2.2.2.1, hor⟩
        (by rw [t3 6 (by omega), t3 7 (by omega), t3 8 (by omega), t3 9 (by omega)]; simp (disch := omega) only [wI_ne, wI_eq, wI_o]; exact ⟨v_da7 g, v_da6 g, v_dx7 g, v_dx6 g, v_fu7 g, v_fu6 g, v_so7 g, v_so6 g, trivial⟩)
        (fun j hj => by
          have bj := b_sl g hj
          refine ⟨?_, t4 j (by omega) hj, ?_⟩
          · try dsimp only
            by_cases e : S 11 j = b + 1
            · rw [if_pos e]; omega
            · rw [if_neg e]; exact bj.1
          · try dsimp only
            rw [Nat.testBit_or, Bool.or_eq_true, bj.2, bo.2 j hj]
            by_cases e : S 11 j = b + 1
            · rw [if_pos e]; exact ⟨fun _ => rfl, fun _ => Or.inr e⟩
            · rw [if_neg e]; exact ⟨fun q => q.elim id (fun q => absurd q e), Or.inl⟩)
        (fun d hd => by
          have bd' := b_ow g hd
          try dsimp only
          by_cases e : d = b
          · subst e
            rw [if_pos rfl, wI_eq]
            refine ⟨by omega, rfl, fun j hj => ?_⟩
            rw [Nat.zero_testBit]
            by_cases e2 : S 11 j = d + 1
            · rw [if_pos e2]; exact ⟨fun q => absurd q (by decide), fun q => absurd q (by omega)⟩
            · rw [if_neg e2]; exact ⟨fun q => absurd q (by decide), fun q => absurd q e2⟩
          · rw [if_neg e, wI_ne (by omega), wI_o (by omega)]
            refine ⟨bd'.1, v_ow6 g hd, fun j hj => ?_⟩
            rw [bd'.2 j hj]
            by_cases e2 : S 11 j = b + 1
            · rw [if_pos e2]; omega
            · rw [if_neg e2])
        (fun d hd => ⟨b_pu g hd, by rw [t3 _ (by omega)]; exact v_pu7 g hd, by rw [wI_o (by omega), wI_o (by omega)]; exact v_pu6 g hd⟩)
        (fun j d hj hd e => by
          try dsimp only at e
          by_cases e2 : S 11 j = b + 1
          · rw [if_pos e2] at e; omega
          · rw [if_neg e2] at e; exact ow1 j d hj hd e)
        (fun o h1 h2 h3 => by rw [wI_o h3, wI_o h1]) (by rw [wI_o (by omega), wI_ne (by omega)]) (fun o h1 => t2 o h1) (fun k hk => t3 k (by omega)) (k := 2) (x := b) (q := 0) (by omega) (by omega) (by omega)
      refine ⟨1, IC3, IM3, ?_, ?_, w3⟩
      · unfold fX6_turn fX6_hasSlices
        rw [i6]
        unfold fX6_turnAway
        simp (disch := (first | assumption | trivial | omega)) only [v_ow6 h, f, k1, v_ow6 g, v_f6 g, wI_o, lit, neg1, oI_s, addN, mulN, subN, clN, gdN, ltN, leN, eqN, nIo, oIn, oI_eq, divN, remN, giT, giF, lzE, prE, bdE, smL, smR, shlN, shrN, hasE, andN, orN, bit1, bit0, max7, min7, giTr, giFa, gdp, litL, i2l, addL, mulL, divL, remL, cmLe, cmGt, cmGe, cmEq, eqL]
        rw [w1]
        rfl
      · unfold fX7_turn fX7_canTurn
        rw [i7]
        unfold fX7_turnNow
        simp (disch := (first | assumption | trivial | omega)) only [hn7 h, f2, k2, show fX7_turnNow_2 FU (nI b) (nI 0) IM1 = some IM2 from t1, Nat.le_zero, lit, neg1, oI_s, addN, mulN, subN, clN, gdN, ltN, leN, eqN, nIo, oIn, oI_eq, divN, remN, giT, giF, lzE, prE, bdE, smL, smR, shlN, shrN, hasE, andN, orN, bit1, bit0, max7, min7, giTr, giFa, gdp, litL, i2l, addL, mulL, divL, remL, cmLe, cmGt, cmGe, cmEq, eqL]
        rw [w2]
        rfl
  · have i6 := isB6n h c
    have i7 := isB7n h c
    refine ⟨0, IC, IM, ?_, ?_, hV⟩
    · unfold fX6_turn fX6_hasSlices
      rw [i6]
      simp (disch := (first | assumption | trivial | omega)) only [lit, neg1, oI_s, addN, mulN, subN, clN, gdN, ltN, leN, eqN, nIo, oIn, oI_eq, divN, remN, giT, giF, lzE, prE, bdE, smL, smR, shlN, shrN, hasE, andN, orN, bit1, bit0, max7, min7, giTr, giFa, gdp, litL, i2l, addL, mulL, divL, remL, cmLe, cmGt, cmGe, cmEq, eqL]
    · unfold fX7_turn fX7_canTurn
      rw [i7]
      simp (disch := (first | assumption | trivial | omega)) only [lit, neg1, oI_s, addN, mulN, subN, clN, gdN, ltN, leN, eqN, nIo, oIn, oI_eq, divN, remN, giT, giF, lzE, prE, bdE, smL, smR, shlN, shrN, hasE, andN, orN, bit1, bit0, max7, min7, giTr, giFa, gdp, litL, i2l, addL, mulL, divL, remL, cmLe, cmGt, cmGe, cmEq, eqL]
theorem rngm {x : Int32} {n : Nat} (hn : n < 2147483647) : ((x = oI 0 ∨ inR x n) ∧ fX7_isIn x (oI 0) (nI n - 1) = nI 1) ∨ (¬ x = oI 0 ∧ ¬ inR x n ∧ fX7_isIn x (oI 0) (nI n - 1) = nI 0) := by
  by_cases c : x = oI 0
  · subst c
    refine Or.inl ⟨Or.inl rfl, ?_⟩
    unfold fX7_isIn
    rw [gi_neg (by decide)]
    rw [gi_neg]
    · rfl
    · rw [lt_toInt]
      have e0 : (oI 0).toInt = -1 := by decide
      cases n with
      | zero => decide
      | succ m =>
        rw [show nI (m + 1) - 1 = nI m by (show nI (m + 1) - nI 1 = nI m); rw [subN (by omega), Nat.add_sub_cancel]]
        rw [nI_toInt (by omega), e0]
        omega
  · rcases rng7 (x := x) hn with ⟨h1, h2⟩ | ⟨h1, h2⟩
    · refine Or.inl ⟨Or.inr h1, ?_⟩
      obtain ⟨k, hk, rfl⟩ := h1
      unfold fX7_isIn at h2 ⊢
      rw [gi_neg (nI_pos (by omega))] at h2
      rw [gi_neg]
      · exact h2
      · rw [lt_toInt, nI_toInt (by omega)]
        have e0 : (oI 0).toInt = -1 := by decide
        omega
    · refine Or.inr ⟨c, h1, ?_⟩
      unfold fX7_isIn at h2 ⊢
      by_cases c0 : x < oI 0
      · rw [gi_pos c0]; rfl
      · rw [gi_neg c0]
        have c1 : ¬ x < 0 := by
          intro q
          rw [lt_toInt] at q c0
          have e0 : (oI 0).toInt = -1 := by decide
          have e1 : (0 : Int32).toInt = 0 := by decide
          have e2 : ¬ x.toInt = (oI 0).toInt := fun q => c (Int32.toInt_inj.mp q)
          omega
        rw [gi_neg c1] at h2
        exact h2
