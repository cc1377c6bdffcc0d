-- 47: PURE PART: by, paid, said, a buyer more (out of wip/whole/pure by pure.py)
theorem case_6 : st_6 V0 := by
  intro a1 IC IM JM hV
  obtain ⟨S, h⟩ := view hV
  have bn := b_nb h
  have e7 := v_nt7 h
  rcases rngm (x := a1) (n := S 0 1) (by omega) with ⟨c, i7⟩ | ⟨c1, c2, i7⟩
  · refine ⟨1, wI IC 1 14 a1, wI IM 1 2 a1, ?_, ?_, ?_⟩
    · unfold fX6_by
      rcases c with rfl | c
      · rw [lzE, gi_pos (show oI 0 = (-1 : Int32) from rfl)]
        rfl
      · have i6 := isT6p h c
        obtain ⟨t, ht, rfl⟩ := c
        rw [i6]
        simp (disch := (first | assumption | trivial | omega)) only [lit, neg1, oI_s, addN, mulN, subN, clN, gdN, ltN, leN, eqN, nIo, oIn, oI_eq, divN, remN, giT, giF, lzE, prE, bdE, smL, smR, shlN, shrN, hasE, andN, orN, bit1, bit0, max7, min7, giTr, giFa, gdp, litL, i2l, addL, mulL, divL, remL, cmLe, cmGt, cmGe, cmEq, eqL]
        all_goals rfl
    · unfold fX7_by
      rw [e7, show fX7_isIn a1 (-1) (nI (S 0 1) - 1) = nI 1 from i7]
      simp (disch := (first | assumption | trivial | omega)) only [lit, neg1, oI_s, addN, mulN, subN, clN, gdN, ltN, leN, eqN, nIo, oIn, oI_eq, divN, remN, giT, giF, lzE, prE, bdE, smL, smR, shlN, shrN, hasE, andN, orN, bit1, bit0, max7, min7, giTr, giFa, gdp, litL, i2l, addL, mulL, divL, remL, cmLe, cmGt, cmGe, cmEq, eqL]
      all_goals rfl
    · obtain ⟨nb, nt, mb, mt, h1, ⟨p1, p2, p3, p4, p5, p6, p7, p8, p9⟩, h3, h4, h5⟩ := hV
      obtain ⟨n1, n2⟩ := nb_of h p1
      obtain ⟨x1, x2, x3, x4, x5, x6, x7, x8⟩ := p1
      refine ⟨nb, nt, mb, mt, h1, ⟨?_, rPaid_congr p2 ⟨by first | rfl | simp (disch := omega) only [wI_ne, wI_o], by first | rfl | simp (disch := omega) only [wI_ne, wI_o]⟩ (by first | rfl | simp (disch := omega) only [wI_ne, wI_o]) (fun _ _ _ => by first | rfl | simp (disch := omega) only [wI_ne, wI_o]), rSaid_congr p3 (by first | rfl | simp (disch := omega) only [wI_ne, wI_o]) (by first | rfl | simp (disch := omega) only [wI_ne, wI_o]) (by first | rfl | simp (disch := omega) only [wI_ne, wI_o]) (by first | rfl | simp (disch := omega) only [wI_ne, wI_o]) (fun _ _ _ => by first | rfl | simp (disch := omega) only [wI_ne, wI_o]), rOdds_congr p4 (by first | rfl | simp (disch := omega) only [wI_ne, wI_o]) (by first | rfl | simp (disch := omega) only [wI_ne, wI_o]) (fun _ _ _ => by first | rfl | simp (disch := omega) only [wI_ne, wI_o]), rBuy_congr p5 (by first | rfl | simp (disch := omega) only [wI_ne, wI_o]) (by first | rfl | simp (disch := omega) only [wI_ne, wI_o]) (by first | rfl | simp (disch := omega) only [wI_ne, wI_o]) (by first | rfl | simp (disch := omega) only [wI_ne, wI_o]) (fun _ _ _ => by first | rfl | simp (disch := omega) only [wI_ne, wI_o]), rVals_congr p6 (by first | rfl | simp (disch := omega) only [wI_ne, wI_o]) (fun _ _ _ => by first | rfl | simp (disch := omega) only [wI_ne, wI_o]), rWall_congr p7 (by first | rfl | simp (disch := omega) only [wI_ne, wI_o]) (by first | rfl | simp (disch := omega) only [wI_ne, wI_o]) (by first | rfl | simp (disch := omega) only [wI_ne, wI_o]) (by first | rfl | simp (disch := omega) only [wI_ne, wI_o]) (fun _ _ => by first | rfl | simp (disch := omega) only [wI_ne, wI_o]) (fun _ _ => by first | rfl | simp (disch := omega) only [wI_ne, wI_o]), rSteps_congr p8 ⟨by first | rfl | simp (disch := omega) only [wI_ne, wI_o], by first | rfl | simp (disch := omega) only [wI_ne, wI_o]⟩ (by first | rfl | simp (disch := omega) only [wI_ne, wI_o]) (fun _ _ => by first | rfl | simp (disch := omega) only [wI_ne, wI_o]) (by first | rfl | simp (disch := omega) only [wI_ne, wI_o]) (fun _ _ _ => by first | rfl | simp (disch := omega) only [wI_ne, wI_o]), rOwn_congr p9 (fun _ _ => by first | rfl | simp (disch := omega) only [wI_ne, wI_o])⟩, rPort_congr h3 (fun _ _ _ => by first | rfl | simp (disch := omega) only [wI_ne, wI_o]) (by first | rfl | simp (disch := omega) only [wI_ne, wI_o]), rTape_congr h4 (by first | rfl | simp (disch := omega) only [wI_ne, wI_o]) (by first | rfl | simp (disch := omega) only [wI_ne, wI_o]) (by first | rfl | simp (disch := omega) only [wI_ne, wI_o]) ⟨by first | rfl | simp (disch := omega) only [wI_ne, wI_o], by first | rfl | simp (disch := omega) only [wI_ne, wI_o], by first | rfl | simp (disch := omega) only [wI_ne, wI_o], by first | rfl | simp (disch := omega) only [wI_ne, wI_o]⟩, fun t ht => rText_congr (h5 t ht) (fun _ _ => by first | rfl | simp (disch := omega) only [wI_ne, wI_o]) (fun _ _ => by first | rfl | simp (disch := omega) only [wI_ne, wI_o])⟩
      refine ⟨x1, x2, ?_, ?_, ?_, ?_, ?_, ?_⟩
      · rw [wI_ne (by omega)]; exact x3
      · rw [wI_ne (by omega)]; exact x4
      · rw [wI_ne (by omega)]; exact x5
      · rw [wI_ne (by omega)]; exact x6
      · rw [wI_eq, wI_eq]
      · rw [wI_eq]
        rcases c with rfl | ⟨t, ht, rfl⟩
        · exact Or.inl rfl
        · exact Or.inr ⟨t, by omega, rfl⟩
  · refine ⟨0, IC, IM, ?_, ?_, hV⟩
    · unfold fX6_by
      rw [isT6n h c2, lzE, gi_neg (show ¬ a1 = -1 from c1)]
      simp (disch := (first | assumption | trivial | omega)) only [lit, neg1, oI_s, addN, mulN, subN, clN, gdN, ltN, leN, eqN, nIo, oIn, oI_eq, divN, remN, giT, giF, lzE, prE, bdE, smL, smR, shlN, shrN, hasE, andN, orN, bit1, bit0, max7, min7, giTr, giFa, gdp, litL, i2l, addL, mulL, divL, remL, cmLe, cmGt, cmGe, cmEq, eqL]
      all_goals rfl
    · unfold fX7_by
      rw [e7, show fX7_isIn a1 (-1) (nI (S 0 1) - 1) = nI 0 from i7]
      simp (disch := (first | assumption | trivial | omega)) only [lit, neg1, oI_s, addN, mulN, subN, clN, gdN, ltN, leN, eqN, nIo, oIn, oI_eq, divN, remN, giT, giF, lzE, prE, bdE, smL, smR, shlN, shrN, hasE, andN, orN, bit1, bit0, max7, min7, giTr, giFa, gdp, litL, i2l, addL, mulL, divL, remL, cmLe, cmGt, cmGe, cmEq, eqL]
      all_goals rfl
theorem pc_up : ∀ t, t < 64 → ∀ b, b < 6 → t.testBit b = false → pc (t ||| 2 ^ b) = pc t + 1 := by decide +kernel
theorem or64 : ∀ t, t < 64 → ∀ b, b < 6 → t ||| 2 ^ b < 64 := by decide +kernel
theorem bz_01 (x : Int32) : bz x = nI 0 ∨ bz x = nI 1 := by
  unfold bz
  by_cases c : x = 0
  · rw [gi_pos c]; exact Or.inl rfl
  · rw [gi_neg c]; exact Or.inr rfl
theorem or_bit {t b i : Nat} : (t ||| 2 ^ b).testBit i = true ↔ t.testBit i = true ∨ b = i := by
  rw [Nat.testBit_or, Bool.or_eq_true, bit_p2]
theorem case_27 : st_27 V0 := by
  intro a1 a2 IC IM JM hV
  obtain ⟨S, h⟩ := view hV
  have bn := b_nb h
  by_cases c0 : a1 = oI 0
  · subst c0
    have R7 := lp_ex (fun n k (a : gI) => fX7_paid_7 n (nI k) a) 6 (fun k a => (∀ o, o ≠ 1 → a o = IM o) ∧ (∀ j, j < 63 ∨ 69 ≤ j → a 1 j = IM 1 j) ∧ ∀ j, j < k → a 1 (63 + j) = nI 0) (fun a => (∀ o, o ≠ 1 → a o = IM o) ∧ (∀ j, j < 63 ∨ 69 ≤ j → a 1 j = IM 1 j) ∧ ∀ j, j < 6 → a 1 (63 + j) = nI 0)
      (fun n a hP => by
        try dsimp only
        refine ⟨a, ?_, hP⟩
        rw [sX7_paid_7, fX7_paid_7b]
        simp (disch := (first | assumption | trivial | omega)) only [lit, neg1, oI_s, addN, mulN, subN, clN, gdN, ltN, leN, eqN, nIo, oIn, oI_eq, divN, remN, giT, giF, lzE, prE, bdE, smL, smR, shlN, shrN, hasE, andN, orN, bit1, bit0, max7, min7, giTr, giFa, gdp, litL, i2l, addL, mulL, divL, remL, cmLe, cmGt, cmGe, cmEq, eqL])
      (fun n k a hk hP => by
        try dsimp only at hP ⊢
        obtain ⟨q1, q2, q3⟩ := hP
        right
        refine ⟨wI a 1 (63 + k) (nI 0), ?_, fun o ho => by rw [wI_o ho]; exact q1 o ho, fun j hj => by rw [wI_ne (by omega)]; exact q2 j hj, fun j hj => ?_⟩
        · rw [sX7_paid_7, fX7_paid_7b]
          simp (disch := (first | assumption | trivial | omega)) only [lit, neg1, oI_s, addN, mulN, subN, clN, gdN, ltN, leN, eqN, nIo, oIn, oI_eq, divN, remN, giT, giF, lzE, prE, bdE, smL, smR, shlN, shrN, hasE, andN, orN, bit1, bit0, max7, min7, giTr, giFa, gdp, litL, i2l, addL, mulL, divL, remL, cmLe, cmGt, cmGe, cmEq, eqL]
        · by_cases e : j = k
          · subst e; exact wI_eq
          · rw [wI_ne (by omega)]; exact q3 j (by omega)) 6 0 IM FU (by omega) ⟨fun _ _ => rfl, fun _ _ => rfl, fun j hj => absurd hj (by omega)⟩ (by show _ < 5000; omega)
    obtain ⟨I1, e1, q1, q2, q3⟩ := R7
    try dsimp only at e1
    refine ⟨0, wI (wI IC 1 16 0) 1 17 0, wI I1 1 4 0, gi_pos (show oI 0 = (-1 : Int32) from rfl), ?_, ?_⟩
    · unfold fX7_paid
      rw [gi_pos (show oI 0 = (-1 : Int32) from rfl), show fX7_paid_7 FU 0 IM = some I1 from e1]
      rfl
    · have hM : ∀ k, k < 63 ∨ 69 ≤ k → k ≠ 4 → wI I1 1 4 0 1 k = IM 1 k := fun k h1 h2 => by rw [wI_ne (by omega)]; exact q2 k h1
      obtain ⟨nb, nt, mb, mt, h1, ⟨p1, p2, p3, p4, p5, p6, p7, p8, p9⟩, h3, h4, h5⟩ := hV
      refine ⟨nb, nt, mb, mt, h1, ⟨rHead_congr p1 ⟨by first | rfl | simp (disch := omega) only [wI_ne, wI_o], by first | rfl | simp (disch := omega) only [wI_ne, wI_o], by first | rfl | simp (disch := omega) only [wI_ne, wI_o]⟩ (fun k hk => hM k (by omega) (by omega)), ?_, rSaid_congr p3 (by first | rfl | simp (disch := omega) only [wI_ne, wI_o]) (by first | rfl | simp (disch := omega) only [wI_ne, wI_o]) (by first | rfl | simp (disch := omega) only [wI_ne, wI_o]) (hM 5 (by omega) (by omega)) (fun k _ _ => hM k (by omega) (by omega)), rOdds_congr p4 (by first | rfl | simp (disch := omega) only [wI_ne, wI_o]) (by first | rfl | simp (disch := omega) only [wI_ne, wI_o]) (fun k _ _ => hM k (by omega) (by omega)), rBuy_congr p5 (by first | rfl | simp (disch := omega) only [wI_ne, wI_o]) (by first | rfl | simp (disch := omega) only [wI_ne, wI_o]) (by first | rfl | simp (disch := omega) only [wI_ne, wI_o]) (by first | rfl | simp (disch := omega) only [wI_ne, wI_o]) (fun k _ _ => hM k (by omega) (by omega)), rVals_congr p6 (by first | rfl | simp (disch := omega) only [wI_ne, wI_o]) (fun k _ _ => hM k (by omega) (by omega)), rWall_congr p7 (by first | rfl | simp (disch := omega) only [wI_ne, wI_o]) (by first | rfl | simp (disch := omega) only [wI_ne, wI_o]) (by first | rfl | simp (disch := omega) only [wI_ne, wI_o]) (by first | rfl | simp (disch := omega) only [wI_ne, wI_o]) (fun k _ => hM _ (by omega) (by omega)) (fun k _ => hM _ (by omega) (by omega)), rSteps_congr p8 ⟨by first | rfl | simp (disch := omega) only [wI_ne, wI_o], by first | rfl | simp (disch := omega) only [wI_ne, wI_o]⟩ (by first | rfl | simp (disch := omega) only [wI_ne, wI_o]) (fun _ _ => by first | rfl | simp (disch := omega) only [wI_ne, wI_o]) (hM 3 (by omega) (by omega)) (fun k _ _ => hM k (by omega) (by omega)), rOwn_congr p9 (fun k _ => hM k (by omega) (by omega))⟩, rPort_congr h3 (fun _ _ _ => by first | rfl | simp (disch := omega) only [wI_ne, wI_o]) (by rw [wI_o (by omega)]; exact q1 2 (by omega)), rTape_congr h4 (by first | rfl | simp (disch := omega) only [wI_ne, wI_o]) (by first | rfl | simp (disch := omega) only [wI_ne, wI_o]) (by rw [wI_o (by omega)]; exact q1 4 (by omega)) ⟨by rw [wI_o (by omega), q1 0 (by omega)], by rw [wI_o (by omega), q1 0 (by omega)], by rw [wI_o (by omega), q1 0 (by omega)], by rw [wI_o (by omega), q1 0 (by omega)]⟩, fun t ht => rText_congr (h5 t ht) (fun _ _ => by first | rfl | simp (disch := omega) only [wI_ne, wI_o]) (fun k _ => by rw [wI_o (by omega), q1 3 (by omega)])⟩
      refine ⟨0, 0, by omega, by omega, ?_, wI_eq, ?_, fun b hb => Or.inl ⟨?_, Nat.zero_testBit b, Nat.zero_testBit b⟩⟩
      · rw [wI_ne (by omega), wI_eq]; rfl
      · rw [wI_eq, bitCount6 0 (by omega)]; rfl
      · rw [wI_ne (by omega)]; exact q3 b hb
  · by_cases c : inR a1 (S 0 0)
    · have i6 := isB6p h c
      have i7 := isB7p h c
      obtain ⟨b, hb, rfl⟩ := c
      have hV' := hV
      obtain ⟨nb, nt, mb, mt, h1, ⟨p1, p2, p3, p4, p5, p6, p7, p8, p9⟩, h3, h4, h5⟩ := hV
      obtain ⟨n1, n2⟩ := nb_of h p1
      obtain ⟨t, d, u1, u2, u3, u4, u5, u6⟩ := p2
      have hb6 : b < 6 := by omega
      by_cases f : t.testBit b = true
      · have u := u6 b hb6
        have hne : ¬ IM 1 (63 + b) = nI 0 := by
          rcases u with ⟨x1, x2, x3⟩ | ⟨x0, x1, x2, x3⟩ | ⟨x0, x1, x2, x3⟩
          · rw [f] at x2; exact absurd x2 (by decide)
          · rw [x1]; decide
          · rw [x1]; decide
        refine ⟨-2, IC, IM, ?_, ?_, hV'⟩
        · unfold fX6_paid
          rw [i6]
          simp (disch := (first | assumption | trivial | omega)) only [u3, bit1 f, lit, neg1, oI_s, addN, mulN, subN, clN, gdN, ltN, leN, eqN, nIo, oIn, oI_eq, divN, remN, giT, giF, lzE, prE, bdE, smL, smR, shlN, shrN, hasE, andN, orN, bit1, bit0, max7, min7, giTr, giFa, gdp, litL, i2l, addL, mulL, divL, remL, cmLe, cmGt, cmGe, cmEq, eqL]
          all_goals rfl
        · unfold fX7_paid
          rw [i7]
          simp (disch := (first | assumption | trivial | omega)) only [hne, lit, neg1, oI_s, addN, mulN, subN, clN, gdN, ltN, leN, eqN, nIo, oIn, oI_eq, divN, remN, giT, giF, lzE, prE, bdE, smL, smR, shlN, shrN, hasE, andN, orN, bit1, bit0, max7, min7, giTr, giFa, gdp, litL, i2l, addL, mulL, divL, remL, cmLe, cmGt, cmGe, cmEq, eqL]
      · have f' : t.testBit b = false := by simpa using f
        have u := u6 b hb6
        have hz : IM 1 (63 + b) = nI 0 := by
          rcases u with ⟨x1, x2, x3⟩ | ⟨x0, x1, x2, x3⟩ | ⟨x0, x1, x2, x3⟩
          · exact x1
          · exact absurd x2 f
          · exact absurd x2 f
        have hdz : ¬ d.testBit b = true := by
          rcases u with ⟨x1, x2, x3⟩ | ⟨x0, x1, x2, x3⟩ | ⟨x0, x1, x2, x3⟩
          · rw [x3]; decide
          · exact absurd x2 f
          · exact absurd x2 f
        have p2' : (2 : Nat) ^ b < 4096 := p2lt (by omega)
        have ht' := or64 t u1 b hb6
        have hd' := or64 d u2 b hb6
        have e4 : IM 1 4 = nI (pc t) := by rw [u5]; exact bitCount6 t (by omega)
        have hp := pc_up t u1 b hb6 f'
        have hle := pc_le t
        have hbc : fJ6_bitCount_0f7a4 (nI (t ||| 2 ^ b)) = nI (pc t + 1) := by rw [bitCount6 _ (by omega), hp]
        rcases bz_01 a2 with z | z
        · refine ⟨nI (pc t + 1), wI IC 1 16 (nI (t ||| 2 ^ b)), wI (wI IM 1 (63 + b) (nI 2)) 1 4 (nI (pc t + 1)), ?_, ?_, ?_⟩
          · unfold fX6_paid
            rw [i6, z]
            simp (disch := (first | assumption | trivial | omega)) only [u3, bit0 f, Nat.one_mul, wI_eq, hbc, lit, neg1, oI_s, addN, mulN, subN, clN, gdN, ltN, leN, eqN, nIo, oIn, oI_eq, divN, remN, giT, giF, lzE, prE, bdE, smL, smR, shlN, shrN, hasE, andN, orN, bit1, bit0, max7, min7, giTr, giFa, gdp, litL, i2l, addL, mulL, divL, remL, cmLe, cmGt, cmGe, cmEq, eqL]
            all_goals rfl
          · unfold fX7_paid
            rw [i7, z]
            simp (disch := (first | assumption | trivial | omega)) only [hz, e4, wI_ne, wI_eq, lit, neg1, oI_s, addN, mulN, subN, clN, gdN, ltN, leN, eqN, nIo, oIn, oI_eq, divN, remN, giT, giF, lzE, prE, bdE, smL, smR, shlN, shrN, hasE, andN, orN, bit1, bit0, max7, min7, giTr, giFa, gdp, litL, i2l, addL, mulL, divL, remL, cmLe, cmGt, cmGe, cmEq, eqL]
          · refine ⟨nb, nt, mb, mt, h1, ⟨rHead_congr p1 ⟨by first | rfl | simp (disch := omega) only [wI_ne, wI_o], by first | rfl | simp (disch := omega) only [wI_ne, wI_o], by first | rfl | simp (disch := omega) only [wI_ne, wI_o]⟩ (fun _ _ => by first | rfl | simp (disch := omega) only [wI_ne, wI_o]), ?_, rSaid_congr p3 (by first | rfl | simp (disch := omega) only [wI_ne, wI_o]) (by first | rfl | simp (disch := omega) only [wI_ne, wI_o]) (by first | rfl | simp (disch := omega) only [wI_ne, wI_o]) (by first | rfl | simp (disch := omega) only [wI_ne, wI_o]) (fun _ _ _ => by first | rfl | simp (disch := omega) only [wI_ne, wI_o]), rOdds_congr p4 (by first | rfl | simp (disch := omega) only [wI_ne, wI_o]) (by first | rfl | simp (disch := omega) only [wI_ne, wI_o]) (fun _ _ _ => by first | rfl | simp (disch := omega) only [wI_ne, wI_o]), rBuy_congr p5 (by first | rfl | simp (disch := omega) only [wI_ne, wI_o]) (by first | rfl | simp (disch := omega) only [wI_ne, wI_o]) (by first | rfl | simp (disch := omega) only [wI_ne, wI_o]) (by first | rfl | simp (disch := omega) only [wI_ne, wI_o]) (fun _ _ _ => by first | rfl | simp (disch := omega) only [wI_ne, wI_o]), rVals_congr p6 (by first | rfl | simp (disch := omega) only [wI_ne, wI_o]) (fun _ _ _ => by first | rfl | simp (disch := omega) only [wI_ne, wI_o]), rWall_congr p7 (by first | rfl | simp (disch := omega) only [wI_ne, wI_o]) (by first | rfl | simp (disch := omega) only [wI_ne, wI_o]) (by first | rfl | simp (disch := omega) only [wI_ne, wI_o]) (by first | rfl | simp (disch := omega) only [wI_ne, wI_o]) (fun _ _ => by first | rfl | simp (disch := omega) only [wI_ne, wI_o]) (fun _ _ => by first | rfl | simp (disch := omega) only [wI_ne, wI_o]), rSteps_congr p8 ⟨by first | rfl | simp (disch := omega) only [wI_ne, wI_o], by first | rfl | simp (disch := omega) only [wI_ne, wI_o]⟩ (by first | rfl | simp (disch := omega) only [wI_ne, wI_o]) (fun _ _ => by first | rfl | simp (disch := omega) only [wI_ne, wI_o]) (by first | rfl | simp (disch := omega) only [wI_ne, wI_o]) (fun _ _ _ => by first | rfl | simp (disch := omega) only [wI_ne, wI_o]), rOwn_congr p9 (fun _ _ => by first | rfl | simp (disch := omega) only [wI_ne, wI_o])⟩, rPort_congr h3 (fun _ _ _ => by first | rfl | simp (disch := omega) only [wI_ne, wI_o]) (by first | rfl | simp (disch := omega) only [wI_ne, wI_o]), rTape_congr h4 (by first | rfl | simp (disch := omega) only [wI_ne, wI_o]) (by first | rfl | simp (disch := omega) only [wI_ne, wI_o]) (by first | rfl | simp (disch := omega) only [wI_ne, wI_o]) ⟨by first | rfl | simp (disch := omega) only [wI_ne, wI_o], by first | rfl | simp (disch := omega) only [wI_ne, wI_o], by first | rfl | simp (disch := omega) only [wI_ne, wI_o], by first | rfl | simp (disch := omega) only [wI_ne, wI_o]⟩, fun t ht => rText_congr (h5 t ht) (fun _ _ => by first | rfl | simp (disch := omega) only [wI_ne, wI_o]) (fun _ _ => by first | rfl | simp (disch := omega) only [wI_ne, wI_o])⟩
            refine ⟨t ||| 2 ^ b, d, ht', u2, wI_eq, ?_, ?_, fun j hj => ?_⟩
            · rw [wI_ne (by omega)]; exact u4
            · rw [wI_eq, hbc]
            · rw [wI_ne (by omega)]
              by_cases e : j = b
              · subst e
                exact Or.inr (Or.inr ⟨by omega, wI_eq, or_bit.mpr (Or.inr rfl), by simpa using hdz⟩)
              · rw [wI_ne (by omega)]
                have : (t ||| 2 ^ b).testBit j = t.testBit j := by
                  rw [Bool.eq_iff_iff, or_bit]
                  exact ⟨fun q => q.elim id (fun q => absurd q.symm e), Or.inl⟩
                rw [this]
                exact u6 j hj
        · refine ⟨nI (pc t + 1), wI (wI IC 1 16 (nI (t ||| 2 ^ b))) 1 17 (nI (d ||| 2 ^ b)), wI (wI IM 1 (63 + b) (nI 1)) 1 4 (nI (pc t + 1)), ?_, ?_, ?_⟩
          · unfold fX6_paid
            rw [i6, z]
            simp (disch := (first | assumption | trivial | omega)) only [u3, u4, bit0 f, Nat.one_mul, wI_eq, wI_ne, hbc, lit, neg1, oI_s, addN, mulN, subN, clN, gdN, ltN, leN, eqN, nIo, oIn, oI_eq, divN, remN, giT, giF, lzE, prE, bdE, smL, smR, shlN, shrN, hasE, andN, orN, bit1, bit0, max7, min7, giTr, giFa, gdp, litL, i2l, addL, mulL, divL, remL, cmLe, cmGt, cmGe, cmEq, eqL]
            all_goals rfl
          · unfold fX7_paid
            rw [i7, z]
            simp (disch := (first | assumption | trivial | omega)) only [hz, e4, wI_ne, wI_eq, lit, neg1, oI_s, addN, mulN, subN, clN, gdN, ltN, leN, eqN, nIo, oIn, oI_eq, divN, remN, giT, giF, lzE, prE, bdE, smL, smR, shlN, shrN, hasE, andN, orN, bit1, bit0, max7, min7, giTr, giFa, gdp, litL, i2l, addL, mulL, divL, remL, cmLe, cmGt, cmGe, cmEq, eqL]
          · refine ⟨nb, nt, mb, mt, h1, ⟨rHead_congr p1 ⟨by first | rfl | simp (disch := omega) only [wI_ne, wI_o], by first | rfl | simp (disch := omega) only [wI_ne, wI_o], by first | rfl | simp (disch := omega) only [wI_ne, wI_o]⟩ (fun _ _ => by first | rfl | simp (disch := omega) only [wI_ne, wI_o]), ?_, rSaid_congr p3 (by first | rfl | simp (disch := omega) only [wI_ne, wI_o]) (by first | rfl | simp (disch := omega) only [wI_ne, wI_o]) (by first | rfl | simp (disch := omega) only [wI_ne, wI_o]) (by first | rfl | simp (disch := omega) only [wI_ne, wI_o]) (fun _ _ _ => by first | rfl | simp (disch := omega) only [wI_ne, wI_o]), rOdds_congr p4 (by first | rfl | simp (disch := omega) only [wI_ne, wI_o]) (by first | rfl | simp (disch := omega) only [wI_ne, wI_o]) (fun _ _ _ => by first | rfl | simp (disch := omega) only [wI_ne, wI_o]), rBuy_congr p5 (by first | rfl | simp (disch := omega) only [wI_ne, wI_o]) (by first | rfl | simp (disch := omega) only [wI_ne, wI_o]) (by first | rfl | simp (disch := omega) only [wI_ne, wI_o]) (by first | rfl | simp (disch := omega) only [wI_ne, wI_o]) (fun _ _ _ => by first | rfl | simp (disch := omega) only [wI_ne, wI_o]), rVals_congr p6 (by first | rfl | simp (disch := omega) only [wI_ne, wI_o]) (fun _ _ _ => by first | rfl | simp (disch := omega) only [wI_ne, wI_o]), rWall_congr p7 (by first | rfl | simp (disch := omega) only [wI_ne, wI_o]) (by first | rfl | simp (disch := omega) only [wI_ne, wI_o]) (by first | rfl | simp (disch := omega) only [wI_ne, wI_o]) (by first | rfl | simp (disch := omega) only [wI_ne, wI_o]) (fun _ _ => by first | rfl | simp (disch := omega) only [wI_ne, wI_o]) (fun _ _ => by first | rfl | simp (disch := omega) only [wI_ne, wI_o]), rSteps_congr p8 ⟨by first | rfl | simp (disch := omega) only [wI_ne, wI_o], by first | rfl | simp (disch := omega) only [wI_ne, wI_o]⟩ (by first | rfl | simp (disch := omega) only [wI_ne, wI_o]) (fun _ _ => by first | rfl | simp (disch := omega) only [wI_ne, wI_o]) (by first | rfl | simp (disch := omega) only [wI_ne, wI_o]) (fun _ _ _ => by first | rfl | simp (disch := omega) only [wI_ne, wI_o]), rOwn_congr p9 (fun _ _ => by first | rfl | simp (disch := omega) only [wI_ne, wI_o])⟩, rPort_congr h3 (fun _ _ _ => by first | rfl | simp (disch := omega) only [wI_ne, wI_o]) (by first | rfl | simp (disch := omega) only [wI_ne, wI_o]), rTape_congr h4 (by first | rfl | simp (disch := omega) only [wI_ne, wI_o]) (by first | rfl | simp (disch := omega) only [wI_ne, wI_o]) (by first | rfl | simp (disch := omega) only [wI_ne, wI_o]) ⟨by first | rfl | simp (disch := omega) only [wI_ne, wI_o], by first | rfl | simp (disch := omega) only [wI_ne, wI_o], by first | rfl | simp (disch := omega) only [wI_ne, wI_o], by first | rfl | simp (disch := omega) only [wI_ne, wI_o]⟩, fun t ht => rText_congr (h5 t ht) (fun _ _ => by first | rfl | simp (disch := omega) only [wI_ne, wI_o]) (fun _ _ => by first | rfl | simp (disch := omega) only [wI_ne, wI_o])⟩
            refine ⟨t ||| 2 ^ b, d ||| 2 ^ b, ht', hd', ?_, wI_eq, ?_, fun j hj => ?_⟩
            · rw [wI_ne (by omega), wI_eq]
            · rw [wI_eq, hbc]
            · rw [wI_ne (by omega)]
              by_cases e : j = b
              · subst e
                exact Or.inr (Or.inl ⟨by omega, wI_eq, or_bit.mpr (Or.inr rfl), or_bit.mpr (Or.inr rfl)⟩)
              · rw [wI_ne (by omega)]
                have : (t ||| 2 ^ b).testBit j = t.testBit j := by
                  rw [Bool.eq_iff_iff, or_bit]
                  exact ⟨fun q => q.elim id (fun q => absurd q.symm e), Or.inl⟩
                have : (d ||| 2 ^ b).testBit j = d.testBit j := by
                  rw [Bool.eq_iff_iff, or_bit]
                  exact ⟨fun q => q.elim id (fun q => absurd q.symm e), Or.inl⟩
                simp only [*]
    · refine ⟨-2, IC, IM, ?_, ?_, hV⟩
      · unfold fX6_paid
        rw [isB6n h c, gi_neg (show ¬ a1 = -1 from c0), gi_pos (show nI 0 = (0 : Int32) from rfl)]
      · unfold fX7_paid
        rw [isB7n h c, gi_neg (show ¬ a1 = -1 from c0), gi_pos (show nI 0 = (0 : Int32) from rfl)]
theorem case_41 : st_41 V0 := by
  intro a1 a2 IC IM JM hV
  obtain ⟨S, h⟩ := view hV
  have bn := b_nb h
  have hV' := hV
  obtain ⟨nb, nt, mb, mt, h1, ⟨p1, p2, p3, p4, p5, p6, p7, p8, p9⟩, h3, h4, h5⟩ := hV
  obtain ⟨n1, n2⟩ := nb_of h p1
  obtain ⟨n, u1, u2, u3, u4⟩ := p3
  by_cases c0 : a1 = oI 0
  · subst c0
    refine ⟨0, wI IC 1 15 0, wI IM 1 5 0, gi_pos (show oI 0 = (-1 : Int32) from rfl), gi_pos (show oI 0 = (-1 : Int32) from rfl), ?_⟩
    refine ⟨nb, nt, mb, mt, h1, ⟨rHead_congr p1 ⟨by first | rfl | simp (disch := omega) only [wI_ne, wI_o], by first | rfl | simp (disch := omega) only [wI_ne, wI_o], by first | rfl | simp (disch := omega) only [wI_ne, wI_o]⟩ (fun _ _ => by first | rfl | simp (disch := omega) only [wI_ne, wI_o]), rPaid_congr p2 ⟨by first | rfl | simp (disch := omega) only [wI_ne, wI_o], by first | rfl | simp (disch := omega) only [wI_ne, wI_o]⟩ (by first | rfl | simp (disch := omega) only [wI_ne, wI_o]) (fun _ _ _ => by first | rfl | simp (disch := omega) only [wI_ne, wI_o]), ?_, rOdds_congr p4 (by first | rfl | simp (disch := omega) only [wI_ne, wI_o]) (by first | rfl | simp (disch := omega) only [wI_ne, wI_o]) (fun _ _ _ => by first | rfl | simp (disch := omega) only [wI_ne, wI_o]), rBuy_congr p5 (by first | rfl | simp (disch := omega) only [wI_ne, wI_o]) (by first | rfl | simp (disch := omega) only [wI_ne, wI_o]) (by first | rfl | simp (disch := omega) only [wI_ne, wI_o]) (by first | rfl | simp (disch := omega) only [wI_ne, wI_o]) (fun _ _ _ => by first | rfl | simp (disch := omega) only [wI_ne, wI_o]), rVals_congr p6 (by first | rfl | simp (disch := omega) only [wI_ne, wI_o]) (fun _ _ _ => by first | rfl | simp (disch := omega) only [wI_ne, wI_o]), rWall_congr p7 (by first | rfl | simp (disch := omega) only [wI_ne, wI_o]) (by first | rfl | simp (disch := omega) only [wI_ne, wI_o]) (by first | rfl | simp (disch := omega) only [wI_ne, wI_o]) (by first | rfl | simp (disch := omega) only [wI_ne, wI_o]) (fun _ _ => by first | rfl | simp (disch := omega) only [wI_ne, wI_o]) (fun _ _ => by first | rfl | simp (disch := omega) only [wI_ne, wI_o]), rSteps_congr p8 ⟨by first | rfl | simp (disch := omega) only [wI_ne, wI_o], by first | rfl | simp (disch := omega) only [wI_ne, wI_o]⟩ (by first | rfl | simp (disch := omega) only [wI_ne, wI_o]) (fun _ _ => by first | rfl | simp (disch := omega) only [wI_ne, wI_o]) (by first | rfl | simp (disch := omega) only [wI_ne, wI_o]) (fun _ _ _ => by first | rfl | simp (disch := omega) only [wI_ne, wI_o]), rOwn_congr p9 (fun _ _ => by first | rfl | simp (disch := omega) only [wI_ne, wI_o])⟩, rPort_congr h3 (fun _ _ _ => by first | rfl | simp (disch := omega) only [wI_ne, wI_o]) (by first | rfl | simp (disch := omega) only [wI_ne, wI_o]), rTape_congr h4 (by first | rfl | simp (disch := omega) only [wI_ne, wI_o]) (by first | rfl | simp (disch := omega) only [wI_ne, wI_o]) (by first | rfl | simp (disch := omega) only [wI_ne, wI_o]) ⟨by first | rfl | simp (disch := omega) only [wI_ne, wI_o], by first | rfl | simp (disch := omega) only [wI_ne, wI_o], by first | rfl | simp (disch := omega) only [wI_ne, wI_o], by first | rfl | simp (disch := omega) only [wI_ne, wI_o]⟩, fun t ht => rText_congr (h5 t ht) (fun _ _ => by first | rfl | simp (disch := omega) only [wI_ne, wI_o]) (fun _ _ => by first | rfl | simp (disch := omega) only [wI_ne, wI_o])⟩
    exact ⟨0, by omega, wI_eq, wI_eq, fun i hi => absurd hi (by omega)⟩
  · by_cases c : inR a1 (S 0 0)
    · have i6 := isB6p h c
      have i7 := isB7p h c
      obtain ⟨b, hb, rfl⟩ := c
      by_cases c2 : inR a2 100
      · have j7 : fX7_isIn a2 0 99 = nI 1 := isIn_pos (lo := 0) (hi := 99) (n := 99) (by decide) rfl rfl c2
        have j6 : fX6_within a2 0 99 = nI 1 := j7
        obtain ⟨x, hx, rfl⟩ := c2
        by_cases c3 : n = 8
        · subst c3
          refine ⟨-2, IC, IM, ?_, ?_, hV'⟩
          · unfold fX6_said
            rw [i6, j6]
            simp (disch := (first | assumption | trivial | omega)) only [u3, lit, neg1, oI_s, addN, mulN, subN, clN, gdN, ltN, leN, eqN, nIo, oIn, oI_eq, divN, remN, giT, giF, lzE, prE, bdE, smL, smR, shlN, shrN, hasE, andN, orN, bit1, bit0, max7, min7, giTr, giFa, gdp, litL, i2l, addL, mulL, divL, remL, cmLe, cmGt, cmGe, cmEq, eqL]
          · unfold fX7_said
            rw [i7, j7]
            simp (disch := (first | assumption | trivial | omega)) only [u2, lit, neg1, oI_s, addN, mulN, subN, clN, gdN, ltN, leN, eqN, nIo, oIn, oI_eq, divN, remN, giT, giF, lzE, prE, bdE, smL, smR, shlN, shrN, hasE, andN, orN, bit1, bit0, max7, min7, giTr, giFa, gdp, litL, i2l, addL, mulL, divL, remL, cmLe, cmGt, cmGe, cmEq, eqL]
        · have hn8 : n < 8 := by omega
          refine ⟨nI (n + 1), wI (wI (wI IC 9 n (nI b)) 10 n (nI x)) 1 15 (nI (n + 1)), wI (wI (wI IM 1 (81 + 2 * n) (nI b)) 1 (81 + 2 * n + 1) (nI x)) 1 5 (nI (n + 1)), ?_, ?_, ?_⟩
          · unfold fX6_said
            rw [i6, j6]
            simp (disch := (first | assumption | trivial | omega)) only [u3, wI_o, wI_eq, lit, neg1, oI_s, addN, mulN, subN, clN, gdN, ltN, leN, eqN, nIo, oIn, oI_eq, divN, remN, giT, giF, lzE, prE, bdE, smL, smR, shlN, shrN, hasE, andN, orN, bit1, bit0, max7, min7, giTr, giFa, gdp, litL, i2l, addL, mulL, divL, remL, cmLe, cmGt, cmGe, cmEq, eqL]
          · unfold fX7_said
            rw [i7, j7]
            simp (disch := (first | assumption | trivial | omega)) only [u2, wI_ne, wI_eq, lit, neg1, oI_s, addN, mulN, subN, clN, gdN, ltN, leN, eqN, nIo, oIn, oI_eq, divN, remN, giT, giF, lzE, prE, bdE, smL, smR, shlN, shrN, hasE, andN, orN, bit1, bit0, max7, min7, giTr, giFa, gdp, litL, i2l, addL, mulL, divL, remL, cmLe, cmGt, cmGe, cmEq, eqL]
          · refine ⟨nb, nt, mb, mt, h1, ⟨rHead_congr p1 ⟨by first | rfl | simp (disch := omega) only [wI_ne, wI_o], by first | rfl | simp (disch := omega) only [wI_ne, wI_o], by first | rfl | simp (disch := omega) only [wI_ne, wI_o]⟩ (fun _ _ => by first | rfl | simp (disch := omega) only [wI_ne, wI_o]), rPaid_congr p2 ⟨by first | rfl | simp (disch := omega) only [wI_ne, wI_o], by first | rfl | simp (disch := omega) only [wI_ne, wI_o]⟩ (by first | rfl | simp (disch := omega) only [wI_ne, wI_o]) (fun _ _ _ => by first | rfl | simp (disch := omega) only [wI_ne, wI_o]), ?_, rOdds_congr p4 (by first | rfl | simp (disch := omega) only [wI_ne, wI_o]) (by first | rfl | simp (disch := omega) only [wI_ne, wI_o]) (fun _ _ _ => by first | rfl | simp (disch := omega) only [wI_ne, wI_o]), rBuy_congr p5 (by first | rfl | simp (disch := omega) only [wI_ne, wI_o]) (by first | rfl | simp (disch := omega) only [wI_ne, wI_o]) (by first | rfl | simp (disch := omega) only [wI_ne, wI_o]) (by first | rfl | simp (disch := omega) only [wI_ne, wI_o]) (fun _ _ _ => by first | rfl | simp (disch := omega) only [wI_ne, wI_o]), rVals_congr p6 (by first | rfl | simp (disch := omega) only [wI_ne, wI_o]) (fun _ _ _ => by first | rfl | simp (disch := omega) only [wI_ne, wI_o]), rWall_congr p7 (by first | rfl | simp (disch := omega) only [wI_ne, wI_o]) (by first | rfl | simp (disch := omega) only [wI_ne, wI_o]) (by first | rfl | simp (disch := omega) only [wI_ne, wI_o]) (by first | rfl | simp (disch := omega) only [wI_ne, wI_o]) (fun _ _ => by first | rfl | simp (disch := omega) only [wI_ne, wI_o]) (fun _ _ => by first | rfl | simp (disch := omega) only [wI_ne, wI_o]), rSteps_congr p8 ⟨by first | rfl | simp (disch := omega) only [wI_ne, wI_o], by first | rfl | simp (disch := omega) only [wI_ne, wI_o]⟩ (by first | rfl | simp (disch := omega) only [wI_ne, wI_o]) (fun _ _ => by first | rfl | simp (disch := omega) only [wI_ne, wI_o]) (by first | rfl | simp (disch := omega) only [wI_ne, wI_o]) (fun _ _ _ => by first | rfl | simp (disch := omega) only [wI_ne, wI_o]), rOwn_congr p9 (fun _ _ => by first | rfl | simp (disch := omega) only [wI_ne, wI_o])⟩, rPort_congr h3 (fun _ _ _ => by first | rfl | simp (disch := omega) only [wI_ne, wI_o]) (by first | rfl | simp (disch := omega) only [wI_ne, wI_o]), rTape_congr h4 (by first | rfl | simp (disch := omega) only [wI_ne, wI_o]) (by first | rfl | simp (disch := omega) only [wI_ne, wI_o]) (by first | rfl | simp (disch := omega) only [wI_ne, wI_o]) ⟨by first | rfl | simp (disch := omega) only [wI_ne, wI_o], by first | rfl | simp (disch := omega) only [wI_ne, wI_o], by first | rfl | simp (disch := omega) only [wI_ne, wI_o], by first | rfl | simp (disch := omega) only [wI_ne, wI_o]⟩, fun t ht => rText_congr (h5 t ht) (fun _ _ => by first | rfl | simp (disch := omega) only [wI_ne, wI_o]) (fun _ _ => by first | rfl | simp (disch := omega) only [wI_ne, wI_o])⟩
            refine ⟨n + 1, by omega, wI_eq, wI_eq, fun i hi => ?_⟩
            by_cases e : i = n
            · subst e
              simp (disch := omega) only [wI_ne, wI_eq, wI_o, show 82 + 2 * i = 81 + 2 * i + 1 by omega]
              exact ⟨inR_nI (by omega), inR_nI (by omega), trivial, trivial⟩
            · simp (disch := omega) only [wI_ne, wI_o]
              exact u4 i (by omega)
      · have j7 : fX7_isIn a2 0 99 = nI 0 := isIn_neg (lo := 0) (hi := 99) (n := 99) (by decide) rfl rfl c2
        have j6 : fX6_within a2 0 99 = nI 0 := j7
        refine ⟨-2, IC, IM, ?_, ?_, hV'⟩
        · unfold fX6_said
          rw [i6, j6]
          simp (disch := (first | assumption | trivial | omega)) only [lit, neg1, oI_s, addN, mulN, subN, clN, gdN, ltN, leN, eqN, nIo, oIn, oI_eq, divN, remN, giT, giF, lzE, prE, bdE, smL, smR, shlN, shrN, hasE, andN, orN, bit1, bit0, max7, min7, giTr, giFa, gdp, litL, i2l, addL, mulL, divL, remL, cmLe, cmGt, cmGe, cmEq, eqL]
          all_goals rfl
        · unfold fX7_said
          rw [i7, j7]
          simp (disch := (first | assumption | trivial | omega)) only [lit, neg1, oI_s, addN, mulN, subN, clN, gdN, ltN, leN, eqN, nIo, oIn, oI_eq, divN, remN, giT, giF, lzE, prE, bdE, smL, smR, shlN, shrN, hasE, andN, orN, bit1, bit0, max7, min7, giTr, giFa, gdp, litL, i2l, addL, mulL, divL, remL, cmLe, cmGt, cmGe, cmEq, eqL]
          all_goals rfl
    · refine ⟨-2, IC, IM, ?_, ?_, hV'⟩
      · unfold fX6_said
        rw [isB6n h c, gi_neg (show ¬ a1 = -1 from c0), gi_pos (show nI 0 = (0 : Int32) from rfl)]
      · unfold fX7_said
        rw [isB7n h c, gi_neg (show ¬ a1 = -1 from c0), gi_pos (show nI 0 = (0 : Int32) from rfl)]
