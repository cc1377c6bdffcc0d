-- 57: PURE PART: of, poor, whose (out of wip/whole/pure by pure.py)
theorem case_15 (hB : BIDS) (hE : EARN) : st_15 V0 := by
  intro a1 a2 IC IM JM hV
  obtain ⟨S, h, ht⟩ := view2 hV
  obtain ⟨bV, hb⟩ := hB S IC IM h ht
  have bn := b_nb h
  by_cases c : inR a1 (S 0 0)
  · have i6 := isB6p h c
    have i7 := isB7p h c
    obtain ⟨b, hn, rfl⟩ := c
    have hb6 : b < 6 := by omega
    by_cases c7 : inR a2 7
    · obtain ⟨k, hk, rfl⟩ := c7
      have hk7 : k = 0 ∨ k = 1 ∨ k = 2 ∨ k = 3 ∨ k = 4 ∨ k = 5 ∨ k = 6 := by omega
      rcases hk7 with rfl | rfl | rfl | rfl | rfl | rfl | rfl
      · refine ⟨nI (S 3 b), IC, IM, JM, ?_, ?_, hV⟩
        · unfold fX6_of
          rw [i6]
          simp (disch := (first | assumption | trivial | omega)) only [v_wa6 h, lit, neg1, oI_s, addN, mulN, subN, clN, gdN, ltN, leN, eqN, nIo, oIn, oI_eq, divN, remN, giT, giF, lzE, prE, bdE, smL, smR, shlN, shrN, hasE, andN, orN, bit1, bit0, max7, min7, giTr, giFa, gdp, litL, i2l, addL, mulL, divL, remL, cmLe, cmGt, cmGe, cmEq, eqL]
        · unfold fX7_of
          rw [i7]
          simp (disch := (first | assumption | trivial | omega)) only [v_wa7 h, lit, neg1, oI_s, addN, mulN, subN, clN, gdN, ltN, leN, eqN, nIo, oIn, oI_eq, divN, remN, giT, giF, lzE, prE, bdE, smL, smR, shlN, shrN, hasE, andN, orN, bit1, bit0, max7, min7, giTr, giFa, gdp, litL, i2l, addL, mulL, divL, remL, cmLe, cmGt, cmGe, cmEq, eqL]
      · refine ⟨nI (S 4 b), IC, IM, JM, ?_, ?_, hV⟩
        · unfold fX6_of
          rw [i6]
          simp (disch := (first | assumption | trivial | omega)) only [v_fr6 h, lit, neg1, oI_s, addN, mulN, subN, clN, gdN, ltN, leN, eqN, nIo, oIn, oI_eq, divN, remN, giT, giF, lzE, prE, bdE, smL, smR, shlN, shrN, hasE, andN, orN, bit1, bit0, max7, min7, giTr, giFa, gdp, litL, i2l, addL, mulL, divL, remL, cmLe, cmGt, cmGe, cmEq, eqL]
        · unfold fX7_of
          rw [i7]
          simp (disch := (first | assumption | trivial | omega)) only [v_fr7 h, lit, neg1, oI_s, addN, mulN, subN, clN, gdN, ltN, leN, eqN, nIo, oIn, oI_eq, divN, remN, giT, giF, lzE, prE, bdE, smL, smR, shlN, shrN, hasE, andN, orN, bit1, bit0, max7, min7, giTr, giFa, gdp, litL, i2l, addL, mulL, divL, remL, cmLe, cmGt, cmGe, cmEq, eqL]
      · refine ⟨nI (S 5 b), IC, IM, JM, ?_, ?_, hV⟩
        · unfold fX6_of
          rw [i6]
          simp (disch := (first | assumption | trivial | omega)) only [v_to6 h, lit, neg1, oI_s, addN, mulN, subN, clN, gdN, ltN, leN, eqN, nIo, oIn, oI_eq, divN, remN, giT, giF, lzE, prE, bdE, smL, smR, shlN, shrN, hasE, andN, orN, bit1, bit0, max7, min7, giTr, giFa, gdp, litL, i2l, addL, mulL, divL, remL, cmLe, cmGt, cmGe, cmEq, eqL]
        · unfold fX7_of
          rw [i7]
          simp (disch := (first | assumption | trivial | omega)) only [v_to7 h, lit, neg1, oI_s, addN, mulN, subN, clN, gdN, ltN, leN, eqN, nIo, oIn, oI_eq, divN, remN, giT, giF, lzE, prE, bdE, smL, smR, shlN, shrN, hasE, andN, orN, bit1, bit0, max7, min7, giTr, giFa, gdp, litL, i2l, addL, mulL, divL, remL, cmLe, cmGt, cmGe, cmEq, eqL]
      · refine ⟨nI (S 13 b), IC, IM, JM, ?_, ?_, hV⟩
        · unfold fX6_of
          rw [i6]
          simp (disch := (first | assumption | trivial | omega)) only [v_pu6 h, lit, neg1, oI_s, addN, mulN, subN, clN, gdN, ltN, leN, eqN, nIo, oIn, oI_eq, divN, remN, giT, giF, lzE, prE, bdE, smL, smR, shlN, shrN, hasE, andN, orN, bit1, bit0, max7, min7, giTr, giFa, gdp, litL, i2l, addL, mulL, divL, remL, cmLe, cmGt, cmGe, cmEq, eqL]
        · unfold fX7_of
          rw [i7]
          simp (disch := (first | assumption | trivial | omega)) only [v_pu7 h, lit, neg1, oI_s, addN, mulN, subN, clN, gdN, ltN, leN, eqN, nIo, oIn, oI_eq, divN, remN, giT, giF, lzE, prE, bdE, smL, smR, shlN, shrN, hasE, andN, orN, bit1, bit0, max7, min7, giTr, giFa, gdp, litL, i2l, addL, mulL, divL, remL, cmLe, cmGt, cmGe, cmEq, eqL]
      · obtain ⟨C1, e6, f6⟩ := bn6 h (hb _ _ h lik_rf) hn
        obtain ⟨M1, J1, e7, f7⟩ := bn7 h (hb _ _ h lik_rf) hn JM
        refine ⟨nI (bnw S bV b), C1, M1, J1, ?_, ?_, V0_f hV f6 f7⟩
        · unfold fX6_of
          rw [i6]
          simp (disch := (first | assumption | trivial | omega)) only [e6, lit, neg1, oI_s, addN, mulN, subN, clN, gdN, ltN, leN, eqN, nIo, oIn, oI_eq, divN, remN, giT, giF, lzE, prE, bdE, smL, smR, shlN, shrN, hasE, andN, orN, bit1, bit0, max7, min7, giTr, giFa, gdp, litL, i2l, addL, mulL, divL, remL, cmLe, cmGt, cmGe, cmEq, eqL]
        · unfold fX7_of
          rw [i7]
          simp (disch := (first | assumption | trivial | omega)) only [e7, lit, neg1, oI_s, addN, mulN, subN, clN, gdN, ltN, leN, eqN, nIo, oIn, oI_eq, divN, remN, giT, giF, lzE, prE, bdE, smL, smR, shlN, shrN, hasE, andN, orN, bit1, bit0, max7, min7, giTr, giFa, gdp, litL, i2l, addL, mulL, divL, remL, cmLe, cmGt, cmGe, cmEq, eqL]
      · obtain ⟨k, hk, ⟨C1, e6, f6⟩, e7⟩ := hE S 11 IC IM b (Or.inl rfl) (by rw [fw_eq]; exact h) ht hn
        obtain ⟨M1, J1, e7, f7⟩ := e7 JM
        refine ⟨nI k - nI 9, C1, M1, J1, ?_, ?_, V0_f hV f6 f7⟩
        · unfold fX6_of
          rw [i6]
          simp (disch := (first | assumption | trivial | omega)) only [lit, eqN, giF, giT, giTr, giFa, e6, bdE, prE]
        · unfold fX7_of
          rw [i7]
          simp (disch := (first | assumption | trivial | omega)) only [lit, eqN, giF, giT, giTr, giFa, e7, bdE, prE]
      · have bo := b_ow h hb6
        have hpc := bitCount6 (S 12 b) bo.1
        refine ⟨nI (pc (S 12 b)), IC, IM, JM, ?_, ?_, hV⟩
        · unfold fX6_of
          rw [i6]
          simp (disch := (first | assumption | trivial | omega)) only [v_ow6 h, hpc, lit, neg1, oI_s, addN, mulN, subN, clN, gdN, ltN, leN, eqN, nIo, oIn, oI_eq, divN, remN, giT, giF, lzE, prE, bdE, smL, smR, shlN, shrN, hasE, andN, orN, bit1, bit0, max7, min7, giTr, giFa, gdp, litL, i2l, addL, mulL, divL, remL, cmLe, cmGt, cmGe, cmEq, eqL]
        · unfold fX7_of
          rw [i7]
          simp (disch := (first | assumption | trivial | omega)) only [hn7 h, lit, neg1, oI_s, addN, mulN, subN, clN, gdN, ltN, leN, eqN, nIo, oIn, oI_eq, divN, remN, giT, giF, lzE, prE, bdE, smL, smR, shlN, shrN, hasE, andN, orN, bit1, bit0, max7, min7, giTr, giFa, gdp, litL, i2l, addL, mulL, divL, remL, cmLe, cmGt, cmGe, cmEq, eqL]
    · have n0 : ¬ a2 = 0 := fun e => c7 ⟨0, by decide, e⟩
      have n1 : ¬ a2 = 1 := fun e => c7 ⟨1, by decide, e⟩
      have n2 : ¬ a2 = 2 := fun e => c7 ⟨2, by decide, e⟩
      have n3 : ¬ a2 = 3 := fun e => c7 ⟨3, by decide, e⟩
      have n4 : ¬ a2 = 4 := fun e => c7 ⟨4, by decide, e⟩
      have n5 : ¬ a2 = 5 := fun e => c7 ⟨5, by decide, e⟩
      have n6 : ¬ a2 = 6 := fun e => c7 ⟨6, by decide, e⟩
      refine ⟨-10, IC, IM, JM, ?_, ?_, hV⟩
      · unfold fX6_of
        rw [i6, gi_neg (c := nI 1 = (0 : Int32)) one_ne, gi_neg n0, gi_neg n1, gi_neg n2, gi_neg n3, gi_neg n4, gi_neg n5, gi_neg n6]
      · unfold fX7_of
        rw [i7, gi_neg (c := nI 1 = (0 : Int32)) one_ne, gi_neg n0, gi_neg n1, gi_neg n2, gi_neg n3, gi_neg n4, gi_neg n5, gi_neg n6]
  · refine ⟨-10, IC, IM, JM, ?_, ?_, hV⟩
    · unfold fX6_of
      rw [isB6n h c]
      simp (disch := (first | assumption | trivial | omega)) only [lit, neg1, oI_s, addN, mulN, subN, clN, gdN, ltN, leN, eqN, nIo, oIn, oI_eq, divN, remN, giT, giF, lzE, prE, bdE, smL, smR, shlN, shrN, hasE, andN, orN, bit1, bit0, max7, min7, giTr, giFa, gdp, litL, i2l, addL, mulL, divL, remL, cmLe, cmGt, cmGe, cmEq, eqL]
    · unfold fX7_of
      rw [isB7n h c]
      simp (disch := (first | assumption | trivial | omega)) only [lit, neg1, oI_s, addN, mulN, subN, clN, gdN, ltN, leN, eqN, nIo, oIn, oI_eq, divN, remN, giT, giF, lzE, prE, bdE, smL, smR, shlN, shrN, hasE, andN, orN, bit1, bit0, max7, min7, giTr, giFa, gdp, litL, i2l, addL, mulL, divL, remL, cmLe, cmGt, cmGe, cmEq, eqL]
theorem case_50 (hB : BIDS) : st_50 V0 := by
  intro IC IM JM hV
  obtain ⟨S, bV, h, hb⟩ := view3 hB hV
  have bn := b_nb h
  obtain ⟨r6, r7, e6, e7, v, C, M, J, rfl, rfl, f6, f7⟩ := lp_2 (fun n k (a : Nat × gI × gI × gJ) => fX6_poor_4 n (nI a.1) (nI k) a.2.1) (fun n k (a : Nat × gI × gI × gJ) => fX7_poor_4 n (nI a.1) (nI k) a.2.2.1 a.2.2.2) (S 0 0)
    (fun k a => a.1 < 64 ∧ fC IC a.2.1 ∧ fM IM a.2.2.1) (fun r6 r7 => ∃ (v : Nat) (C M : gI) (J : gJ), r6 = (nI v, C) ∧ r7 = (nI v, M, J) ∧ fC IC C ∧ fM IM M)
    (fun n a hP => by
      obtain ⟨v, C, M, J⟩ := a
      try dsimp only at hP ⊢
      obtain ⟨p1, p2, p3⟩ := hP
      have g := sv_f h p2 p3
      refine ⟨(nI v, C), (nI v, M, J), ?_, ?_, v, C, M, J, rfl, rfl, p2, p3⟩
      · rw [sX6_poor_4, fX6_poor_4b]
        simp (disch := (first | assumption | trivial | omega)) only [v_nb6 g, lit, neg1, oI_s, addN, mulN, subN, clN, gdN, ltN, leN, eqN, nIo, oIn, oI_eq, divN, remN, giT, giF, lzE, prE, bdE, smL, smR, shlN, shrN, hasE, andN, orN, bit1, bit0, max7, min7, giTr, giFa, gdp, litL, i2l, addL, mulL, divL, remL, cmLe, cmGt, cmGe, cmEq, eqL]
      · rw [sX7_poor_4, fX7_poor_4b]
        simp (disch := (first | assumption | trivial | omega)) only [v_nb7 g, lit, neg1, oI_s, addN, mulN, subN, clN, gdN, ltN, leN, eqN, nIo, oIn, oI_eq, divN, remN, giT, giF, lzE, prE, bdE, smL, smR, shlN, shrN, hasE, andN, orN, bit1, bit0, max7, min7, giTr, giFa, gdp, litL, i2l, addL, mulL, divL, remL, cmLe, cmGt, cmGe, cmEq, eqL])
    (fun n b a hk hP => by
      obtain ⟨v, C, M, J⟩ := a
      try dsimp only at hP ⊢
      right
      obtain ⟨p1, p2, p3⟩ := hP
      have g := sv_f h p2 p3
      have hb6 : b < 6 := by omega
      obtain ⟨C1, e6, f6⟩ := bn6 g (hb _ _ g (lik_f p2 p3)) hk
      obtain ⟨M1, J1, e7, f7⟩ := bn7 g (hb _ _ g (lik_f p2 p3)) hk J
      have hv := bnw_lt g (hb _ _ g (lik_f p2 p3)) hk
      have hp := b_pu g hb6
      have hor : v ||| 2 ^ b < 64 := Nat.or_lt_two_pow (n := 6) p1 (Nat.pow_lt_pow_right (by decide) hb6)
      have hp2 : 2 ^ b < 64 := by
        have z : 2 ^ b < 2 ^ 6 := Nat.pow_lt_pow_right (by decide) hb6
        exact z
      by_cases c : bnw S bV b ≤ S 13 b
      · refine ⟨(v, C1, M1, J1), ?_, ?_, p1, fC_tr p2 f6, fM_tr p3 f7⟩
        · rw [sX6_poor_4, fX6_poor_4b]
          simp (disch := (first | assumption | trivial | omega)) only [v_nb6 g, e6, v_pu6 g, c, lit, neg1, oI_s, addN, mulN, subN, clN, gdN, ltN, leN, eqN, nIo, oIn, oI_eq, divN, remN, giT, giF, lzE, prE, bdE, smL, smR, shlN, shrN, hasE, andN, orN, bit1, bit0, max7, min7, giTr, giFa, gdp, litL, i2l, addL, mulL, divL, remL, cmLe, cmGt, cmGe, cmEq, eqL]
        · rw [sX7_poor_4, fX7_poor_4b]
          simp (disch := (first | assumption | trivial | omega)) only [v_nb7 g, e7, v_pu7 g, c, Nat.or_zero, lit, neg1, oI_s, addN, mulN, subN, clN, gdN, ltN, leN, eqN, nIo, oIn, oI_eq, divN, remN, giT, giF, lzE, prE, bdE, smL, smR, shlN, shrN, hasE, andN, orN, bit1, bit0, max7, min7, giTr, giFa, gdp, litL, i2l, addL, mulL, divL, remL, cmLe, cmGt, cmGe, cmEq, eqL]
      · refine ⟨(v ||| 2 ^ b, C1, M1, J1), ?_, ?_, hor, fC_tr p2 f6, fM_tr p3 f7⟩
        · rw [sX6_poor_4, fX6_poor_4b]
          simp (disch := (first | assumption | trivial | omega)) only [v_nb6 g, e6, v_pu6 g, c, Nat.one_mul, lit, neg1, oI_s, addN, mulN, subN, clN, gdN, ltN, leN, eqN, nIo, oIn, oI_eq, divN, remN, giT, giF, lzE, prE, bdE, smL, smR, shlN, shrN, hasE, andN, orN, bit1, bit0, max7, min7, giTr, giFa, gdp, litL, i2l, addL, mulL, divL, remL, cmLe, cmGt, cmGe, cmEq, eqL]
        · rw [sX7_poor_4, fX7_poor_4b]
          simp (disch := (first | assumption | trivial | omega)) only [v_nb7 g, e7, v_pu7 g, c, Nat.one_mul, lit, neg1, oI_s, addN, mulN, subN, clN, gdN, ltN, leN, eqN, nIo, oIn, oI_eq, divN, remN, giT, giF, lzE, prE, bdE, smL, smR, shlN, shrN, hasE, andN, orN, bit1, bit0, max7, min7, giTr, giFa, gdp, litL, i2l, addL, mulL, divL, remL, cmLe, cmGt, cmGe, cmEq, eqL]) (S 0 0) 0 (0, IC, IM, JM) FU (by omega) ⟨(by decide : 0 < 64), fC_rf, fM_rf⟩ (by show _ < 5000; omega)
  have e6' : fX6_poor_4 FU 0 0 IC = some (nI v, C) := e6
  have e7' : fX7_poor_4 FU 0 0 IM JM = some (nI v, M, J) := e7
  refine ⟨nI v, C, M, J, ?_, ?_, V0_f hV f6 f7⟩
  · unfold fX6_poor
    rw [e6']
    rfl
  · unfold fX7_poor
    rw [e7']
    rfl
theorem case_42 (hB : BIDS) : st_42 V0 := by
  intro IC IM JM hV
  obtain ⟨S, bV, h, hb⟩ := view3 hB hV
  have bn := b_nb h
  obtain ⟨n, sb, sp, hn, s5, s15, hs⟩ : ∃ (n : Nat) (sb sp : Nat → Nat), n ≤ 8 ∧ IM 1 5 = nI n ∧ IC 1 15 = nI n ∧ ∀ i, i < n → sb i < S 0 0 ∧ sp i < 100 ∧ IC 9 i = nI (sb i) ∧ IM 1 (81 + 2 * i) = nI (sb i) ∧ IC 10 i = nI (sp i) ∧ IM 1 (81 + 2 * i + 1) = nI (sp i) := by
    obtain ⟨nb, nt, mb, mt, h1, ⟨p1, p2, p3, p4, p5, p6, p7, p8, p9⟩, h3, h4, h5⟩ := hV
    obtain ⟨n1, n2⟩ := nb_of h p1
    obtain ⟨n, u1, u2, u3, u4⟩ := p3
    refine ⟨n, fun i => (IM 1 (81 + 2 * i)).toNatClampNeg, fun i => (IM 1 (82 + 2 * i)).toNatClampNeg, u1, u2, u3, fun i hi => ?_⟩
    obtain ⟨x1, x2, x3, x4⟩ := u4 i hi
    obtain ⟨y1, y2⟩ := inR_cl (by omega) x1
    obtain ⟨z1, z2⟩ := inR_cl (by omega) x2
    rw [n1]
    refine ⟨y2, z2, ?_, y1, ?_, ?_⟩
    · rw [← y1]; exact x3
    · rw [← z1]; exact x4
    · rw [show 81 + 2 * i + 1 = 82 + 2 * i by omega]; exact z1
  have inner : ∀ (t v : Nat) (C M : gI) (J : gJ), t < S 0 1 → fC IC C → fM IM M → ∃ (ok : Nat) (C' M' : gI) (J' : gJ), ok < 2 ∧ fX6_whose_20 FU (nI v) (nI t) 1 0 C = some (nI ok, C') ∧ fX7_whose_20 FU (nI v) (nI t) 1 81 M J = some (nI ok, M', J') ∧ fC IC C' ∧ fM IM M' := by
    intro t v C M J ht hC hM
    obtain ⟨r6, r7, e6, e7, ok, C', M', J', rfl, rfl, q⟩ := lp_2 (fun m k (a : Nat × gI × gI × gJ) => fX6_whose_20 m (nI v) (nI t) (nI a.1) (nI k) a.2.1) (fun m k (a : Nat × gI × gI × gJ) => fX7_whose_20 m (nI v) (nI t) (nI a.1) (nI (81 + 2 * k)) a.2.2.1 a.2.2.2) n
      (fun k a => a.1 < 2 ∧ fC IC a.2.1 ∧ fM IM a.2.2.1) (fun r6 r7 => ∃ (ok : Nat) (C M : gI) (J : gJ), r6 = (nI ok, C) ∧ r7 = (nI ok, M, J) ∧ ok < 2 ∧ fC IC C ∧ fM IM M)
      (fun m a hP => by
        obtain ⟨ok, C, M, J⟩ := a
        try dsimp only at hP ⊢
        obtain ⟨p1, p2, p3⟩ := hP
        have z6 : C 1 15 = nI n := by rw [p2 1 (by omega)]; exact s15
        have z7 : M 1 5 = nI n := by rw [p3 1 (by omega) (by omega)]; exact s5
        refine ⟨(nI ok, C), (nI ok, M, J), ?_, ?_, ok, C, M, J, rfl, rfl, p1, p2, p3⟩
        · rw [sX6_whose_20, fX6_whose_20b]
          simp (disch := (first | assumption | trivial | omega)) only [z6, lit, neg1, oI_s, addN, mulN, subN, clN, gdN, ltN, leN, eqN, nIo, oIn, oI_eq, divN, remN, giT, giF, lzE, prE, bdE, smL, smR, shlN, shrN, hasE, andN, orN, bit1, bit0, max7, min7, giTr, giFa, gdp, litL, i2l, addL, mulL, divL, remL, cmLe, cmGt, cmGe, cmEq, eqL]
        · rw [sX7_whose_20, fX7_whose_20b]
          simp (disch := (first | assumption | trivial | omega)) only [z7, lit, neg1, oI_s, addN, mulN, subN, clN, gdN, ltN, leN, eqN, nIo, oIn, oI_eq, divN, remN, giT, giF, lzE, prE, bdE, smL, smR, shlN, shrN, hasE, andN, orN, bit1, bit0, max7, min7, giTr, giFa, gdp, litL, i2l, addL, mulL, divL, remL, cmLe, cmGt, cmGe, cmEq, eqL])
      (fun m k a hk hP => by
        obtain ⟨ok, C, M, J⟩ := a
        try dsimp only at hP ⊢
        right
        obtain ⟨p1, p2, p3⟩ := hP
        have g := sv_f h p2 p3
        have z6 : C 1 15 = nI n := by rw [p2 1 (by omega)]; exact s15
        have z7 : M 1 5 = nI n := by rw [p3 1 (by omega) (by omega)]; exact s5
        obtain ⟨w1, w2, w3, w4, w5, w6⟩ := hs k hk
        have y9 : C 9 k = nI (sb k) := by rw [p2 9 (by omega)]; exact w3
        have ym : M 1 (81 + 2 * k) = nI (sb k) := by rw [p3 1 (by omega) (by omega)]; exact w4
        obtain ⟨hlt, ⟨C1, e6, f6⟩, e7⟩ := hb _ _ g (lik_f p2 p3) (t + 1) (sb k) (S 10 3) (by omega) w1 (b_w g).2.2.2.1
        have y10 : C1 10 k = nI (sp k) := by rw [f6 10 (by omega), p2 10 (by omega)]; exact w5
        obtain ⟨M1, J1, e7, f7⟩ := e7 J
        have ym1 : M1 1 (81 + 2 * k + 1) = nI (sp k) := by rw [f7 1 (by omega) (by omega), p3 1 (by omega) (by omega)]; exact w6
        rw [oI_s] at e6 e7
        generalize bV (t + 1) (sb k) (S 10 3) = x at hlt e6 e7
        have hok : ok = 0 ∨ ok = 1 := by omega
        rcases hok with rfl | rfl
        · refine ⟨(0, C1, M, J), ?_, ?_, (by decide : 0 < 2), fC_tr p2 f6, p3⟩
          · rw [sX6_whose_20, fX6_whose_20b]
            by_cases c : x = sp k
            · simp (disch := (first | assumption | trivial | omega)) only [z6, y9, v_so6 g, e6, y10, c, Nat.zero_and, lit, neg1, oI_s, addN, mulN, subN, clN, gdN, ltN, leN, eqN, nIo, oIn, oI_eq, divN, remN, giT, giF, lzE, prE, bdE, smL, smR, shlN, shrN, hasE, andN, orN, bit1, bit0, max7, min7, giTr, giFa, gdp, litL, i2l, addL, mulL, divL, remL, cmLe, cmGt, cmGe, cmEq, eqL]
            · simp (disch := (first | assumption | trivial | omega)) only [z6, y9, v_so6 g, e6, y10, c, Nat.zero_and, lit, neg1, oI_s, addN, mulN, subN, clN, gdN, ltN, leN, eqN, nIo, oIn, oI_eq, divN, remN, giT, giF, lzE, prE, bdE, smL, smR, shlN, shrN, hasE, andN, orN, bit1, bit0, max7, min7, giTr, giFa, gdp, litL, i2l, addL, mulL, divL, remL, cmLe, cmGt, cmGe, cmEq, eqL]
          · rw [sX7_whose_20, fX7_whose_20b]
            simp (disch := (first | assumption | trivial | omega)) only [z7, show 81 + 2 * k + 2 = 81 + 2 * (k + 1) by omega, lit, neg1, oI_s, addN, mulN, subN, clN, gdN, ltN, leN, eqN, nIo, oIn, oI_eq, divN, remN, giT, giF, lzE, prE, bdE, smL, smR, shlN, shrN, hasE, andN, orN, bit1, bit0, max7, min7, giTr, giFa, gdp, litL, i2l, addL, mulL, divL, remL, cmLe, cmGt, cmGe, cmEq, eqL]
        · by_cases c : x = sp k
          · refine ⟨(1, C1, M1, J1), ?_, ?_, (by decide : 1 < 2), fC_tr p2 f6, fM_tr p3 f7⟩
            · rw [sX6_whose_20, fX6_whose_20b]
              simp (disch := (first | assumption | trivial | omega)) only [z6, y9, v_so6 g, e6, y10, c, Nat.and_self, lit, neg1, oI_s, addN, mulN, subN, clN, gdN, ltN, leN, eqN, nIo, oIn, oI_eq, divN, remN, giT, giF, lzE, prE, bdE, smL, smR, shlN, shrN, hasE, andN, orN, bit1, bit0, max7, min7, giTr, giFa, gdp, litL, i2l, addL, mulL, divL, remL, cmLe, cmGt, cmGe, cmEq, eqL]
            · rw [sX7_whose_20, fX7_whose_20b]
              simp (disch := (first | assumption | trivial | omega)) only [z7, ym, v_so7 g, e7, ym1, c, show 81 + 2 * k + 2 = 81 + 2 * (k + 1) by omega, lit, neg1, oI_s, addN, mulN, subN, clN, gdN, ltN, leN, eqN, nIo, oIn, oI_eq, divN, remN, giT, giF, lzE, prE, bdE, smL, smR, shlN, shrN, hasE, andN, orN, bit1, bit0, max7, min7, giTr, giFa, gdp, litL, i2l, addL, mulL, divL, remL, cmLe, cmGt, cmGe, cmEq, eqL]
          · refine ⟨(0, C1, M1, J1), ?_, ?_, (by decide : 0 < 2), fC_tr p2 f6, fM_tr p3 f7⟩
            · rw [sX6_whose_20, fX6_whose_20b]
              simp (disch := (first | assumption | trivial | omega)) only [z6, y9, v_so6 g, e6, y10, c, Nat.and_zero, lit, neg1, oI_s, addN, mulN, subN, clN, gdN, ltN, leN, eqN, nIo, oIn, oI_eq, divN, remN, giT, giF, lzE, prE, bdE, smL, smR, shlN, shrN, hasE, andN, orN, bit1, bit0, max7, min7, giTr, giFa, gdp, litL, i2l, addL, mulL, divL, remL, cmLe, cmGt, cmGe, cmEq, eqL]
            · rw [sX7_whose_20, fX7_whose_20b]
              simp (disch := (first | assumption | trivial | omega)) only [z7, ym, v_so7 g, e7, ym1, c, show 81 + 2 * k + 2 = 81 + 2 * (k + 1) by omega, lit, neg1, oI_s, addN, mulN, subN, clN, gdN, ltN, leN, eqN, nIo, oIn, oI_eq, divN, remN, giT, giF, lzE, prE, bdE, smL, smR, shlN, shrN, hasE, andN, orN, bit1, bit0, max7, min7, giTr, giFa, gdp, litL, i2l, addL, mulL, divL, remL, cmLe, cmGt, cmGe, cmEq, eqL]) n 0 (1, C, M, J) FU (by omega) ⟨(by decide : 1 < 2), hC, hM⟩ (by show _ < 5000; omega)
    exact ⟨ok, C', M', J', q.1, e6, e7, q.2⟩
  obtain ⟨r6, r7, e6, e7, v, C, M, J, rfl, rfl, f6, f7⟩ := lp_2 (fun n k (a : Nat × gI × gI × gJ) => fX6_whose_4 n (nI a.1) (nI k) a.2.1) (fun n k (a : Nat × gI × gI × gJ) => fX7_whose_4 n (nI a.1) (nI k) a.2.2.1 a.2.2.2) (S 0 1)
    (fun k a => a.1 < 16 ∧ fC IC a.2.1 ∧ fM IM a.2.2.1) (fun r6 r7 => ∃ (v : Nat) (C M : gI) (J : gJ), r6 = (nI v, C) ∧ r7 = (nI v, M, J) ∧ fC IC C ∧ fM IM M)
    (fun n a hP => by
      obtain ⟨v, C, M, J⟩ := a
      try dsimp only at hP ⊢
      obtain ⟨p1, p2, p3⟩ := hP
      have g := sv_f h p2 p3
      refine ⟨(nI v, C), (nI v, M, J), ?_, ?_, v, C, M, J, rfl, rfl, p2, p3⟩
      · rw [sX6_whose_4, fX6_whose_4b]
        simp (disch := (first | assumption | trivial | omega)) only [v_nt6 g, lit, neg1, oI_s, addN, mulN, subN, clN, gdN, ltN, leN, eqN, nIo, oIn, oI_eq, divN, remN, giT, giF, lzE, prE, bdE, smL, smR, shlN, shrN, hasE, andN, orN, bit1, bit0, max7, min7, giTr, giFa, gdp, litL, i2l, addL, mulL, divL, remL, cmLe, cmGt, cmGe, cmEq, eqL]
      · rw [sX7_whose_4, fX7_whose_4b]
        simp (disch := (first | assumption | trivial | omega)) only [v_nt7 g, lit, neg1, oI_s, addN, mulN, subN, clN, gdN, ltN, leN, eqN, nIo, oIn, oI_eq, divN, remN, giT, giF, lzE, prE, bdE, smL, smR, shlN, shrN, hasE, andN, orN, bit1, bit0, max7, min7, giTr, giFa, gdp, litL, i2l, addL, mulL, divL, remL, cmLe, cmGt, cmGe, cmEq, eqL])
    (fun n t a hk hP => by
      obtain ⟨v, C, M, J⟩ := a
      try dsimp only at hP ⊢
      right
      obtain ⟨p1, p2, p3⟩ := hP
      have g := sv_f h p2 p3
      have ht4 : t < 4 := by omega
      obtain ⟨ok, C1, M1, J1, hok, e6, e7, f6, f7⟩ := inner t v C M J hk p2 p3
      have hor : v ||| 2 ^ t < 16 := Nat.or_lt_two_pow (n := 4) p1 (Nat.pow_lt_pow_right (by decide) ht4)
      have hp2 : 2 ^ t < 16 := by
        have z : 2 ^ t < 2 ^ 4 := Nat.pow_lt_pow_right (by decide) ht4
        exact z
      have e6' : fX6_whose_20 FU (nI v) (nI t) (nI 1) (nI 0) C = some (nI ok, C1) := e6
      have e7' : fX7_whose_20 FU (nI v) (nI t) (nI 1) (nI 81) M J = some (nI ok, M1, J1) := e7
      by_cases c : ok = 0
      · refine ⟨(v, C1, M1, J1), ?_, ?_, p1, f6, f7⟩
        · rw [sX6_whose_4, fX6_whose_4b]
          simp (disch := (first | assumption | trivial | omega)) only [v_nt6 g, e6', c, lit, neg1, oI_s, addN, mulN, subN, clN, gdN, ltN, leN, eqN, nIo, oIn, oI_eq, divN, remN, giT, giF, lzE, prE, bdE, smL, smR, shlN, shrN, hasE, andN, orN, bit1, bit0, max7, min7, giTr, giFa, gdp, litL, i2l, addL, mulL, divL, remL, cmLe, cmGt, cmGe, cmEq, eqL]
        · rw [sX7_whose_4, fX7_whose_4b]
          simp (disch := (first | assumption | trivial | omega)) only [v_nt7 g, e7', c, Nat.or_zero, lit, neg1, oI_s, addN, mulN, subN, clN, gdN, ltN, leN, eqN, nIo, oIn, oI_eq, divN, remN, giT, giF, lzE, prE, bdE, smL, smR, shlN, shrN, hasE, andN, orN, bit1, bit0, max7, min7, giTr, giFa, gdp, litL, i2l, addL, mulL, divL, remL, cmLe, cmGt, cmGe, cmEq, eqL]
      · refine ⟨(v ||| 2 ^ t, C1, M1, J1), ?_, ?_, hor, f6, f7⟩
        · rw [sX6_whose_4, fX6_whose_4b]
          simp (disch := (first | assumption | trivial | omega)) only [v_nt6 g, e6', c, Nat.one_mul, lit, neg1, oI_s, addN, mulN, subN, clN, gdN, ltN, leN, eqN, nIo, oIn, oI_eq, divN, remN, giT, giF, lzE, prE, bdE, smL, smR, shlN, shrN, hasE, andN, orN, bit1, bit0, max7, min7, giTr, giFa, gdp, litL, i2l, addL, mulL, divL, remL, cmLe, cmGt, cmGe, cmEq, eqL]
        · rw [sX7_whose_4, fX7_whose_4b]
          simp (disch := (first | assumption | trivial | omega)) only [v_nt7 g, e7', c, Nat.one_mul, lit, neg1, oI_s, addN, mulN, subN, clN, gdN, ltN, leN, eqN, nIo, oIn, oI_eq, divN, remN, giT, giF, lzE, prE, bdE, smL, smR, shlN, shrN, hasE, andN, orN, bit1, bit0, max7, min7, giTr, giFa, gdp, litL, i2l, addL, mulL, divL, remL, cmLe, cmGt, cmGe, cmEq, eqL]) (S 0 1) 0 (0, IC, IM, JM) FU (by omega) ⟨(by decide : 0 < 16), fC_rf, fM_rf⟩ (by show _ < 5000; omega)
  have e6' : fX6_whose_4 FU 0 0 IC = some (nI v, C) := e6
  have e7' : fX7_whose_4 FU 0 0 IM JM = some (nI v, M, J) := e7
  refine ⟨nI v, C, M, J, ?_, ?_, V0_f hV f6 f7⟩
  · unfold fX6_whose
    rw [e6']
    rfl
  · unfold fX7_whose
    rw [e7']
    rfl
