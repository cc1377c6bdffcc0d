-- 60: PURE PART: pack, see, month (out of wip/whole/pure by pure.py)
theorem case_21 (hB : BIDS) : st_21 V0 := by
  intro a1 a2 IC IM JM hV
  obtain ⟨S, bV, h, hb⟩ := view3 hB hV
  have bn := b_nb h
  by_cases c : inR a1 5
  · have i6 := isSort6_pos c
    have i7 := isSort7_pos c
    obtain ⟨s, hs, rfl⟩ := c
    have hp : 0 < 2 ^ S 0 0 := Nat.pow_pos (by decide)
    obtain ⟨a, C, M, J, e6, e7, fc, fm, q293, qa, qv, qle⟩ := best67 h hb (mask := 0) hs hp JM
    have ha := qa rfl
    have g := sv_2 h fc fm
    obtain ⟨qlt, qva⟩ : a - 1 < 2 ^ S 0 0 ∧ va S (bf S bV s) s (a - 1) = su (bf S bV s) (a - 1) (S 0 0) + 1 := by
      rcases qv with q | q
      · omega
      · exact q
    have hbf : ∀ b, b < S 0 0 → bf S bV s b < 100 := fun b hb' => (hb _ _ h lik_rf (S 0 2) b s bn.2.2 hb' hs).1
    have hbt := bt6 (u := a - 1) (IC := C) (f := bf S bV s) bn.1 hbf q293 qlt (by omega)
    obtain ⟨M1, J1, d1, f1⟩ := br7 (u := a - 1) (bV := bV) h (fun M hM => hb _ _ (sv_f h fC_rf hM) (lik_f fC_rf hM)) hs (by omega) fm J
    rw [qva, oI_s] at d1
    rw [← oIp ha] at e6 e7
    have e6' : fX6_bestSet 0 (nI s) IC = some (nI (a - 1), C) := e6
    have e7' : fX7_bestSet 0 (nI s) IM JM = some (nI (a - 1), M, J) := e7
    rcases bz_01 a2 with z | z
    · refine ⟨nI (su (bf S bV s) (a - 1) (S 0 0)), C, M1, J1, ?_, ?_, V0_eq hV (eqC_2 fc) (eqM_f f1)⟩
      · unfold fX6_pack
        rw [i6, z, e6', gi_neg one_ne, bdE, prE, gi_pos (show nI 0 = (0 : Int32) from rfl), hbt]
        rfl
      · unfold fX7_pack
        rw [i7, z, e7', gi_neg one_ne, gi_pos (show nI 0 = (0 : Int32) from rfl), bdE, prE, prE, d1]
        rfl
    · refine ⟨nI (a - 1), C, M, J, ?_, ?_, V0_eq hV (eqC_2 fc) (eqM_f fm)⟩
      · unfold fX6_pack
        rw [i6, z, e6', gi_neg one_ne, bdE, prE, gi_neg (c := nI 1 = (0 : Int32)) one_ne]
      · unfold fX7_pack
        rw [i7, z, e7', gi_neg one_ne, gi_neg (c := nI 1 = (0 : Int32)) one_ne]
        rfl
  · refine ⟨-1, IC, IM, JM, ?_, ?_, hV⟩
    · unfold fX6_pack
      rw [isSort6_neg c, gi_pos rfl]
    · unfold fX7_pack
      rw [isSort7_neg c, gi_pos rfl]
theorem case_22 (hB : BIDS) : st_22 V0 := by
  intro a1 a2 IC IM JM hV
  obtain ⟨S, bV, h, hb⟩ := view3 hB hV
  have bn := b_nb h
  have hp : 0 < 2 ^ S 0 0 := Nat.pow_pos (by decide)
  have hp64 : 2 ^ S 0 0 ≤ 64 := by
    have z : 2 ^ S 0 0 ≤ 2 ^ 6 := Nat.pow_le_pow_right (by decide) bn.1
    exact z
  have m6 : (jshl 1 (IC 1 12)) - 1 = nI (2 ^ S 0 0 - 1) := by
    rw [v_nb6 h]
    simp (disch := (first | assumption | trivial | omega)) only [Nat.one_mul, lit, neg1, oI_s, addN, mulN, subN, clN, gdN, ltN, leN, eqN, nIo, oIn, oI_eq, divN, remN, giT, giF, lzE, prE, bdE, smL, smR, shlN, shrN, hasE, andN, orN, bit1, bit0, max7, min7, giTr, giFa, gdp, litL, i2l, addL, mulL, divL, remL, cmLe, cmGt, cmGe, cmEq, eqL]
  have m7 : (jshl 1 (IM 1 0)) - 1 = nI (2 ^ S 0 0 - 1) := by
    rw [v_nb7 h]
    simp (disch := (first | assumption | trivial | omega)) only [Nat.one_mul, lit, neg1, oI_s, addN, mulN, subN, clN, gdN, ltN, leN, eqN, nIo, oIn, oI_eq, divN, remN, giT, giF, lzE, prE, bdE, smL, smR, shlN, shrN, hasE, andN, orN, bit1, bit0, max7, min7, giTr, giFa, gdp, litL, i2l, addL, mulL, divL, remL, cmLe, cmGt, cmGe, cmEq, eqL]
  rcases isIn0 a1 (2 ^ S 0 0 - 1) (by omega) with ⟨mask, hm, rfl, j7⟩ | j7
  · have j6 : fX6_within (nI mask) 0 (nI (2 ^ S 0 0 - 1)) = nI 1 := j7
    by_cases c : inR a2 5
    · have i6 := isSort6_pos c
      have i7 := isSort7_pos c
      obtain ⟨s, hs, rfl⟩ := c
      obtain ⟨a, C, M, J, e6, e7, fc, fm, q293, qa, qv, qle⟩ := best67 h hb (mask := mask) hs (by omega) JM
      by_cases ca : a = 0
      · subst ca
        refine ⟨-1, C, M, J, ?_, ?_, V0_eq hV (eqC_2 fc) (eqM_f fm)⟩
        · unfold fX6_see
          rw [i6, m6, j6, gi_neg one_ne, lzE, gi_neg (c := nI 1 = (0 : Int32)) one_ne, e6, bdE, prE, gi_pos (show oI 0 = (-1 : Int32) from rfl)]
        · unfold fX7_see
          rw [i7, m7, j7, gi_neg (c := nI 1 = (0 : Int32)) one_ne, gi_neg one_ne, e7, bdE, prE, prE, gi_pos (show oI 0 = (-1 : Int32) from rfl)]
      · obtain ⟨qlt, qva⟩ : a - 1 < 2 ^ S 0 0 ∧ va S (bf S bV s) s (a - 1) = su (bf S bV s) (a - 1) (S 0 0) + 1 := by
          rcases qv with q | q
          · omega
          · exact q
        have hbf : ∀ b, b < S 0 0 → bf S bV s b < 100 := fun b hb' => (hb _ _ h lik_rf (S 0 2) b s bn.2.2 hb' hs).1
        have hbt := bt6 (u := a - 1) (IC := C) (f := bf S bV s) bn.1 hbf q293 qlt (by omega)
        obtain ⟨M1, J1, d1, f1⟩ := br7 (u := a - 1) (bV := bV) h (fun M hM => hb _ _ (sv_f h fC_rf hM) (lik_f fC_rf hM)) hs (by omega) fm J
        rw [qva, oI_s] at d1
        have hne : ¬ nI (a - 1) = -1 := nI_none (by omega)
        rw [← oIp (by omega : 0 < a)] at e6 e7
        refine ⟨nI (su (bf S bV s) (a - 1) (S 0 0)), C, M1, J1, ?_, ?_, V0_eq hV (eqC_2 fc) (eqM_f f1)⟩
        · unfold fX6_see
          rw [i6, m6, j6, gi_neg one_ne, lzE, gi_neg (c := nI 1 = (0 : Int32)) one_ne, e6, bdE, prE, gi_neg hne, hbt]
          rfl
        · unfold fX7_see
          rw [i7, m7, j7, gi_neg (c := nI 1 = (0 : Int32)) one_ne, gi_neg one_ne, e7, bdE, prE, prE, gi_neg hne, d1]
          rfl
    · refine ⟨-1, IC, IM, JM, ?_, ?_, hV⟩
      · unfold fX6_see
        rw [isSort6_neg c, gi_pos rfl]
      · unfold fX7_see
        rw [m7, j7, isSort7_neg c, gi_neg (c := nI 1 = (0 : Int32)) one_ne, gi_pos rfl]
  · have j6 : fX6_within a1 0 (nI (2 ^ S 0 0 - 1)) = nI 0 := j7
    refine ⟨-1, IC, IM, JM, ?_, ?_, hV⟩
    · unfold fX6_see
      by_cases c : inR a2 5
      · rw [isSort6_pos c, m6, j6, gi_neg one_ne, lzE, gi_pos (show nI 0 = (0 : Int32) from rfl)]
      · rw [isSort6_neg c, gi_pos rfl]
    · unfold fX7_see
      rw [m7, j7, gi_pos (show nI 0 = (0 : Int32) from rfl)]
theorem case_36 (hB : BIDS) : st_36 V0 := by
  intro a1 a2 IC IM JM hV
  obtain ⟨S, bV, h, hb⟩ := view3 hB hV
  have bn := b_nb h
  rcases isIn1 a1 60 (by decide) with ⟨n, n1, n2, rfl, i7⟩ | i7
  · have i7' : fX7_isIn (nI n) 1 60 = nI 1 := i7
    have i6' : fX6_within (nI n) 1 60 = nI 1 := i7
    obtain ⟨r6, r7, e6, e7, acc, C, M, J, hacc, rfl, rfl, fc, fm⟩ := lp_2 (fun q k (a : Nat × gI × gI × gJ) => fX6_month_19 q (nI n) (bz a2) (lN a.1) (nI k) a.2.1) (fun q k (a : Nat × gI × gI × gJ) => fX7_month_19 q (nI n) (bz a2) (lN (n * a.1)) (nI k) a.2.2.1 a.2.2.2) 5
      (fun k a => a.1 ≤ 6000 * k ∧ fC2 IC a.2.1 ∧ fM IM a.2.2.1) (fun r6 r7 => ∃ (acc : Nat) (C M : gI) (J : gJ), acc ≤ 30000 ∧ r6 = (lN acc, C) ∧ r7 = (lN (n * acc), M, J) ∧ fC2 IC C ∧ fM IM M)
      (fun q a hP => by
        obtain ⟨acc, C, M, J⟩ := a
        try dsimp only at hP ⊢
        obtain ⟨p1, p2, p3⟩ := hP
        refine ⟨(lN acc, C), (lN (n * acc), M, J), ?_, ?_, acc, C, M, J, by omega, rfl, rfl, p2, p3⟩
        · rw [sX6_month_19, fX6_month_19b]
          simp (disch := (first | assumption | trivial | omega)) only [lit, neg1, oI_s, addN, mulN, subN, clN, gdN, ltN, leN, eqN, nIo, oIn, oI_eq, divN, remN, giT, giF, lzE, prE, bdE, smL, smR, shlN, shrN, hasE, andN, orN, bit1, bit0, max7, min7, giTr, giFa, gdp, litL, i2l, addL, mulL, divL, remL, cmLe, cmGt, cmGe, cmEq, eqL]
        · rw [sX7_month_19, fX7_month_19b]
          simp (disch := (first | assumption | trivial | omega)) only [lit, neg1, oI_s, addN, mulN, subN, clN, gdN, ltN, leN, eqN, nIo, oIn, oI_eq, divN, remN, giT, giF, lzE, prE, bdE, smL, smR, shlN, shrN, hasE, andN, orN, bit1, bit0, max7, min7, giTr, giFa, gdp, litL, i2l, addL, mulL, divL, remL, cmLe, cmGt, cmGe, cmEq, eqL])
      (fun q s a hs hP => by
        obtain ⟨acc, C, M, J⟩ := a
        try dsimp only at hP ⊢
        right
        obtain ⟨p1, p2, p3⟩ := hP
        have g := sv_2 h p2 p3
        have hbg : ∀ C' M', sv S C' M' → lik C M C' M' → bidOK S bV C' M' := fun C' M' g' l' => hb _ _ g' (lik_tr (lik_2 p2 p3) l')
        have hp : 0 < 2 ^ S 0 0 := Nat.pow_pos (by decide)
        obtain ⟨a, C1, M1, J1, x6, x7, fc, fm, q293, qa, qv, qle⟩ := best67 g hbg (mask := 0) hs hp J
        have ha := qa rfl
        have g1 := sv_2 g fc fm
        obtain ⟨qlt, qva⟩ : a - 1 < 2 ^ S 0 0 ∧ va S (bf S bV s) s (a - 1) = su (bf S bV s) (a - 1) (S 0 0) + 1 := by
          rcases qv with q | q
          · omega
          · exact q
        have hbf : ∀ b, b < S 0 0 → bf S bV s b < 100 := fun b hb' => (hb _ _ h lik_rf (S 0 2) b s bn.2.2 hb' hs).1
        have hbt := bt6 (u := a - 1) (IC := C1) (f := bf S bV s) bn.1 hbf q293 qlt (by omega)
        obtain ⟨M2, J2, d1, f1⟩ := br7 (u := a - 1) (bV := bV) g (fun M hM => hbg _ _ (sv_f g fC_rf hM) (lik_f fC_rf hM)) hs (by omega) fm J1
        rw [qva, oI_s] at d1
        rw [← oIp ha] at x6 x7
        have x6' : fX6_bestSet (nI 0) (nI s) C = some (nI (a - 1), C1) := x6
        have x7' : fX7_bestSet (nI 0) (nI s) M J = some (nI (a - 1), M1, J1) := x7
        have hsu := su_le (u := a - 1) hbf (S 0 0) (Nat.le_refl _)
        have hlk := lk_lt h hs
        have z6 := lk6 g1 hs
        have z7 := lk7 g hs
        generalize su (bf S bV s) (a - 1) (S 0 0) = v at hbt d1 hsu
        generalize hl : lk S s = l at z6 z7 hlk
        have hlv : l * v ≤ 5400 := by
          have : l * v ≤ 9 * 600 := Nat.mul_le_mul (by omega) (by omega)
          omega
        have hnl : n * l ≤ 540 := by
          have : n * l ≤ 60 * 9 := Nat.mul_le_mul n2 (by omega)
          omega
        by_cases cl : l = 0
        · subst cl
          refine ⟨(acc, C1, M, J), ?_, ?_, by omega, fC2_tr p2 fc, p3⟩
          · rw [sX6_month_19, fX6_month_19b]
            simp (disch := (first | assumption | trivial | omega)) only [x6', z6, hbt, Nat.zero_mul, Nat.add_zero, lit, neg1, oI_s, addN, mulN, subN, clN, gdN, ltN, leN, eqN, nIo, oIn, oI_eq, divN, remN, giT, giF, lzE, prE, bdE, smL, smR, shlN, shrN, hasE, andN, orN, bit1, bit0, max7, min7, giTr, giFa, gdp, litL, i2l, addL, mulL, divL, remL, cmLe, cmGt, cmGe, cmEq, eqL]
          · rw [sX7_month_19, fX7_month_19b]
            simp (disch := (first | assumption | trivial | omega)) only [z7, Nat.le_refl, lit, neg1, oI_s, addN, mulN, subN, clN, gdN, ltN, leN, eqN, nIo, oIn, oI_eq, divN, remN, giT, giF, lzE, prE, bdE, smL, smR, shlN, shrN, hasE, andN, orN, bit1, bit0, max7, min7, giTr, giFa, gdp, litL, i2l, addL, mulL, divL, remL, cmLe, cmGt, cmGe, cmEq, eqL]
        · refine ⟨(acc + l * v, C1, M2, J2), ?_, ?_, by omega, fC2_tr p2 fc, fM_tr p3 f1⟩
          · rw [sX6_month_19, fX6_month_19b]
            simp (disch := (first | assumption | trivial | omega)) only [x6', z6, hbt, lit, neg1, oI_s, addN, mulN, subN, clN, gdN, ltN, leN, eqN, nIo, oIn, oI_eq, divN, remN, giT, giF, lzE, prE, bdE, smL, smR, shlN, shrN, hasE, andN, orN, bit1, bit0, max7, min7, giTr, giFa, gdp, litL, i2l, addL, mulL, divL, remL, cmLe, cmGt, cmGe, cmEq, eqL]
          · rw [sX7_month_19, fX7_month_19b]
            have e : n * acc + n * l * v = n * (acc + l * v) := by rw [Nat.mul_add, Nat.mul_assoc]
            have cl2 : ¬ l ≤ 0 := by omega
            simp (disch := (first | assumption | trivial | omega)) only [z7, cl2, x7', d1, e, lit, neg1, oI_s, addN, mulN, subN, clN, gdN, ltN, leN, eqN, nIo, oIn, oI_eq, divN, remN, giT, giF, lzE, prE, bdE, smL, smR, shlN, shrN, hasE, andN, orN, bit1, bit0, max7, min7, giTr, giFa, gdp, litL, i2l, addL, mulL, divL, remL, cmLe, cmGt, cmGe, cmEq, eqL]) 5 0 (0, IC, IM, JM) FU rfl ⟨(by omega : 0 ≤ 6000 * 0), fun _ _ _ => rfl, fM_rf⟩ (by show _ < 5000; omega)
    have e6' : fX6_month_19 FU (nI n) (bz a2) 0 0 IC = some (lN acc, C) := e6
    have e7' : fX7_month_19 FU (nI n) (bz a2) 0 0 IM JM = some (lN (n * acc), M, J) := by
      have : fX7_month_19 FU (nI n) (bz a2) (lN (n * 0)) (nI 0) IM JM = some (lN (n * acc), M, J) := e7
      rw [Nat.mul_zero] at this
      exact this
    have g := sv_2 h fc fm
    have hna : n * acc ≤ 1800000 := by
      have : n * acc ≤ 60 * 30000 := Nat.mul_le_mul n2 hacc
      omega
    have oalt := oa_lt h
    obtain ⟨r, d6, d7⟩ := low67 (up := n * acc) (down := max 1 (oa S)) (bz a2) (by omega) (by omega) (by omega)
    refine ⟨r, C, M, J, ?_, ?_, V0_eq hV (eqC_2 fc) (eqM_f fm)⟩
    · unfold fX6_month
      rw [i6', gi_neg (c := nI 1 = (0 : Int32)) one_ne, e6', bdE, prE, wh6 g, bdE, i2l (by omega), i2l (by omega), mulL, d6]
      rfl
    · unfold fX7_month
      rw [i7', gi_neg (c := nI 1 = (0 : Int32)) one_ne, e7', bdE, prE, prE, wh7 g, bdE, i2l (by omega), d7]
      rfl
  · have i7' : fX7_isIn a1 1 60 = nI 0 := i7
    have i6' : fX6_within a1 1 60 = nI 0 := i7
    refine ⟨-1, IC, IM, JM, ?_, ?_, hV⟩
    · unfold fX6_month
      rw [i6', gi_pos (show nI 0 = (0 : Int32) from rfl)]
    · unfold fX7_month
      rw [i7', gi_pos (show nI 0 = (0 : Int32) from rfl)]
