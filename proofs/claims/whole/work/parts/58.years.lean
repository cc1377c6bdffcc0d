-- 58: PURE PART: years of draws (out of wip/whole/pure by pure.py)
theorem gv_ok {S : Nat → Nat → Nat} {IC1 IM1 : gI} {JM : gJ} {s : Nat} (kV : V0 IC1 IM1 JM) (g : sv S IC1 IM1) (hs : s < 12) (f : S 11 s = 0) : ∃ IC3 IM3, fX6_giveAway (nI s) IC1 = some IC3 ∧ fX7_giveNow (nI s) IM1 = some IM3 ∧ V0 IC3 IM3 JM := by
  have bs := b_sl g hs
  have bw := b_w g
  have p2 := p2lt hs
  have ow1 := own_of kV g
  have hlt : andn (S 10 5) (2 ^ s) < 4096 := Nat.lt_of_le_of_lt andn_le bw.2.2.2.2.2
  have hbit : ∀ j, j < 12 → ((andn (S 10 5) (2 ^ s)).testBit j = true ↔ (S 10 5).testBit j = true ∧ ¬ s = j) := fun j hj => by rw [andn_bit (by omega) (by omega), bit_p2]
  obtain ⟨IC3, IM3, w1, w2, w3⟩ := mutw (S := S) (IC2 := wI IC1 11 4 (nI (andn (S 10 5) (2 ^ s)))) (IM2 := wI IM1 1 (11 + s) (nI 6)) JM kV g (S 10 0) (S 10 1) (S 10 2) (S 10 3) (andn (S 10 5) (2 ^ s)) (fun j => if j = s then 7 else S 11 j) (S 12) (S 13)
    ⟨bw.1, bw.2.1, bw.2.2.1, bw.2.2.2.1, hlt⟩
    (by simp (disch := omega) only [wI_ne, wI_eq]; exact ⟨v_da7 g, v_da6 g, v_dx7 g, v_dx6 g, v_fu7 g, v_fu6 g, v_so7 g, v_so6 g, trivial⟩)
    (fun j hj => by
      have bj := b_sl g hj
      try dsimp only
      by_cases e : j = s
      · subst e
        rw [if_pos rfl, wI_eq, hbit j hj]
        exact ⟨Or.inr rfl, rfl, ⟨fun q => absurd rfl q.2, fun q => absurd q (by decide)⟩⟩
      · rw [if_neg e, wI_ne (by omega), hbit j hj, bj.2]
        exact ⟨bj.1, v_sl7 g hj, ⟨fun q => q.1, fun q => ⟨q, fun x => e x.symm⟩⟩⟩)
    (fun b hb => by
      have bo := b_ow g hb
      refine ⟨bo.1, by rw [wI_o (by omega)]; exact v_ow6 g hb, fun j hj => ?_⟩
      try dsimp only
      by_cases e : j = s
      · subst e
        rw [if_pos rfl, bo.2 j hj, f]
        omega
      · rw [if_neg e]; exact bo.2 j hj)
    (fun b hb => ⟨b_pu g hb, by rw [wI_ne (by omega)]; exact v_pu7 g hb, by rw [wI_o (by omega)]; exact v_pu6 g hb⟩)
    (fun j b hj hb e => by
      try dsimp only at e
      by_cases e2 : j = s
      · rw [if_pos e2] at e; omega
      · rw [if_neg e2] at e; exact ow1 j b hj hb e)
    (fun o h1 h2 h3 => wI_o h1) (wI_ne (by omega)) (fun o h1 => wI_o h1) (fun k hk => wI_ne (by omega)) (k := 1) (x := s) (q := 0) (by omega) hs (by omega)

  refine ⟨IC3, IM3, ?_, ?_, w3⟩
  · have e4' := v_f6 g
    unfold fX6_giveAway
    simp (disch := (first | assumption | trivial | omega)) only [e4', notN', lit, neg1, oI_s, addN, mulN, subN, clN, gdN, ltN, leN, eqN, nIo, oIn, oI_eq, divN, remN, giT, giF, lzE, prE, bdE, smL, smR, shlN, shrN, hasE, andN, orN, bit1, bit0, max7, min7, giTr, giFa, gdp, litL, i2l, addL, mulL, divL, remL, cmLe, cmGt, cmGe, cmEq, eqL]
    rw [show S 10 5 &&& (4294967295 - 1 * 2 ^ s) = andn (S 10 5) (2 ^ s) by rw [Nat.one_mul]; rfl]
    rw [w1]
    rfl
  · unfold fX7_giveNow
    simp (disch := (first | assumption | trivial | omega)) only [lit, neg1, oI_s, addN, mulN, subN, clN, gdN, ltN, leN, eqN, nIo, oIn, oI_eq, divN, remN, giT, giF, lzE, prE, bdE, smL, smR, shlN, shrN, hasE, andN, orN, bit1, bit0, max7, min7, giTr, giFa, gdp, litL, i2l, addL, mulL, divL, remL, cmLe, cmGt, cmGe, cmEq, eqL]
    rw [w2]
    rfl
theorem tn_ok {S : Nat → Nat → Nat} {IC1 IM1 : gI} {JM : gJ} {b : Nat} (kV : V0 IC1 IM1 JM) (g : sv S IC1 IM1) (hb : b < S 0 0) : ∃ IC3 IM3, fX6_turnAway (nI b) IC1 = some IC3 ∧ fX7_turnNow (nI b) IM1 = some IM3 ∧ V0 IC3 IM3 JM := by
  have bn := b_nb g
  have hb6 : b < 6 := by omega
  have bo := b_ow g hb6
  have bw := b_w g
  have ow1 := own_of kV g
  have hor : S 10 5 ||| S 12 b < 4096 := Nat.or_lt_two_pow (n := 12) bw.2.2.2.2.2 bo.1
  obtain ⟨IM2, t1, t2, t3, t4, t5⟩ := lp_sl (fun n k a => fX7_turnNow_2 n (nI b) (nI k) a) 0 12 (fun j => if S 11 j = b + 1 then 0 else S 11 j) (S 11) IM1 (fun j hj => v_sl7 g hj)
    (fun n a _ => by
      try dsimp only
      rw [sX7_turnNow_2, fX7_turnNow_2b]
      simp (disch := (first | assumption | trivial | omega)) only [lit, neg1, oI_s, addN, mulN, subN, clN, gdN, ltN, leN, eqN, nIo, oIn, oI_eq, divN, remN, giT, giF, lzE, prE, bdE, smL, smR, shlN, shrN, hasE, andN, orN, bit1, bit0, max7, min7, giTr, giFa, gdp, litL, i2l, addL, mulL, divL, remL, cmLe, cmGt, cmGe, cmEq, eqL])
    (fun n k a _ hk _ e => by
      try dsimp only
      have bk := b_sl g hk
      rw [sX7_turnNow_2, fX7_turnNow_2b]
      by_cases q : S 11 k = b + 1
      · left
        rw [if_pos q]
        simp (disch := (first | assumption | trivial | omega)) only [e, q, lit, neg1, oI_s, addN, mulN, subN, clN, gdN, ltN, leN, eqN, nIo, oIn, oI_eq, divN, remN, giT, giF, lzE, prE, bdE, smL, smR, shlN, shrN, hasE, andN, orN, bit1, bit0, max7, min7, giTr, giFa, gdp, litL, i2l, addL, mulL, divL, remL, cmLe, cmGt, cmGe, cmEq, eqL]
      · right
        rw [if_neg q]
        refine ⟨rfl, ?_⟩
        simp (disch := (first | assumption | trivial | omega)) only [e, q, lit, neg1, oI_s, addN, mulN, subN, clN, gdN, ltN, leN, eqN, nIo, oIn, oI_eq, divN, remN, giT, giF, lzE, prE, bdE, smL, smR, shlN, shrN, hasE, andN, orN, bit1, bit0, max7, min7, giTr, giFa, gdp, litL, i2l, addL, mulL, divL, remL, cmLe, cmGt, cmGe, cmEq, eqL]) (by omega) (by omega)
  try dsimp only at t1
  obtain ⟨IC3, IM3, w1, w2, w3⟩ := mutw (S := S) (IC2 := wI (wI IC1 11 4 (nI (S 10 5 ||| S 12 b))) 13 b (nI 0)) (IM2 := IM2) JM kV g (S 10 0) (S 10 1) (S 10 2) (S 10 3) (S 10 5 ||| S 12 b) (fun j => if S 11 j = b + 1 then 0 else S 11 j) (fun j => if j = b then 0 else S 12 j) (S 13)
    ⟨bw.1, bw.2.1, bw.2.2.1, bw.2.2.2.1, hor⟩
    (by rw [t3 6 (by omega), t3 7 (by omega), t3 8 (by omega), t3 9 (by omega)]; simp (disch := omega) only [wI_ne, wI_eq, wI_o]; exact ⟨v_da7 g, v_da6 g, v_dx7 g, v_dx6 g, v_fu7 g, v_fu6 g, v_so7 g, v_so6 g, trivial⟩)
    (fun j hj => by
      have bj := b_sl g hj
      refine ⟨?_, t4 j (by omega) hj, ?_⟩
      · try dsimp only
        by_cases e : S 11 j = b + 1
        · rw [if_pos e]; omega
        · rw [if_neg e]; exact bj.1
      · try dsimp only
        rw [Nat.testBit_or, Bool.or_eq_true, bj.2, bo.2 j hj]
        by_cases e : S 11 j = b + 1
        · rw [if_pos e]; exact ⟨fun _ => rfl, fun _ => Or.inr e⟩
        · rw [if_neg e]; exact ⟨fun q => q.elim id (fun q => absurd q e), Or.inl⟩)
    (fun d hd => by
      have bd' := b_ow g hd
      try dsimp only
      by_cases e : d = b
      · subst e
        rw [if_pos rfl, wI_eq]
        refine ⟨by omega, rfl, fun j hj => ?_⟩
        rw [Nat.zero_testBit]
        by_cases e2 : S 11 j = d + 1
        · rw [if_pos e2]; exact ⟨fun q => absurd q (by decide), fun q => absurd q (by omega)⟩
        · rw [if_neg e2]; exact ⟨fun q => absurd q (by decide), fun q => absurd q e2⟩
      · rw [if_neg e, wI_ne (by omega), wI_o (by omega)]
        refine ⟨bd'.1, v_ow6 g hd, fun j hj => ?_⟩
        rw [bd'.2 j hj]
        by_cases e2 : S 11 j = b + 1
        · rw [if_pos e2]; omega
        · rw [if_neg e2])
    (fun d hd => ⟨b_pu g hd, by rw [t3 _ (by omega)]; exact v_pu7 g hd, by rw [wI_o (by omega), wI_o (by omega)]; exact v_pu6 g hd⟩)
    (fun j d hj hd e => by
      try dsimp only at e
      by_cases e2 : S 11 j = b + 1
      · rw [if_pos e2] at e; omega
      · rw [if_neg e2] at e; exact ow1 j d hj hd e)
    (fun o h1 h2 h3 => by rw [wI_o h3, wI_o h1]) (by rw [wI_o (by omega), wI_ne (by omega)]) (fun o h1 => t2 o h1) (fun k hk => t3 k (by omega)) (k := 2) (x := b) (q := 0) (by omega) (by omega) (by omega)

  refine ⟨IC3, IM3, ?_, ?_, w3⟩
  · unfold fX6_turnAway
    simp (disch := (first | assumption | trivial | omega)) only [v_ow6 g, v_f6 g, wI_o, lit, neg1, oI_s, addN, mulN, subN, clN, gdN, ltN, leN, eqN, nIo, oIn, oI_eq, divN, remN, giT, giF, lzE, prE, bdE, smL, smR, shlN, shrN, hasE, andN, orN, bit1, bit0, max7, min7, giTr, giFa, gdp, litL, i2l, addL, mulL, divL, remL, cmLe, cmGt, cmGe, cmEq, eqL]
    rw [w1]
    rfl
  · unfold fX7_turnNow
    simp (disch := (first | assumption | trivial | omega)) only [show fX7_turnNow_2 FU (nI b) (nI 0) IM1 = some IM2 from t1, lit, neg1, oI_s, addN, mulN, subN, clN, gdN, ltN, leN, eqN, nIo, oIn, oI_eq, divN, remN, giT, giF, lzE, prE, bdE, smL, smR, shlN, shrN, hasE, andN, orN, bit1, bit0, max7, min7, giTr, giFa, gdp, litL, i2l, addL, mulL, divL, remL, cmLe, cmGt, cmGe, cmEq, eqL]
    rw [w2]
    rfl
/-- another number to draw from -/
theorem sx_ok {S : Nat → Nat → Nat} {IC IM : gI} {JM : gJ} {x : Nat} (kV : V0 IC IM JM) (g : sv S IC IM) (hx : x < 31039) : V0 (wI IC 11 8 (nI x)) (wI IM 1 7 (nI x)) JM := by
  obtain ⟨⟨b0, b1, b2, b3, b4, b5⟩, ⟨m6, c7, m7, c8, m8, c6, m9, c5, m10, c3, c4⟩, sl, ow, pu, ln⟩ := g.2
  have ow1 := own_of kV g
  obtain ⟨S2, e0, ⟨d0, d1, d2, d3, d4, d5⟩, e1, e2, e3⟩ := mkS S (S 10 0) x (S 10 2) (S 10 3) (S 10 4) (S 10 5) (S 11) (S 12) (S 13)
  refine V0_wall (S' := S2) kV g ⟨?_, ?_, fun s hs => ?_, fun b hb => ?_, fun b hb => ?_, fun i hi => ?_⟩ (by rw [e0 0 (by omega)]) (fun s b hs hb e => ow1 s b hs hb (by rw [← e1]; exact e)) (fun o h => wI_o (by omega)) (fun o h => wI_o (by omega)) ⟨by rw [wI_o (by omega)], by rw [wI_o (by omega)], by rw [wI_o (by omega)], by rw [wI_o (by omega)]⟩ (fun k h => wI_ne (by omega))
  · rw [d0, d1, d2, d3, d4, d5]; exact ⟨b0, hx, b2, b3, b4, b5⟩
  · rw [d0, d1, d2, d3, d4, d5]
    simp (disch := omega) only [wI_ne, wI_eq]
    exact ⟨m6, c7, trivial, trivial, m8, c6, m9, c5, m10, c3, c4⟩
  · rw [e1, e0 0 (by omega), d5, wI_ne (by omega)]; exact sl s hs
  · rw [e1, e2, wI_o (by omega)]; exact ow b hb
  · rw [e3, wI_ne (by omega), wI_o (by omega)]; exact pu b hb
  · rw [d4] at hi
    rw [wI_o (by omega), wI_ne (by omega)]; exact ln i hi
theorem yr_ok (hB : BIDS) (hE : EARN) {C M : gI} {J : gJ} {x : Nat} (kV : V0 C M J) (hx : x < 31039) : ∃ C' M' J', fX6_yearly (nI x) C = some C' ∧ fX7_happens (nI x) M J = some (M', J') ∧ V0 C' M' J' := by
  obtain ⟨S, bV, h, hb⟩ := view3 hB kV
  have bn := b_nb h
  have bw := b_w h
  have hu : x / 6 % 6 < 6 := Nat.mod_lt _ (by decide)
  have hu3 : x % 6 < 6 := Nat.mod_lt _ (by decide)
  have sell : ∃ C' M' J', (bd (fX6_priceFor (nI (x / 6 % 6)) C) (pr (fun (u6 : Int32) (I7 : gI) => gi (u6 = oI 0) (some I7) (bd (fX6_sellTo (nI (x / 6 % 6)) u6 I7) (fun (I11 : gI) => some I11))))) = some C' ∧ (bd (fX7_canSell (nI (x / 6 % 6)) M J) (pr (fun (u6 : Int32) => pr (fun (I7 : gI) (J8 : gJ) => gi (u6 = 0) (some (I7, J8)) (bd (fX7_sellNow (nI (x / 6 % 6)) I7 J8) (pr (fun (u12 : Int32) => pr (fun (I13 : gI) (J14 : gJ) => some (I13, J14))))))))) = some (M', J') ∧ V0 C' M' J' := by
    rcases price h (hb _ _ h lik_rf) (nI (x / 6 % 6)) with ⟨b, e, hn, hc, ⟨C1, e6, f6⟩, e7⟩ | ⟨⟨C1, e6, f6⟩, e7⟩
    · obtain ⟨M1, J1, e7, f7⟩ := e7 J
      have hv := bnw_lt h (hb _ _ h lik_rf) hn
      have g := sv_f h f6 f7
      have hbb : x / 6 % 6 = b := (nI_eq (by omega) (by omega)).mp e
      obtain ⟨C3, M3, J3, s1, s2, s3⟩ := se_ok (V0_f (JM' := J1) kV f6 f7) g (hb _ _ g (lik_f f6 f7)) hn hc
      rw [← hbb] at s1 s2 e6 hv
      refine ⟨C3, M3, J3, ?_, ?_, s3⟩
      · rw [e6]
        simp (disch := (first | assumption | trivial | omega)) only [s1, lit, neg1, oI_s, addN, mulN, subN, clN, gdN, ltN, leN, eqN, nIo, oIn, oI_eq, divN, remN, giT, giF, lzE, prE, bdE, smL, smR, shlN, shrN, hasE, andN, orN, bit1, bit0, max7, min7, giTr, giFa, gdp, litL, i2l, addL, mulL, divL, remL, cmLe, cmGt, cmGe, cmEq, eqL]
      · rw [e7, bdE, prE, prE, gi_neg one_ne, s2]
        rfl
    · obtain ⟨M1, J1, e7, f7⟩ := e7 J
      refine ⟨C1, M1, J1, ?_, ?_, V0_f kV f6 f7⟩
      · rw [e6, bdE, prE, gi_pos rfl]
      · rw [e7, bdE, prE, prE, gi_pos rfl]
  have c6 : x % 6 = 0 ∨ x % 6 = 1 ∨ x % 6 = 2 ∨ x % 6 = 3 ∨ (x % 6 = 4 ∨ x % 6 = 5) := by omega
  have n3 : ¬ x % 6 = 0 → ¬ x % 6 = 1 → True := fun _ _ => trivial
  have hu12 : x % 12 < 12 := Nat.mod_lt _ (by decide)
  have hu33 : x / 6 % 3 < 3 := Nat.mod_lt _ (by decide)
  have hu4 : x % 4 < 4 := Nat.mod_lt _ (by decide)
  rcases c6 with c | c | c | c | c
  · obtain ⟨C', M', J', s1, s2, s3⟩ := sell
    refine ⟨C', M', J', ?_, ?_, s3⟩
    · unfold fX6_yearly
      simp (disch := (first | assumption | trivial | omega)) only [c, lit, neg1, oI_s, addN, mulN, subN, clN, gdN, ltN, leN, eqN, nIo, oIn, oI_eq, divN, remN, giT, giF, lzE, prE, bdE, smL, smR, shlN, shrN, hasE, andN, orN, bit1, bit0, max7, min7, giTr, giFa, gdp, litL, i2l, addL, mulL, divL, remL, cmLe, cmGt, cmGe, cmEq, eqL]
      exact s1
    · unfold fX7_happens
      simp (disch := (first | assumption | trivial | omega)) only [lit, divN, remN, c, eqN, giTr, lzE]
      exact s2
  · obtain ⟨C', M', J', s1, s2, s3⟩ := sell
    refine ⟨C', M', J', ?_, ?_, s3⟩
    · unfold fX6_yearly
      simp (disch := (first | assumption | trivial | omega)) only [c, lit, neg1, oI_s, addN, mulN, subN, clN, gdN, ltN, leN, eqN, nIo, oIn, oI_eq, divN, remN, giT, giF, lzE, prE, bdE, smL, smR, shlN, shrN, hasE, andN, orN, bit1, bit0, max7, min7, giTr, giFa, gdp, litL, i2l, addL, mulL, divL, remL, cmLe, cmGt, cmGe, cmEq, eqL]
      exact s1
    · unfold fX7_happens
      simp (disch := (first | assumption | trivial | omega)) only [lit, divN, remN, c, eqN, giTr, giF, lzE]
      exact s2
  · by_cases c3 : x / 6 % 3 = 1
    · have i6 : fX6_isSlice (nI (x % 12)) = nI 1 := isSlice6_pos (inR_nI hu12)
      have i7 : fX7_isSlice (nI (x % 12)) = nI 1 := isSlice7_pos (inR_nI hu12)
      have bs := b_sl h hu12
      by_cases f : S 11 (x % 12) = 0
      · have ft : (S 10 5).testBit (x % 12) = true := bs.2.mpr f
        obtain ⟨C', M', s1, s2, s3⟩ := gv_ok kV h hu12 f
        refine ⟨C', M', J, ?_, ?_, s3⟩
        · unfold fX6_yearly fX6_isFree
          simp (disch := (first | assumption | trivial | omega)) only [c, c3, i6, v_f6 h, bit1 ft, s1, lit, neg1, oI_s, addN, mulN, subN, clN, gdN, ltN, leN, eqN, nIo, oIn, oI_eq, divN, remN, giT, giF, lzE, prE, bdE, smL, smR, shlN, shrN, hasE, andN, orN, bit1, bit0, max7, min7, giTr, giFa, gdp, litL, i2l, addL, mulL, divL, remL, cmLe, cmGt, cmGe, cmEq, eqL]
        · unfold fX7_happens fX7_canGive
          simp (disch := (first | assumption | trivial | omega)) only [c, c3, i7, v_sl7 h, f, s2, lit, neg1, oI_s, addN, mulN, subN, clN, gdN, ltN, leN, eqN, nIo, oIn, oI_eq, divN, remN, giT, giF, lzE, prE, bdE, smL, smR, shlN, shrN, hasE, andN, orN, bit1, bit0, max7, min7, giTr, giFa, gdp, litL, i2l, addL, mulL, divL, remL, cmLe, cmGt, cmGe, cmEq, eqL]
      · have ft : ¬ (S 10 5).testBit (x % 12) = true := fun q => f (bs.2.mp q)
        refine ⟨C, M, J, ?_, ?_, kV⟩
        · unfold fX6_yearly fX6_isFree
          simp (disch := (first | assumption | trivial | omega)) only [c, c3, i6, v_f6 h, bit0 ft, lit, neg1, oI_s, addN, mulN, subN, clN, gdN, ltN, leN, eqN, nIo, oIn, oI_eq, divN, remN, giT, giF, lzE, prE, bdE, smL, smR, shlN, shrN, hasE, andN, orN, bit1, bit0, max7, min7, giTr, giFa, gdp, litL, i2l, addL, mulL, divL, remL, cmLe, cmGt, cmGe, cmEq, eqL]
        · unfold fX7_happens fX7_canGive
          simp (disch := (first | assumption | trivial | omega)) only [c, c3, i7, v_sl7 h, f, lit, neg1, oI_s, addN, mulN, subN, clN, gdN, ltN, leN, eqN, nIo, oIn, oI_eq, divN, remN, giT, giF, lzE, prE, bdE, smL, smR, shlN, shrN, hasE, andN, orN, bit1, bit0, max7, min7, giTr, giFa, gdp, litL, i2l, addL, mulL, divL, remL, cmLe, cmGt, cmGe, cmEq, eqL]
    · refine ⟨C, M, J, ?_, ?_, kV⟩
      · unfold fX6_yearly
        simp (disch := (first | assumption | trivial | omega)) only [c, c3, lit, neg1, oI_s, addN, mulN, subN, clN, gdN, ltN, leN, eqN, nIo, oIn, oI_eq, divN, remN, giT, giF, lzE, prE, bdE, smL, smR, shlN, shrN, hasE, andN, orN, bit1, bit0, max7, min7, giTr, giFa, gdp, litL, i2l, addL, mulL, divL, remL, cmLe, cmGt, cmGe, cmEq, eqL]
      · unfold fX7_happens
        simp (disch := (first | assumption | trivial | omega)) only [c, c3, lit, neg1, oI_s, addN, mulN, subN, clN, gdN, ltN, leN, eqN, nIo, oIn, oI_eq, divN, remN, giT, giF, lzE, prE, bdE, smL, smR, shlN, shrN, hasE, andN, orN, bit1, bit0, max7, min7, giTr, giFa, gdp, litL, i2l, addL, mulL, divL, remL, cmLe, cmGt, cmGe, cmEq, eqL]
  · by_cases c4 : x % 4 = 3
    · by_cases cb : x / 6 % 6 < S 0 0
      · have hb6 : x / 6 % 6 < 6 := by omega
        have bo := b_ow h hb6
        have hpc := pc_0 (S 12 (x / 6 % 6)) bo.1
        have hple := pc_le (S 12 (x / 6 % 6))
        have i7 := isB7p h (inR_nI cb)
        by_cases f : S 12 (x / 6 % 6) = 0
        · have z6 := hs6z h cb f
          refine ⟨C, M, J, ?_, ?_, kV⟩
          · unfold fX6_yearly
            simp (disch := (first | assumption | trivial | omega)) only [c, c4, z6, lit, neg1, oI_s, addN, mulN, subN, clN, gdN, ltN, leN, eqN, nIo, oIn, oI_eq, divN, remN, giT, giF, lzE, prE, bdE, smL, smR, shlN, shrN, hasE, andN, orN, bit1, bit0, max7, min7, giTr, giFa, gdp, litL, i2l, addL, mulL, divL, remL, cmLe, cmGt, cmGe, cmEq, eqL]
          · unfold fX7_happens fX7_canTurn
            simp (disch := (first | assumption | trivial | omega)) only [c, c4, i7, hn7 h, hpc.mpr f, lit, neg1, oI_s, addN, mulN, subN, clN, gdN, ltN, leN, eqN, nIo, oIn, oI_eq, divN, remN, giT, giF, lzE, prE, bdE, smL, smR, shlN, shrN, hasE, andN, orN, bit1, bit0, max7, min7, giTr, giFa, gdp, litL, i2l, addL, mulL, divL, remL, cmLe, cmGt, cmGe, cmEq, eqL]
        · have z6 := hs6p h cb f
          have f2 : ¬ pc (S 12 (x / 6 % 6)) = 0 := fun q => f (hpc.mp q)
          obtain ⟨C', M', s1, s2, s3⟩ := tn_ok kV h cb
          refine ⟨C', M', J, ?_, ?_, s3⟩
          · unfold fX6_yearly
            simp (disch := (first | assumption | trivial | omega)) only [c, c4, z6, s1, lit, neg1, oI_s, addN, mulN, subN, clN, gdN, ltN, leN, eqN, nIo, oIn, oI_eq, divN, remN, giT, giF, lzE, prE, bdE, smL, smR, shlN, shrN, hasE, andN, orN, bit1, bit0, max7, min7, giTr, giFa, gdp, litL, i2l, addL, mulL, divL, remL, cmLe, cmGt, cmGe, cmEq, eqL]
          · unfold fX7_happens fX7_canTurn
            simp (disch := (first | assumption | trivial | omega)) only [c, c4, i7, hn7 h, f2, s2, Nat.le_zero, lit, neg1, oI_s, addN, mulN, subN, clN, gdN, ltN, leN, eqN, nIo, oIn, oI_eq, divN, remN, giT, giF, lzE, prE, bdE, smL, smR, shlN, shrN, hasE, andN, orN, bit1, bit0, max7, min7, giTr, giFa, gdp, litL, i2l, addL, mulL, divL, remL, cmLe, cmGt, cmGe, cmEq, eqL]
      · have cb' : ¬ inR (nI (x / 6 % 6)) (S 0 0) := by
          rintro ⟨k, hk, e⟩
          have := (nI_eq (by omega) (by omega)).mp e
          omega
        have z6 := hs6n h cb'
        have i7 := isB7n h cb'
        refine ⟨C, M, J, ?_, ?_, kV⟩
        · unfold fX6_yearly
          simp (disch := (first | assumption | trivial | omega)) only [c, c4, z6, lit, neg1, oI_s, addN, mulN, subN, clN, gdN, ltN, leN, eqN, nIo, oIn, oI_eq, divN, remN, giT, giF, lzE, prE, bdE, smL, smR, shlN, shrN, hasE, andN, orN, bit1, bit0, max7, min7, giTr, giFa, gdp, litL, i2l, addL, mulL, divL, remL, cmLe, cmGt, cmGe, cmEq, eqL]
        · unfold fX7_happens fX7_canTurn
          simp (disch := (first | assumption | trivial | omega)) only [c, c4, i7, lit, neg1, oI_s, addN, mulN, subN, clN, gdN, ltN, leN, eqN, nIo, oIn, oI_eq, divN, remN, giT, giF, lzE, prE, bdE, smL, smR, shlN, shrN, hasE, andN, orN, bit1, bit0, max7, min7, giTr, giFa, gdp, litL, i2l, addL, mulL, divL, remL, cmLe, cmGt, cmGe, cmEq, eqL]
    · refine ⟨C, M, J, ?_, ?_, kV⟩
      · unfold fX6_yearly
        simp (disch := (first | assumption | trivial | omega)) only [c, c4, lit, neg1, oI_s, addN, mulN, subN, clN, gdN, ltN, leN, eqN, nIo, oIn, oI_eq, divN, remN, giT, giF, lzE, prE, bdE, smL, smR, shlN, shrN, hasE, andN, orN, bit1, bit0, max7, min7, giTr, giFa, gdp, litL, i2l, addL, mulL, divL, remL, cmLe, cmGt, cmGe, cmEq, eqL]
      · unfold fX7_happens
        simp (disch := (first | assumption | trivial | omega)) only [c, c4, lit, neg1, oI_s, addN, mulN, subN, clN, gdN, ltN, leN, eqN, nIo, oIn, oI_eq, divN, remN, giT, giF, lzE, prE, bdE, smL, smR, shlN, shrN, hasE, andN, orN, bit1, bit0, max7, min7, giTr, giFa, gdp, litL, i2l, addL, mulL, divL, remL, cmLe, cmGt, cmGe, cmEq, eqL]
  · have k0 : ¬ x % 6 = 0 := by omega
    have k1 : ¬ x % 6 = 1 := by omega
    have k2 : ¬ x % 6 = 2 := by omega
    have k3 : ¬ x % 6 = 3 := by omega
    by_cases cd : 9999 ≤ S 10 0
    · refine ⟨C, M, J, ?_, ?_, kV⟩
      · unfold fX6_yearly
        simp (disch := (first | assumption | trivial | omega)) only [k0, k1, k2, k3, v_da6 h, cd, lit, neg1, oI_s, addN, mulN, subN, clN, gdN, ltN, leN, eqN, nIo, oIn, oI_eq, divN, remN, giT, giF, lzE, prE, bdE, smL, smR, shlN, shrN, hasE, andN, orN, bit1, bit0, max7, min7, giTr, giFa, gdp, litL, i2l, addL, mulL, divL, remL, cmLe, cmGt, cmGe, cmEq, eqL]
      · unfold fX7_happens
        simp (disch := (first | assumption | trivial | omega)) only [k0, k1, k2, k3, v_da7 h, cd, lit, neg1, oI_s, addN, mulN, subN, clN, gdN, ltN, leN, eqN, nIo, oIn, oI_eq, divN, remN, giT, giF, lzE, prE, bdE, smL, smR, shlN, shrN, hasE, andN, orN, bit1, bit0, max7, min7, giTr, giFa, gdp, litL, i2l, addL, mulL, divL, remL, cmLe, cmGt, cmGe, cmEq, eqL]
    · obtain ⟨C', M', J', s1, s2, s3, _⟩ := dy_ok hE kV h (by omega)
      refine ⟨C', M', J', ?_, ?_, s3⟩
      · unfold fX6_yearly
        simp (disch := (first | assumption | trivial | omega)) only [k0, k1, k2, k3, v_da6 h, cd, s1, lit, neg1, oI_s, addN, mulN, subN, clN, gdN, ltN, leN, eqN, nIo, oIn, oI_eq, divN, remN, giT, giF, lzE, prE, bdE, smL, smR, shlN, shrN, hasE, andN, orN, bit1, bit0, max7, min7, giTr, giFa, gdp, litL, i2l, addL, mulL, divL, remL, cmLe, cmGt, cmGe, cmEq, eqL]
      · unfold fX7_happens
        simp (disch := (first | assumption | trivial | omega)) only [k0, k1, k2, k3, v_da7 h, cd, s2, lit, neg1, oI_s, addN, mulN, subN, clN, gdN, ltN, leN, eqN, nIo, oIn, oI_eq, divN, remN, giT, giF, lzE, prE, bdE, smL, smR, shlN, shrN, hasE, andN, orN, bit1, bit0, max7, min7, giTr, giFa, gdp, litL, i2l, addL, mulL, divL, remL, cmLe, cmGt, cmGe, cmEq, eqL]
theorem isIn0 (x : Int32) (n : Nat) (hn : n < 2147483647) : (∃ k, k ≤ n ∧ x = nI k ∧ fX7_isIn x 0 (nI n) = nI 1) ∨ fX7_isIn x 0 (nI n) = nI 0 := by
  by_cases c : inR x (n + 1)
  · obtain ⟨k, hk, e⟩ := id c
    exact Or.inl ⟨k, by omega, e, isIn_pos (by omega) rfl rfl c⟩
  · exact Or.inr (isIn_neg (by omega) rfl rfl c)
theorem case_13 (hB : BIDS) (hE : EARN) : st_13 V0 := by
  intro a1 a2 IC IM JM hV
  rcases isIn0 a1 9999 (by decide) with ⟨m, hm, rfl, i7⟩ | i7
  · have i7' : fX7_isIn (nI m) 0 9999 = nI 1 := i7
    have i6' : fX6_within (nI m) 0 9999 = nI 1 := i7
    rcases isIn1 a2 40 (by decide) with ⟨n, n1, n2, rfl, j7⟩ | j7
    · have j7' : fX7_isIn (nI n) 1 40 = nI 1 := j7
      have j6' : fX6_within (nI n) 1 40 = nI 1 := j7
      obtain ⟨S, h⟩ := view hV
      obtain ⟨C1, M1, k1, k2, kV, kC, kC1, kM, kM1⟩ := keep hV
      have g := sv_kp h kC kC1 kM1
      have kV2 := sx_ok (x := m * 2 + 457) kV g (by omega)
      obtain ⟨r6, r7, e6, e7, C, M, J, hW, hr6, hr7⟩ := lp_2 (fun q k (a : gI × gI × gJ) => fX6_years_49 q (nI n) (nI k) a.1) (fun q k (a : gI × gI × gJ) => fX7_years_43 q (nI n) (nI k) a.2.1 a.2.2) n
        (fun k a => V0 a.1 a.2.1 a.2.2) (fun r6 r7 => ∃ C M J, V0 C M J ∧ r6 = C ∧ r7 = (M, J))
        (fun q a hP => by
          obtain ⟨C, M, J⟩ := a
          try dsimp only at hP ⊢
          refine ⟨C, (M, J), ?_, ?_, C, M, J, hP, rfl, rfl⟩
          · rw [sX6_years_49, fX6_years_49b]
            simp (disch := (first | assumption | trivial | omega)) only [lit, neg1, oI_s, addN, mulN, subN, clN, gdN, ltN, leN, eqN, nIo, oIn, oI_eq, divN, remN, giT, giF, lzE, prE, bdE, smL, smR, shlN, shrN, hasE, andN, orN, bit1, bit0, max7, min7, giTr, giFa, gdp, litL, i2l, addL, mulL, divL, remL, cmLe, cmGt, cmGe, cmEq, eqL]
          · rw [sX7_years_43, fX7_years_43b]
            simp (disch := (first | assumption | trivial | omega)) only [lit, neg1, oI_s, addN, mulN, subN, clN, gdN, ltN, leN, eqN, nIo, oIn, oI_eq, divN, remN, giT, giF, lzE, prE, bdE, smL, smR, shlN, shrN, hasE, andN, orN, bit1, bit0, max7, min7, giTr, giFa, gdp, litL, i2l, addL, mulL, divL, remL, cmLe, cmGt, cmGe, cmEq, eqL])
        (fun q k a hk hP => by
          obtain ⟨C, M, J⟩ := a
          try dsimp only at hP ⊢
          right
          obtain ⟨S, h⟩ := view hP
          have bw := b_w h
          have hx1 : (S 10 1 * 719 + 587) % 31039 < 31039 := Nat.mod_lt _ (by omega)
          have hW := sx_ok (x := (S 10 1 * 719 + 587) % 31039) hP h hx1
          obtain ⟨C', M', J', s1, s2, s3⟩ := yr_ok hB hE hW bw.2.1
          refine ⟨(C', M', J'), ?_, ?_, s3⟩
          · rw [sX6_years_49, fX6_years_49b]
            unfold fX6_drawnAnew
            simp (disch := (first | assumption | trivial | omega)) only [v_dx6 h, s1, lit, neg1, oI_s, addN, mulN, subN, clN, gdN, ltN, leN, eqN, nIo, oIn, oI_eq, divN, remN, giT, giF, lzE, prE, bdE, smL, smR, shlN, shrN, hasE, andN, orN, bit1, bit0, max7, min7, giTr, giFa, gdp, litL, i2l, addL, mulL, divL, remL, cmLe, cmGt, cmGe, cmEq, eqL]
          · rw [sX7_years_43, fX7_years_43b]
            unfold fX7_anew
            simp (disch := (first | assumption | trivial | omega)) only [v_dx7 h, l2i, s2, lit, neg1, oI_s, addN, mulN, subN, clN, gdN, ltN, leN, eqN, nIo, oIn, oI_eq, divN, remN, giT, giF, lzE, prE, bdE, smL, smR, shlN, shrN, hasE, andN, orN, bit1, bit0, max7, min7, giTr, giFa, gdp, litL, i2l, addL, mulL, divL, remL, cmLe, cmGt, cmGe, cmEq, eqL]) n 0 (wI C1 11 8 (nI (m * 2 + 457)), wI M1 1 7 (nI (m * 2 + 457)), JM) FU (by omega) kV2 (by show _ < 5000; omega)
      obtain ⟨S3, g3⟩ := view hW
      rw [hr6] at e6
      rw [hr7] at e7
      have e6' : fX6_years_49 FU (nI n) (nI 0) (wI C1 11 8 (nI (m * 2 + 457))) = some C := e6
      have e7' : fX7_years_43 FU (nI n) (nI 0) (wI M1 1 7 (nI (m * 2 + 457))) JM = some (M, J) := e7
      refine ⟨nI (S3 10 0), C, M, J, ?_, ?_, hW⟩
      · unfold fX6_years
        rw [i6', j6']
        simp (disch := (first | assumption | trivial | omega)) only [k1, e6', v_da6 g3, lit, neg1, oI_s, addN, mulN, subN, clN, gdN, ltN, leN, eqN, nIo, oIn, oI_eq, divN, remN, giT, giF, lzE, prE, bdE, smL, smR, shlN, shrN, hasE, andN, orN, bit1, bit0, max7, min7, giTr, giFa, gdp, litL, i2l, addL, mulL, divL, remL, cmLe, cmGt, cmGe, cmEq, eqL]
      · unfold fX7_years
        rw [i7', j7']
        simp (disch := (first | assumption | trivial | omega)) only [k2, e7', v_da7 g3, lit, neg1, oI_s, addN, mulN, subN, clN, gdN, ltN, leN, eqN, nIo, oIn, oI_eq, divN, remN, giT, giF, lzE, prE, bdE, smL, smR, shlN, shrN, hasE, andN, orN, bit1, bit0, max7, min7, giTr, giFa, gdp, litL, i2l, addL, mulL, divL, remL, cmLe, cmGt, cmGe, cmEq, eqL]
    · have j7' : fX7_isIn a2 1 40 = nI 0 := j7
      have j6' : fX6_within a2 1 40 = nI 0 := j7
      refine ⟨-1, IC, IM, JM, ?_, ?_, hV⟩
      · unfold fX6_years
        rw [i6', j6']
        simp (disch := (first | assumption | trivial | omega)) only [lit, neg1, oI_s, addN, mulN, subN, clN, gdN, ltN, leN, eqN, nIo, oIn, oI_eq, divN, remN, giT, giF, lzE, prE, bdE, smL, smR, shlN, shrN, hasE, andN, orN, bit1, bit0, max7, min7, giTr, giFa, gdp, litL, i2l, addL, mulL, divL, remL, cmLe, cmGt, cmGe, cmEq, eqL]
      · unfold fX7_years
        rw [i7', j7']
        simp (disch := (first | assumption | trivial | omega)) only [lit, neg1, oI_s, addN, mulN, subN, clN, gdN, ltN, leN, eqN, nIo, oIn, oI_eq, divN, remN, giT, giF, lzE, prE, bdE, smL, smR, shlN, shrN, hasE, andN, orN, bit1, bit0, max7, min7, giTr, giFa, gdp, litL, i2l, addL, mulL, divL, remL, cmLe, cmGt, cmGe, cmEq, eqL]
  · have i7' : fX7_isIn a1 0 9999 = nI 0 := i7
    have i6' : fX6_within a1 0 9999 = nI 0 := i7
    refine ⟨-1, IC, IM, JM, ?_, ?_, hV⟩
    · unfold fX6_years
      rw [i6']
      simp (disch := (first | assumption | trivial | omega)) only [lit, neg1, oI_s, addN, mulN, subN, clN, gdN, ltN, leN, eqN, nIo, oIn, oI_eq, divN, remN, giT, giF, lzE, prE, bdE, smL, smR, shlN, shrN, hasE, andN, orN, bit1, bit0, max7, min7, giTr, giFa, gdp, litL, i2l, addL, mulL, divL, remL, cmLe, cmGt, cmGe, cmEq, eqL]
    · unfold fX7_years
      rw [i7']
      simp (disch := (first | assumption | trivial | omega)) only [lit, neg1, oI_s, addN, mulN, subN, clN, gdN, ltN, leN, eqN, nIo, oIn, oI_eq, divN, remN, giT, giF, lzE, prE, bdE, smL, smR, shlN, shrN, hasE, andN, orN, bit1, bit0, max7, min7, giTr, giFa, gdp, litL, i2l, addL, mulL, divL, remL, cmLe, cmGt, cmGe, cmEq, eqL]
