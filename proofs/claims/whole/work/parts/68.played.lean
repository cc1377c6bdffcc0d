-- 68: PURE PART: what is played (out of wip/whole/pure by pure.py)
theorem mutw1 {S : Nat → Nat → Nat} {IC IM IC2 IM2 : gI} {JM : gJ} (JM' : gJ) (kV : V0 IC IM JM) (g : sv S IC IM) (a0 a1 a2 a3 a5 : Nat) (sl ow pu : Nat → Nat)
    (hb : a0 < 10000 ∧ a1 < 31039 ∧ a2 < 100000 ∧ a3 < 5 ∧ a5 < 4096)
    (he : IM2 1 6 = nI a0 ∧ IC2 11 7 = nI a0 ∧ IM2 1 7 = nI a1 ∧ IC2 11 8 = nI a1 ∧ IM2 1 8 = nI a2 ∧ IC2 11 6 = nI a2 ∧ IM2 1 9 = nI a3 ∧ IC2 11 5 = nI a3 ∧ IC2 11 4 = nI a5)
    (hs : ∀ s, s < 12 → (sl s ≤ S 0 0 ∨ sl s = 7) ∧ IM2 1 (11 + s) = oI (sl s) ∧ (a5.testBit s = true ↔ sl s = 0))
    (hw : ∀ b, b < 6 → ow b < 4096 ∧ IC2 13 b = nI (ow b) ∧ ∀ s, s < 12 → ((ow b).testBit s = true ↔ sl s = b + 1))
    (hp : ∀ b, b < 6 → pu b < 1000 ∧ IM2 1 (23 + b) = nI (pu b) ∧ IC2 12 b = nI (pu b))
    (ho : ∀ s b, s < 12 → b < 6 → sl s = b + 1 → S 4 b ≤ s ∧ s ≤ S 5 b)
    (hC : ∀ o, o ≠ 11 → o ≠ 12 → o ≠ 13 → IC2 o = IC o) (hC3 : IC2 11 3 = IC 11 3) (hM : ∀ o, o ≠ 1 → IM2 o = IM o) (hM1 : ∀ k, k < 6 ∨ k = 10 ∨ 29 ≤ k → IM2 1 k = IM 1 k)
    {k x q : Nat} (hk : k < 5) (hx : x < 12) (hq : q < 100) : ∃ IC3 IM3, fX5_writeDown 11 (nI k) (nI x) (nI q) IC2 = some IC3 ∧ fX7_write (nI k) (nI x) (nI q) IM2 = some IM3 ∧ V0 IC3 IM3 JM' ∧ IM3 1 1 = IM 1 1 := by
  obtain ⟨IC3, IM3, w1, w2, w3⟩ := mutw JM' kV g a0 a1 a2 a3 a5 sl ow pu hb he hs hw hp ho hC hC3 hM hM1 hk hx hq
  refine ⟨IC3, IM3, w1, w2, w3, ?_⟩
  have h23 : IM 0 23 = nI 1 := by
    obtain ⟨nb, nt, mb, mt, h1, ⟨p1, p2, p3, p4, p5, p6, p7, p8, p9⟩, h3, h4, h5⟩ := kV
    obtain ⟨n, b1, b2, b3, b4, b5, b6, b7⟩ := h4
    exact b7
  have bw := b_w g
  obtain ⟨IM', m, y1, y2, y3, _⟩ := wr7 (IM := IM2) (n := S 10 4) (d := a0) (k := k) (x := x) (q := q) (by rw [hM 0 (by omega)]; exact h23) (by rw [hM1 10 (by omega)]; exact v_ln7 g) (by omega) he.1 hb.1 hk hx hq
  rw [w2] at y1
  have y4 := Option.some.inj y1
  rw [y4, y3 1 (by omega) (by omega), hM1 1 (by omega)]
theorem gv_ok1 {S : Nat → Nat → Nat} {IC1 IM1 : gI} {JM : gJ} {s : Nat} (kV : V0 IC1 IM1 JM) (g : sv S IC1 IM1) (hs : s < 12) (f : S 11 s = 0) : ∃ IC3 IM3, fX6_giveAway (nI s) IC1 = some IC3 ∧ fX7_giveNow (nI s) IM1 = some IM3 ∧ V0 IC3 IM3 JM ∧ IM3 1 1 = IM1 1 1 := by
  have bs := b_sl g hs
  have bw := b_w g
  have p2 := p2lt hs
  have ow1 := own_of kV g
  have hlt : andn (S 10 5) (2 ^ s) < 4096 := Nat.lt_of_le_of_lt andn_le bw.2.2.2.2.2
  have hbit : ∀ j, j < 12 → ((andn (S 10 5) (2 ^ s)).testBit j = true ↔ (S 10 5).testBit j = true ∧ ¬ s = j) := fun j hj => by rw [andn_bit (by omega) (by omega), bit_p2]
  obtain ⟨IC3, IM3, w1, w2, w3⟩ := mutw1 (S := S) (IC2 := wI IC1 11 4 (nI (andn (S 10 5) (2 ^ s)))) (IM2 := wI IM1 1 (11 + s) (nI 6)) JM kV g (S 10 0) (S 10 1) (S 10 2) (S 10 3) (andn (S 10 5) (2 ^ s)) (fun j => if j = s then 7 else S 11 j) (S 12) (S 13)
    ⟨bw.1, bw.2.1, bw.2.2.1, bw.2.2.2.1, hlt⟩
    (by simp (disch := omega) only [wI_ne, wI_eq]; exact ⟨v_da7 g, v_da6 g, v_dx7 g, v_dx6 g, v_fu7 g, v_fu6 g, v_so7 g, v_so6 g, trivial⟩)
    (fun j hj => by
      have bj := b_sl g hj
      try dsimp only
      by_cases e : j = s
      · subst e
        rw [if_pos rfl, wI_eq, hbit j hj]
        exact ⟨Or.inr rfl, rfl, ⟨fun q => absurd rfl q.2, fun q => absurd q (by decide)⟩⟩
      · rw [if_neg e, wI_ne (by omega), hbit j hj, bj.2]
        exact ⟨bj.1, v_sl7 g hj, ⟨fun q => q.1, fun q => ⟨q, fun x => e x.symm⟩⟩⟩)
    (fun b hb => by
      have bo := b_ow g hb
      refine ⟨bo.1, by rw [wI_o (by omega)]; exact v_ow6 g hb, fun j hj => ?_⟩
      try dsimp only
      by_cases e : j = s
      · subst e
        rw [if_pos rfl, bo.2 j hj, f]
        omega
      · rw [if_neg e]; exact bo.2 j hj)
    (fun b hb => ⟨b_pu g hb, by rw [wI_ne (by omega)]; exact v_pu7 g hb, by rw [wI_o (by omega)]; exact v_pu6 g hb⟩)
    (fun j b hj hb e => by
      try dsimp only at e
      by_cases e2 : j = s
      · rw [if_pos e2] at e; omega
      · rw [if_neg e2] at e; exact ow1 j b hj hb e)
    (fun o h1 h2 h3 => wI_o h1) (wI_ne (by omega)) (fun o h1 => wI_o h1) (fun k hk => wI_ne (by omega)) (k := 1) (x := s) (q := 0) (by omega) hs (by omega)

  refine ⟨IC3, IM3, ?_, ?_, w3⟩
  · have e4' := v_f6 g
    unfold fX6_giveAway
    simp (disch := (first | assumption | trivial | omega)) only [e4', notN', lit, neg1, oI_s, addN, mulN, subN, clN, gdN, ltN, leN, eqN, nIo, oIn, oI_eq, divN, remN, giT, giF, lzE, prE, bdE, smL, smR, shlN, shrN, hasE, andN, orN, bit1, bit0, max7, min7, giTr, giFa, gdp, litL, i2l, addL, mulL, divL, remL, cmLe, cmGt, cmGe, cmEq, eqL]
    rw [show S 10 5 &&& (4294967295 - 1 * 2 ^ s) = andn (S 10 5) (2 ^ s) by rw [Nat.one_mul]; rfl]
    rw [w1]
    rfl
  · unfold fX7_giveNow
    simp (disch := (first | assumption | trivial | omega)) only [lit, neg1, oI_s, addN, mulN, subN, clN, gdN, ltN, leN, eqN, nIo, oIn, oI_eq, divN, remN, giT, giF, lzE, prE, bdE, smL, smR, shlN, shrN, hasE, andN, orN, bit1, bit0, max7, min7, giTr, giFa, gdp, litL, i2l, addL, mulL, divL, remL, cmLe, cmGt, cmGe, cmEq, eqL]
    rw [w2]
    rfl
theorem tn_ok1 {S : Nat → Nat → Nat} {IC1 IM1 : gI} {JM : gJ} {b : Nat} (kV : V0 IC1 IM1 JM) (g : sv S IC1 IM1) (hb : b < S 0 0) : ∃ IC3 IM3, fX6_turnAway (nI b) IC1 = some IC3 ∧ fX7_turnNow (nI b) IM1 = some IM3 ∧ V0 IC3 IM3 JM ∧ IM3 1 1 = IM1 1 1 := by
  have bn := b_nb g
  have hb6 : b < 6 := by omega
  have bo := b_ow g hb6
  have bw := b_w g
  have ow1 := own_of kV g
  have hor : S 10 5 ||| S 12 b < 4096 := Nat.or_lt_two_pow (n := 12) bw.2.2.2.2.2 bo.1
  obtain ⟨IM2, t1, t2, t3, t4, t5⟩ := lp_sl (fun n k a => fX7_turnNow_2 n (nI b) (nI k) a) 0 12 (fun j => if S 11 j = b + 1 then 0 else S 11 j) (S 11) IM1 (fun j hj => v_sl7 g hj)
    (fun n a _ => by
      try dsimp only
      rw [sX7_turnNow_2, fX7_turnNow_2b]
      simp (disch := (first | assumption | trivial | omega)) only [lit, neg1, oI_s, addN, mulN, subN, clN, gdN, ltN, leN, eqN, nIo, oIn, oI_eq, divN, remN, giT, giF, lzE, prE, bdE, smL, smR, shlN, shrN, hasE, andN, orN, bit1, bit0, max7, min7, giTr, giFa, gdp, litL, i2l, addL, mulL, divL, remL, cmLe, cmGt, cmGe, cmEq, eqL])
    (fun n k a _ hk _ e => by
      try dsimp only
      have bk := b_sl g hk
      rw [sX7_turnNow_2, fX7_turnNow_2b]
      by_cases q : S 11 k = b + 1
      · left
        rw [if_pos q]
        simp (disch := (first | assumption | trivial | omega)) only [e, q, lit, neg1, oI_s, addN, mulN, subN, clN, gdN, ltN, leN, eqN, nIo, oIn, oI_eq, divN, remN, giT, giF, lzE, prE, bdE, smL, smR, shlN, shrN, hasE, andN, orN, bit1, bit0, max7, min7, giTr, giFa, gdp, litL, i2l, addL, mulL, divL, remL, cmLe, cmGt, cmGe, cmEq, eqL]
      · right
        rw [if_neg q]
        refine ⟨rfl, ?_⟩
        simp (disch := (first | assumption | trivial | omega)) only [e, q, lit, neg1, oI_s, addN, mulN, subN, clN, gdN, ltN, leN, eqN, nIo, oIn, oI_eq, divN, remN, giT, giF, lzE, prE, bdE, smL, smR, shlN, shrN, hasE, andN, orN, bit1, bit0, max7, min7, giTr, giFa, gdp, litL, i2l, addL, mulL, divL, remL, cmLe, cmGt, cmGe, cmEq, eqL]) (by omega) (by omega)
  try dsimp only at t1
  obtain ⟨IC3, IM3, w1, w2, w3⟩ := mutw1 (S := S) (IC2 := wI (wI IC1 11 4 (nI (S 10 5 ||| S 12 b))) 13 b (nI 0)) (IM2 := IM2) JM kV g (S 10 0) (S 10 1) (S 10 2) (S 10 3) (S 10 5 ||| S 12 b) (fun j => if S 11 j = b + 1 then 0 else S 11 j) (fun j => if j = b then 0 else S 12 j) (S 13)
    ⟨bw.1, bw.2.1, bw.2.2.1, bw.2.2.2.1, hor⟩
    (by rw [t3 6 (by omega), t3 7 (by omega), t3 8 (by omega), t3 9 (by omega)]; simp (disch := omega) only [wI_ne, wI_eq, wI_o]; exact ⟨v_da7 g, v_da6 g, v_dx7 g, v_dx6 g, v_fu7 g, v_fu6 g, v_so7 g, v_so6 g, trivial⟩)
    (fun j hj => by
      have bj := b_sl g hj
      refine ⟨?_, t4 j (by omega) hj, ?_⟩
      · try dsimp only
        by_cases e : S 11 j = b + 1
        · rw [if_pos e]; omega
        · rw [if_neg e]; exact bj.1
      · try dsimp only
        rw [Nat.testBit_or, Bool.or_eq_true, bj.2, bo.2 j hj]
        by_cases e : S 11 j = b + 1
        · rw [if_pos e]; exact ⟨fun _ => rfl, fun _ => Or.inr e⟩
        · rw [if_neg e]; exact ⟨fun q => q.elim id (fun q => absurd q e), Or.inl⟩)
    (fun d hd => by
      have bd' := b_ow g hd
      try dsimp only
      by_cases e : d = b
      · subst e
        rw [if_pos rfl, wI_eq]
        refine ⟨by omega, rfl, fun j hj => ?_⟩
        rw [Nat.zero_testBit]
        by_cases e2 : S 11 j = d + 1
        · rw [if_pos e2]; exact ⟨fun q => absurd q (by decide), fun q => absurd q (by omega)⟩
        · rw [if_neg e2]; exact ⟨fun q => absurd q (by decide), fun q => absurd q e2⟩
      · rw [if_neg e, wI_ne (by omega), wI_o (by omega)]
        refine ⟨bd'.1, v_ow6 g hd, fun j hj => ?_⟩
        rw [bd'.2 j hj]
        by_cases e2 : S 11 j = b + 1
        · rw [if_pos e2]; omega
        · rw [if_neg e2])
    (fun d hd => ⟨b_pu g hd, by rw [t3 _ (by omega)]; exact v_pu7 g hd, by rw [wI_o (by omega), wI_o (by omega)]; exact v_pu6 g hd⟩)
    (fun j d hj hd e => by
      try dsimp only at e
      by_cases e2 : S 11 j = b + 1
      · rw [if_pos e2] at e; omega
      · rw [if_neg e2] at e; exact ow1 j d hj hd e)
    (fun o h1 h2 h3 => by rw [wI_o h3, wI_o h1]) (by rw [wI_o (by omega), wI_ne (by omega)]) (fun o h1 => t2 o h1) (fun k hk => t3 k (by omega)) (k := 2) (x := b) (q := 0) (by omega) (by omega) (by omega)

  refine ⟨IC3, IM3, ?_, ?_, w3⟩
  · unfold fX6_turnAway
    simp (disch := (first | assumption | trivial | omega)) only [v_ow6 g, v_f6 g, wI_o, lit, neg1, oI_s, addN, mulN, subN, clN, gdN, ltN, leN, eqN, nIo, oIn, oI_eq, divN, remN, giT, giF, lzE, prE, bdE, smL, smR, shlN, shrN, hasE, andN, orN, bit1, bit0, max7, min7, giTr, giFa, gdp, litL, i2l, addL, mulL, divL, remL, cmLe, cmGt, cmGe, cmEq, eqL]
    rw [w1]
    rfl
  · unfold fX7_turnNow
    simp (disch := (first | assumption | trivial | omega)) only [show fX7_turnNow_2 FU (nI b) (nI 0) IM1 = some IM2 from t1, lit, neg1, oI_s, addN, mulN, subN, clN, gdN, ltN, leN, eqN, nIo, oIn, oI_eq, divN, remN, giT, giF, lzE, prE, bdE, smL, smR, shlN, shrN, hasE, andN, orN, bit1, bit0, max7, min7, giTr, giFa, gdp, litL, i2l, addL, mulL, divL, remL, cmLe, cmGt, cmGe, cmEq, eqL]
    rw [w2]
    rfl
theorem se_ok1 {S : Nat → Nat → Nat} {bV : Nat → Nat → Nat → Nat} {IC IM : gI} {JM : gJ} {b : Nat} (kV : V0 IC IM JM) (g : sv S IC IM) (hb : bidOK S bV IC IM) (hn : b < S 0 0) (hc : cs S bV b) : ∃ IC' IM' JM', fX6_sellTo (nI b) (nI (bnw S bV b)) IC = some IC' ∧ fX7_sellNow (nI b) IM JM = some (nI (bnw S bV b), IM', JM') ∧ V0 IC' IM' JM' ∧ IM' 1 1 = IM 1 1 := by
  obtain ⟨c1, c2, c3⟩ := hc
  have bn := b_nb g
  have bw := b_w g
  have hb6 : b < 6 := by omega
  have bb := b_bu g hb6
  have hv := bnw_lt g hb hn
  have hp := b_pu g hb6
  have hq := sq_lt g hb6
  have ow1 := own_of kV g
  obtain ⟨M1, J1, e7, f7⟩ := bn7 g hb hn JM
  have g1 : sv S IC M1 := sv_f g fC_rf f7
  have kV1 : V0 IC M1 J1 := V0_f kV fC_rf f7
  generalize bnw S bV b = v at hv c3 e7 ⊢
  have hsub : ∀ j, j < 12 → S 4 b ≤ j → j ≤ S 5 b → S 11 j = 0 := fun j hj h1 h2 => by
    by_cases q : S 11 j = 0
    · exact q
    · exfalso
      have z := (bit_z (n := 12) (Nat.lt_of_le_of_lt andn_le hq)).mp c2 j hj
      apply z
      rw [andn_bit (by omega) (by omega), sq_bit g hb6 hj, (b_sl g hj).2]
      exact ⟨⟨h1, h2⟩, q⟩
  have hlt : andn (S 10 5) (sq S b) < 4096 := Nat.lt_of_le_of_lt andn_le bw.2.2.2.2.2
  obtain ⟨M2, t1, t2, t3, t4, t5⟩ := lp_sl (fun n k a => fX7_sellNow_52 n (nI b) (nI v) (nI k) a) (S 4 b) (S 5 b + 1) (fun j => b + 1) (S 11) (wI (wI M1 1 (23 + b) (nI (S 13 b - v))) 1 8 (nI (min (S 10 2 + v) 99999))) (fun j hj => by rw [wI_ne (by omega), wI_ne (by omega)]; exact v_sl7 g1 hj)
    (fun n a hP => by
      try dsimp only
      have e51 : a 1 (51 + b) = nI (S 5 b) := by rw [hP _ (by omega), wI_ne (by omega), wI_ne (by omega)]; exact v_to7 g1 hb6
      rw [sX7_sellNow_52, fX7_sellNow_52b]
      simp (disch := (first | assumption | trivial | omega)) only [e51, lit, neg1, oI_s, addN, mulN, subN, clN, gdN, ltN, leN, eqN, nIo, oIn, oI_eq, divN, remN, giT, giF, lzE, prE, bdE, smL, smR, shlN, shrN, hasE, andN, orN, bit1, bit0, max7, min7, giTr, giFa, gdp, litL, i2l, addL, mulL, divL, remL, cmLe, cmGt, cmGe, cmEq, eqL])
    (fun n k a h1 h2 hP e => by
      try dsimp only
      left
      have e51 : a 1 (51 + b) = nI (S 5 b) := by rw [hP _ (by omega), wI_ne (by omega), wI_ne (by omega)]; exact v_to7 g1 hb6
      rw [sX7_sellNow_52, fX7_sellNow_52b]
      simp (disch := (first | assumption | trivial | omega)) only [e51, lit, neg1, oI_s, addN, mulN, subN, clN, gdN, ltN, leN, eqN, nIo, oIn, oI_eq, divN, remN, giT, giF, lzE, prE, bdE, smL, smR, shlN, shrN, hasE, andN, orN, bit1, bit0, max7, min7, giTr, giFa, gdp, litL, i2l, addL, mulL, divL, remL, cmLe, cmGt, cmGe, cmEq, eqL]
      all_goals rfl) (by omega) (by omega)
  try dsimp only at t1 t4
  have hM1 : ∀ k, k < 11 ∨ 23 ≤ k → k ≠ 8 → k ≠ 23 + b → M2 1 k = M1 1 k := fun k h1 h2 h3 => by
    rw [t3 k h1, wI_ne (by omega), wI_ne (by omega)]
  have hmin : min (S 10 2 + v) 99999 < 100000 := by omega
  obtain ⟨IC3, IM3, w1, w2, w3⟩ := mutw1 (S := S) (IC2 := wI (wI (wI (wI IC 13 b (nI (sq S b))) 11 4 (nI (andn (S 10 5) (sq S b)))) 12 b (nI (S 13 b - v))) 11 6 (nI (min (S 10 2 + v) 99999))) (IM2 := M2) J1 kV1 g1 (S 10 0) (S 10 1) (min (S 10 2 + v) 99999) (S 10 3) (andn (S 10 5) (sq S b)) (fun j => if S 4 b ≤ j ∧ j ≤ S 5 b then b + 1 else S 11 j) (fun j => if j = b then sq S b else S 12 j) (fun j => if j = b then S 13 b - v else S 13 j)
    ⟨bw.1, bw.2.1, hmin, bw.2.2.2.1, hlt⟩
    (by
      rw [hM1 6 (by omega) (by omega) (by omega), hM1 7 (by omega) (by omega) (by omega), hM1 9 (by omega) (by omega) (by omega), t3 8 (by omega)]
      simp (disch := omega) only [wI_ne, wI_eq, wI_o]
      exact ⟨v_da7 g1, v_da6 g1, v_dx7 g1, v_dx6 g1, trivial, trivial, v_so7 g1, v_so6 g1, trivial⟩)
    (fun j hj => by
      have bj := b_sl g hj
      try dsimp only
      by_cases q : S 4 b ≤ j ∧ j ≤ S 5 b
      · rw [if_pos q, andn_bit (by omega) (by omega), sq_bit g hb6 hj]
        refine ⟨by omega, t4 j q.1 (by omega), ⟨fun z => absurd q z.2, fun z => absurd z (by omega)⟩⟩
      · rw [if_neg q, andn_bit (by omega) (by omega), sq_bit g hb6 hj, bj.2]
        refine ⟨bj.1, ?_, ⟨fun z => z.1, fun z => ⟨z, q⟩⟩⟩
        rw [t5 j hj (by omega), wI_ne (by omega), wI_ne (by omega)]
        exact v_sl7 g1 hj)
    (fun d hd => by
      have bd' := b_ow g hd
      try dsimp only
      by_cases e : d = b
      · subst e
        rw [if_pos rfl, wI_o (by omega), wI_o (by omega), wI_o (by omega), wI_eq]
        refine ⟨hq, rfl, fun j hj => ?_⟩
        rw [sq_bit g hb6 hj]
        by_cases q : S 4 d ≤ j ∧ j ≤ S 5 d
        · rw [if_pos q]; exact ⟨fun _ => rfl, fun _ => q⟩
        · rw [if_neg q]; exact ⟨fun z => absurd z q, fun z => absurd (ow1 j d hj hd z) q⟩
      · rw [if_neg e, wI_o (by omega), wI_o (by omega), wI_o (by omega), wI_ne (by omega)]
        refine ⟨bd'.1, v_ow6 g1 hd, fun j hj => ?_⟩
        rw [bd'.2 j hj]
        by_cases q : S 4 b ≤ j ∧ j ≤ S 5 b
        · rw [if_pos q, hsub j hj q.1 q.2]; omega
        · rw [if_neg q])
    (fun d hd => by
      have bd' := b_pu g hd
      try dsimp only
      by_cases e : d = b
      · subst e
        rw [if_pos rfl, t3 _ (by omega), wI_ne (by omega), wI_eq, wI_o (by omega), wI_eq]
        exact ⟨by omega, rfl, rfl⟩
      · rw [if_neg e, hM1 _ (by omega) (by omega) (by omega), wI_o (by omega), wI_ne (by omega), wI_o (by omega), wI_o (by omega)]
        exact ⟨bd', v_pu7 g1 hd, v_pu6 g1 hd⟩)
    (fun j d hj hd e => by
      try dsimp only at e
      by_cases q : S 4 b ≤ j ∧ j ≤ S 5 b
      · rw [if_pos q] at e
        have : d = b := by omega
        subst this; exact q
      · rw [if_neg q] at e; exact ow1 j d hj hd e)
    (fun o h1 h2 h3 => by rw [wI_o h1, wI_o h2, wI_o h1, wI_o h3]) (by rw [wI_ne (by omega), wI_o (by omega), wI_ne (by omega), wI_o (by omega)]) (fun o h1 => by rw [t2 o h1, wI_o h1, wI_o h1]) (fun k hk => hM1 k (by omega) (by omega) (by omega)) (k := 0) (x := b) (q := v) (by omega) (by omega) (by omega)
  refine ⟨IC3, IM3, J1, ?_, ?_, w3.1, w3.2.trans (by rw [f7 1 (by omega) (by omega)])⟩
  · have g13 : sv S (wI IC 13 b (nI (sq S b))) M1 → True := fun _ => trivial
    have s6 := sl6 g hb6
    have s6' : fX0_slicesOf (nI b) (wI IC 13 b (nI (sq S b))) = some (nI (sq S b)) := by
      rw [← s6]
      unfold fX0_slicesOf
      rw [wI_o (by omega), wI_o (by omega)]
    unfold fX6_sellTo
    rw [s6, bdE]
    simp (disch := (first | assumption | trivial | omega)) only [clN, gdN, lzE]
    rw [s6', bdE]
    simp (disch := (first | assumption | trivial | omega)) only [v_f6 g, v_pu6 g, v_fu6 g, notN', wI_ne, wI_eq, wI_o, min7, lit, neg1, oI_s, addN, mulN, subN, clN, gdN, ltN, leN, eqN, nIo, oIn, oI_eq, divN, remN, giT, giF, lzE, prE, bdE, smL, smR, shlN, shrN, hasE, andN, orN, bit1, bit0, max7, min7, giTr, giFa, gdp, litL, i2l, addL, mulL, divL, remL, cmLe, cmGt, cmGe, cmEq, eqL]
    rw [Nat.min_comm 99999]
    exact (congrArg (fun z => bd z some) w1).trans rfl
  · unfold fX7_sellNow
    rw [e7]
    have e23 : M1 1 (23 + b) = nI (S 13 b) := v_pu7 g1 hb6
    have e45 : M1 1 (45 + b) = nI (S 4 b) := v_fr7 g1 hb6
    have e8 : M1 1 8 = nI (S 10 2) := v_fu7 g1
    simp (disch := (first | assumption | trivial | omega)) only [e23, e45, e8, wI_ne, wI_eq, heldL, lit, neg1, oI_s, addN, mulN, subN, clN, gdN, ltN, leN, eqN, nIo, oIn, oI_eq, divN, remN, giT, giF, lzE, prE, bdE, smL, smR, shlN, shrN, hasE, andN, orN, bit1, bit0, max7, min7, giTr, giFa, gdp, litL, i2l, addL, mulL, divL, remL, cmLe, cmGt, cmGe, cmEq, eqL]
    rw [t1, bdE, w2]
    rfl
theorem dy_ok1 (hE : EARN) {S : Nat → Nat → Nat} {IC IM : gI} {JM : gJ} (kV : V0 IC IM JM) (h : sv S IC IM) (hd : S 10 0 < 9999) : ∃ IC' IM' JM', fX6_dawnComes 11 IC = some IC' ∧ fX7_passDay IM JM = some (IM', JM') ∧ V0 IC' IM' JM' ∧ IM' 1 6 = nI (S 10 0 + 1) ∧ IM' 1 1 = IM 1 1 := by
  have ht : txs IC IM (S 0 1) := by
    obtain ⟨nb, nt, mb, mt, h1, ⟨p1, p2, p3, p4, p5, p6, p7, p8, p9⟩, h3, h4, h5⟩ := kV
    obtain ⟨n1, n2⟩ := nb_of h p1
    exact fun t ht => h5 t (by omega)
  have bw := b_w h
  obtain ⟨C2, M2, J2, s, x, pu, hs, hx, hpu, e6, e7, ⟨c7, c8, c6, c5, c4, c3⟩, cb, co, ⟨m6, m7, m8, m9⟩, ms, mb, mk, mo⟩ := day_ok hE (w := 11) JM (Or.inl rfl) (by rw [fw_eq]; exact h) ht hd
  obtain ⟨A, hA⟩ : ∃ A : gI, A = fun o => if o = 288 then C2 288 else IC o := ⟨_, rfl⟩
  obtain ⟨B, hB⟩ : ∃ B : gI, B = fun o => if o = 6 then M2 6 else if o = 8 then M2 8 else IM o := ⟨_, rfl⟩
  have fA : fC IC A := fun o ho => by rw [hA]; exact if_neg ho
  have fB : fM IM B := fun o h1 h2 => by rw [hB]; show (if o = 6 then M2 6 else if o = 8 then M2 8 else IM o) = IM o; rw [if_neg h1, if_neg h2]
  have kV' : V0 A B J2 := V0_f kV fA fB
  have g := sv_f h fA fB
  obtain ⟨IC3, IM3, w1, w2, w3⟩ := mutw1 (S := S) (IC2 := C2) (IM2 := M2) J2 kV' g (S 10 0 + 1) x (S 10 2) s 4095 (fun _ => 0) (fun _ => 0) pu
    ⟨by omega, hx, bw.2.2.1, hs, by decide⟩ ⟨m6, c7, m7, c8, m8, c6, m9, c5, c4⟩
    (fun j hj => ⟨Or.inl (Nat.zero_le _), ms j hj, ⟨fun _ => rfl, fun _ => all12 j hj⟩⟩)
    (fun b hb => ⟨by decide, (cb b hb).2, fun j hj => ⟨fun q => by rw [Nat.zero_testBit] at q; exact absurd q (by decide), fun q => absurd q (by omega)⟩⟩)
    (fun b hb => ⟨hpu b hb, mb b hb, (cb b hb).1⟩)
    (fun j b _ _ e => absurd e (by omega))
    (fun o h1 h2 h3 => by
      by_cases q : o = 288
      · subst q; rw [hA]; rfl
      · rw [co o h1 h2 h3 q, fA o q])
    (by rw [c3, fA 11 (by omega)])
    (fun o h1 => by
      by_cases q : o = 6
      · subst q; rw [hB]; rfl
      · by_cases q2 : o = 8
        · subst q2; rw [hB]; rfl
        · rw [mo o h1 q q2, fB o q q2])
    (fun k hk => by rw [mk k (by omega), fB 1 (by omega) (by omega)]) (k := 3) (x := s) (q := 0) (by omega) (by omega) (by omega)
  obtain ⟨w3, w4⟩ := w3
  refine ⟨IC3, IM3, J2, ?_, ?_, w3, ?_, w4.trans (by rw [fB 1 (by omega) (by omega)])⟩
  · rw [e6, w1]; rfl
  · rw [e7, w2]; rfl
  · obtain ⟨S3, g3⟩ := view w3
    have := wr7 (IM := M2) (n := S 10 4) (d := S 10 0 + 1) (k := 3) (x := s) (q := 0) (by
      rw [mo 0 (by omega) (by omega) (by omega)]
      obtain ⟨nb, nt, mb, mt, h1, ⟨p1, p2, p3, p4, p5, p6, p7, p8, p9⟩, h3, h4, h5⟩ := kV
      obtain ⟨n, b1, b2, b3, b4, b5, b6, b7⟩ := h4
      exact b7) (by rw [mk 10 (by omega)]; exact v_ln7 h) (by omega) m6 (by omega) (by omega) (by omega) (by omega)
    obtain ⟨IM', m, y1, y2, y3, _⟩ := this
    rw [w2] at y1
    have y4 := Option.some.inj y1
    rw [y4, y3 6 (by omega) (by omega)]
    exact m6
theorem pd_ok1 (hE : EARN) {S : Nat → Nat → Nat} {IC IM : gI} {JM : gJ} (kV : V0 IC IM JM) (h : sv S IC IM) {n : Nat} (hn : n ≤ 60) : ∃ r IC' IM' JM', fX6_passDays (nI n) IC = some (r, IC') ∧ fX7_arePassed (nI n) IM JM = some (r, IM', JM') ∧ V0 IC' IM' JM' ∧ (r = nI 0 ∨ r = nI 1) ∧ (S 10 0 + n ≤ 9999 → r = nI 1) ∧ IM' 1 1 = IM 1 1 := by
  have bw := b_w h
  obtain ⟨r6, r7, e6, e7, C, M, J, hV, hM11, hr⟩ := lp_2 (fun m k (a : gI × gI × gJ) => fX6_passDays_2 m (nI n) (nI k) a.1) (fun m k (a : gI × gI × gJ) => fX7_arePassed_2 m (nI n) (nI k) a.2.1 a.2.2) n
    (fun k a => V0 a.1 a.2.1 a.2.2 ∧ a.2.1 1 6 = nI (S 10 0 + k) ∧ S 10 0 + k < 10000 ∧ a.2.1 1 1 = IM 1 1)
    (fun r6 r7 => ∃ C M J, V0 C M J ∧ M 1 1 = IM 1 1 ∧ ((r6 = Sum.inl C ∧ r7 = Sum.inl (M, J) ∧ ¬ S 10 0 + n ≤ 9999) ∨ (r6 = Sum.inr C ∧ r7 = Sum.inr (M, J))))
    (fun m a hP => by
      try dsimp only at hP ⊢
      refine ⟨Sum.inr a.1, Sum.inr (a.2.1, a.2.2), ?_, ?_, a.1, a.2.1, a.2.2, hP.1, hP.2.2.2, Or.inr ⟨rfl, rfl⟩⟩
      · rw [sX6_passDays_2, fX6_passDays_2b]
        simp (disch := (first | assumption | trivial | omega)) only [lit, neg1, oI_s, addN, mulN, subN, clN, gdN, ltN, leN, eqN, nIo, oIn, oI_eq, divN, remN, giT, giF, lzE, prE, bdE, smL, smR, shlN, shrN, hasE, andN, orN, bit1, bit0, max7, min7, giTr, giFa, gdp, litL, i2l, addL, mulL, divL, remL, cmLe, cmGt, cmGe, cmEq, eqL]
      · rw [sX7_arePassed_2, fX7_arePassed_2b]
        simp (disch := (first | assumption | trivial | omega)) only [lit, neg1, oI_s, addN, mulN, subN, clN, gdN, ltN, leN, eqN, nIo, oIn, oI_eq, divN, remN, giT, giF, lzE, prE, bdE, smL, smR, shlN, shrN, hasE, andN, orN, bit1, bit0, max7, min7, giTr, giFa, gdp, litL, i2l, addL, mulL, divL, remL, cmLe, cmGt, cmGe, cmEq, eqL])
    (fun m k a hk hP => by
      try dsimp only at hP ⊢
      obtain ⟨C, M, J⟩ := a
      try dsimp only at hP ⊢
      obtain ⟨q1, q2, q3, q4⟩ := hP
      obtain ⟨S1, g1⟩ := view q1
      have b1 := b_w g1
      have hday : S1 10 0 = S 10 0 + k := by
        have := v_da7 g1
        rw [q2] at this
        exact ((nI_eq (by omega) (by omega)).mp this).symm
      have e11 := v_da6 g1
      by_cases c : S1 10 0 = 9999
      · left
        refine ⟨Sum.inl C, Sum.inl (M, J), ?_, ?_, C, M, J, q1, q4, Or.inl ⟨rfl, rfl, by omega⟩⟩
        · rw [sX6_passDays_2, fX6_passDays_2b]
          simp (disch := (first | assumption | trivial | omega)) only [e11, c, lit, neg1, oI_s, addN, mulN, subN, clN, gdN, ltN, leN, eqN, nIo, oIn, oI_eq, divN, remN, giT, giF, lzE, prE, bdE, smL, smR, shlN, shrN, hasE, andN, orN, bit1, bit0, max7, min7, giTr, giFa, gdp, litL, i2l, addL, mulL, divL, remL, cmLe, cmGt, cmGe, cmEq, eqL]
        · rw [sX7_arePassed_2, fX7_arePassed_2b]
          have c3 : S 10 0 + k = 9999 := by omega
          simp (disch := (first | assumption | trivial | omega)) only [q2, c3, lit, neg1, oI_s, addN, mulN, subN, clN, gdN, ltN, leN, eqN, nIo, oIn, oI_eq, divN, remN, giT, giF, lzE, prE, bdE, smL, smR, shlN, shrN, hasE, andN, orN, bit1, bit0, max7, min7, giTr, giFa, gdp, litL, i2l, addL, mulL, divL, remL, cmLe, cmGt, cmGe, cmEq, eqL]
      · right
        obtain ⟨C2, M2, k1, k2, kV2, kC, kC1, kM, kM1⟩ := keep q1
        have g2 := sv_kp g1 kC kC1 kM1
        obtain ⟨C3, M3, J3, x6, x7, kV3, x1, x2⟩ := dy_ok1 hE kV2 g2 (by omega)
        refine ⟨(C3, M3, J3), ?_, ?_, kV3, ?_, by omega, x2.trans ((kM1 1 (by omega) (by omega)).trans q4)⟩
        · rw [sX6_passDays_2, fX6_passDays_2b]
          have c2 : S1 10 0 < 9999 := by omega
          simp (disch := (first | assumption | trivial | omega)) only [e11, c2, k1, x6, lit, neg1, oI_s, addN, mulN, subN, clN, gdN, ltN, leN, eqN, nIo, oIn, oI_eq, divN, remN, giT, giF, lzE, prE, bdE, smL, smR, shlN, shrN, hasE, andN, orN, bit1, bit0, max7, min7, giTr, giFa, gdp, litL, i2l, addL, mulL, divL, remL, cmLe, cmGt, cmGe, cmEq, eqL]
        · rw [sX7_arePassed_2, fX7_arePassed_2b]
          have c2 : ¬ S 10 0 + k = 9999 := by omega
          simp (disch := (first | assumption | trivial | omega)) only [q2, c2, k2, x7, lit, neg1, oI_s, addN, mulN, subN, clN, gdN, ltN, leN, eqN, nIo, oIn, oI_eq, divN, remN, giT, giF, lzE, prE, bdE, smL, smR, shlN, shrN, hasE, andN, orN, bit1, bit0, max7, min7, giTr, giFa, gdp, litL, i2l, addL, mulL, divL, remL, cmLe, cmGt, cmGe, cmEq, eqL]
        · show M3 1 6 = _
          rw [x1, hday, Nat.add_assoc]) n 0 (IC, IM, JM) FU (by omega) ⟨kV, by rw [Nat.add_zero]; exact v_da7 h, by omega, rfl⟩ (by show _ < 5000; omega)
  try dsimp only at e6 e7
  rcases hr with ⟨rfl, rfl, hq⟩ | ⟨rfl, rfl⟩
  · refine ⟨nI 0, C, M, J, ?_, ?_, hV, Or.inl rfl, fun q => absurd q hq, hM11⟩
    · unfold fX6_passDays
      rw [show (0 : Int32) = nI 0 from rfl, e6]
      rfl
    · unfold fX7_arePassed
      rw [show (0 : Int32) = nI 0 from rfl, e7]
      rfl
  · refine ⟨nI 1, C, M, J, ?_, ?_, hV, Or.inr rfl, fun _ => rfl, hM11⟩
    · unfold fX6_passDays
      rw [show (0 : Int32) = nI 0 from rfl, e6]
      rfl
    · unfold fX7_arePassed
      rw [show (0 : Int32) = nI 0 from rfl, e7]
      rfl
/-- one clause is played -/
theorem py_ok {C M : gI} {J : gJ} {k6 x6 y6 : Int32} {i : Nat} (hV : V0 C M J) (hi : i + 2 < 2724) (hr : rCl k6 x6 y6 (M 3 i) (M 3 (i + 1)) (M 3 (i + 2))) : ∃ r C' M' J', fX6_play k6 x6 y6 C = some (r, C') ∧ fX7_isPlayed (nI i) M J = some (r, M', J') ∧ V0 C' M' J' ∧ (r = nI 0 ∨ r = nI 1) ∧ M' 1 1 = M 1 1 := by
  obtain ⟨S, bV, h, hb⟩ := view3 BIDS_ok hV
  have bn := b_nb h
  rcases hr with ⟨f, t, hf, ht, rfl, rfl, rfl, c7, d7, e7⟩ | ⟨s, o, hs, ho, rfl, rfl, rfl, c7, d7, e7⟩ | ⟨b, hb6, rfl, rfl, c7, d7⟩ | ⟨s, hs, rfl, rfl, c7, d7⟩ | ⟨b, hb6, rfl, rfl, c7, d7⟩ | ⟨n, n1, n2, rfl, rfl, c7, d7⟩ | ⟨l, hl, rfl, c7⟩
  · -- buyer
    obtain ⟨r, C1, M1, z6, z7, kV⟩ := case_1 31 (nI f) (nI t) 50 C M J hV
    have z6' : fX6_buyer (nI 31) (nI f) (nI t) (nI 50) C = some (r, C1) := z6
    have z7' : fX7_buyer (nI 31) (nI f) (nI t) (nI 50) M = some (r, M1) := z7
    have fr : (r = oI 0 ∧ M1 = M) ∨ (∃ b, b < 6 ∧ r = nI b ∧ M1 1 1 = M 1 1) := by
      have i7 : fX7_isIn (nI 31) 0 31 = nI 1 := isIn_pos (lo := 0) (hi := 31) (n := 31) (by decide) rfl rfl (inR_nI (by omega))
      have j7 : fX7_isIn (nI 50) 0 999 = nI 1 := isIn_pos (lo := 0) (hi := 999) (n := 999) (by decide) rfl rfl (inR_nI (by omega))
      obtain ⟨r7, _⟩ := isRun7p hf ht
      unfold fX7_buyer at z7'
      rw [i7, r7, j7] at z7'
      by_cases c5 : S 0 0 = 6
      · left
        simp (disch := (first | assumption | trivial | omega)) only [v_nb7 h, c5, lit, eqN, giF, giTr, neg1] at z7'
        have q := Option.some.inj z7'
        exact ⟨(congrArg Prod.fst q).symm, (congrArg Prod.snd q).symm⟩
      · right
        simp (disch := (first | assumption | trivial | omega)) only [v_nb7 h, c5, lit, eqN, giF, giTr, addN, gdN, clN, lzE] at z7'
        have q := Option.some.inj z7'
        refine ⟨S 0 0, by omega, (congrArg Prod.fst q).symm, ?_⟩
        have q2 := congrArg Prod.snd q
        try dsimp only at q2
        rw [← q2]
        simp (disch := omega) only [wI_ne]
    rcases fr with ⟨rfl, rfl⟩ | ⟨b, hb6, rfl, hf1⟩
    · refine ⟨nI 0, C1, M1, J, ?_, ?_, kV, Or.inl rfl, rfl⟩
      · unfold fX6_play
        simp (disch := (first | assumption | trivial | omega)) only [z6', lit, neg1, oI_s, addN, mulN, subN, clN, gdN, ltN, leN, eqN, nIo, oIn, oI_eq, divN, remN, giT, giF, lzE, prE, bdE, smL, smR, shlN, shrN, hasE, andN, orN, bit1, bit0, max7, min7, giTr, giFa, gdp, litL, i2l, addL, mulL, divL, remL, cmLe, cmGt, cmGe, cmEq, eqL]
      · unfold fX7_isPlayed
        simp (disch := (first | assumption | trivial | omega)) only [c7, d7, e7, z7', oIlt, lit, neg1, oI_s, addN, mulN, subN, clN, gdN, ltN, leN, eqN, nIo, oIn, oI_eq, divN, remN, giT, giF, lzE, prE, bdE, smL, smR, shlN, shrN, hasE, andN, orN, bit1, bit0, max7, min7, giTr, giFa, gdp, litL, i2l, addL, mulL, divL, remL, cmLe, cmGt, cmGe, cmEq, eqL]
    · refine ⟨nI 1, C1, M1, J, ?_, ?_, kV, Or.inr rfl, hf1⟩
      · unfold fX6_play
        simp (disch := (first | assumption | trivial | omega)) only [z6', lit, neg1, oI_s, addN, mulN, subN, clN, gdN, ltN, leN, eqN, nIo, oIn, oI_eq, divN, remN, giT, giF, lzE, prE, bdE, smL, smR, shlN, shrN, hasE, andN, orN, bit1, bit0, max7, min7, giTr, giFa, gdp, litL, i2l, addL, mulL, divL, remL, cmLe, cmGt, cmGe, cmEq, eqL]
      · unfold fX7_isPlayed
        have : ¬ b < 0 := by omega
        simp (disch := (first | assumption | trivial | omega)) only [c7, d7, e7, z7', lit, neg1, oI_s, addN, mulN, subN, clN, gdN, ltN, leN, eqN, nIo, oIn, oI_eq, divN, remN, giT, giF, lzE, prE, bdE, smL, smR, shlN, shrN, hasE, andN, orN, bit1, bit0, max7, min7, giTr, giFa, gdp, litL, i2l, addL, mulL, divL, remL, cmLe, cmGt, cmGe, cmEq, eqL]
  · -- sort
    have hw := (b_od h hs).2
    obtain ⟨r, C1, M1, z6, z7, kV⟩ := case_0 (nI s) (nI o) (nI (S 2 s)) C M J hV
    have fr : r = nI 1 ∧ M1 1 1 = M 1 1 := by
      have i7 := isSort7_pos (inR_nI hs)
      have j7 : fX7_isIn (nI o) 0 9 = nI 1 := isIn_pos (lo := 0) (hi := 9) (n := 9) (by decide) rfl rfl (inR_nI (by omega))
      have k7 : fX7_isIn (nI (S 2 s)) 0 99 = nI 1 := isIn_pos (lo := 0) (hi := 99) (n := 99) (by decide) rfl rfl (inR_nI (by omega))
      unfold fX7_sort at z7
      rw [i7, j7, k7] at z7
      simp (disch := (first | assumption | trivial | omega)) only [lit, eqN, giF, giTr, addN, gdN, clN, lzE] at z7
      have q := Option.some.inj z7
      refine ⟨(congrArg Prod.fst q).symm, ?_⟩
      have q2 := congrArg Prod.snd q
      try dsimp only at q2
      rw [← q2]
      simp (disch := omega) only [wI_ne]
    obtain ⟨rfl, hf1⟩ := fr
    refine ⟨nI 1, C1, M1, J, ?_, ?_, kV, Or.inr rfl, hf1⟩
    · have i6 := isSort6_pos (inR_nI hs)
      unfold fX6_play
      simp (disch := (first | assumption | trivial | omega)) only [i6, v_wo6 h, z6, lit, eqN, giF, giTr, giFa, gdN, clN, bdE, prE]
    · unfold fX7_isPlayed
      simp (disch := (first | assumption | trivial | omega)) only [c7, d7, e7, v_wo7 h, z7, lit, neg1, oI_s, addN, mulN, subN, clN, gdN, ltN, leN, eqN, nIo, oIn, oI_eq, divN, remN, giT, giF, lzE, prE, bdE, smL, smR, shlN, shrN, hasE, andN, orN, bit1, bit0, max7, min7, giTr, giFa, gdp, litL, i2l, addL, mulL, divL, remL, cmLe, cmGt, cmGe, cmEq, eqL]
  · -- sell
    rcases price h (hb _ _ h lik_rf) (nI b) with ⟨b', e, hn, hc, ⟨C1, e6, f6⟩, e7⟩ | ⟨⟨C1, e6, f6⟩, e7⟩
    · obtain ⟨M1, J1, e7, f7⟩ := e7 J
      have hv := bnw_lt h (hb _ _ h lik_rf) hn
      obtain ⟨C2, M2, k1, k2, kV, kC, kC1, kM, kM1⟩ := keep (V0_f (JM' := J1) hV f6 f7)
      have g := sv_kp (sv_f h f6 f7) kC kC1 kM1
      obtain ⟨C3, M3, J3, s1, s2, s3, s4⟩ := se_ok1 kV g (hb _ _ g (lik_tr (lik_f f6 f7) ⟨fun o ho => kC o (by omega) (by omega), kM 3 (by omega)⟩)) hn hc
      rw [← e] at s1 s2
      have z6 : fX6_sell (nI b) C = some (nI (bnw S bV b'), C3) := by
        unfold fX6_sell
        simp (disch := (first | assumption | trivial | omega)) only [e6, k1, s1, lit, neg1, oI_s, addN, mulN, subN, clN, gdN, ltN, leN, eqN, nIo, oIn, oI_eq, divN, remN, giT, giF, lzE, prE, bdE, smL, smR, shlN, shrN, hasE, andN, orN, bit1, bit0, max7, min7, giTr, giFa, gdp, litL, i2l, addL, mulL, divL, remL, cmLe, cmGt, cmGe, cmEq, eqL]
      have z7 : fX7_sell (nI b) M J = some (nI (bnw S bV b'), M3, J3) := by
        unfold fX7_sell
        rw [e7]
        simp (disch := (first | assumption | trivial | omega)) only [k2, s2, lit, neg1, oI_s, addN, mulN, subN, clN, gdN, ltN, leN, eqN, nIo, oIn, oI_eq, divN, remN, giT, giF, lzE, prE, bdE, smL, smR, shlN, shrN, hasE, andN, orN, bit1, bit0, max7, min7, giTr, giFa, gdp, litL, i2l, addL, mulL, divL, remL, cmLe, cmGt, cmGe, cmEq, eqL]
      refine ⟨nI 1, C3, M3, J3, ?_, ?_, s3, Or.inr rfl, s4.trans ((kM1 1 (by omega) (by omega)).trans (by rw [f7 1 (by omega) (by omega)]))⟩
      · unfold fX6_play
        simp (disch := (first | assumption | trivial | omega)) only [z6, lit, neg1, oI_s, addN, mulN, subN, clN, gdN, ltN, leN, eqN, nIo, oIn, oI_eq, divN, remN, giT, giF, lzE, prE, bdE, smL, smR, shlN, shrN, hasE, andN, orN, bit1, bit0, max7, min7, giTr, giFa, gdp, litL, i2l, addL, mulL, divL, remL, cmLe, cmGt, cmGe, cmEq, eqL]
      · unfold fX7_isPlayed
        have : ¬ bnw S bV b' < 0 := by omega
        simp (disch := (first | assumption | trivial | omega)) only [c7, d7, z7, lit, neg1, oI_s, addN, mulN, subN, clN, gdN, ltN, leN, eqN, nIo, oIn, oI_eq, divN, remN, giT, giF, lzE, prE, bdE, smL, smR, shlN, shrN, hasE, andN, orN, bit1, bit0, max7, min7, giTr, giFa, gdp, litL, i2l, addL, mulL, divL, remL, cmLe, cmGt, cmGe, cmEq, eqL]
    · obtain ⟨M1, J1, e7, f7⟩ := e7 J
      have z6 : fX6_sell (nI b) C = some (oI 0, C1) := by
        unfold fX6_sell
        rw [e6, bdE, prE, gi_pos (show oI 0 = (-1 : Int32) from rfl)]
        rfl
      have z7 : fX7_sell (nI b) M J = some (oI 0, M1, J1) := by
        unfold fX7_sell
        rw [e7, bdE, prE, prE, gi_pos rfl]
        rfl
      refine ⟨nI 0, C1, M1, J1, ?_, ?_, V0_f hV f6 f7, Or.inl rfl, by rw [f7 1 (by omega) (by omega)]⟩
      · unfold fX6_play
        simp (disch := (first | assumption | trivial | omega)) only [z6, lit, neg1, oI_s, addN, mulN, subN, clN, gdN, ltN, leN, eqN, nIo, oIn, oI_eq, divN, remN, giT, giF, lzE, prE, bdE, smL, smR, shlN, shrN, hasE, andN, orN, bit1, bit0, max7, min7, giTr, giFa, gdp, litL, i2l, addL, mulL, divL, remL, cmLe, cmGt, cmGe, cmEq, eqL]
      · unfold fX7_isPlayed
        simp (disch := (first | assumption | trivial | omega)) only [c7, d7, z7, oIlt, lit, neg1, oI_s, addN, mulN, subN, clN, gdN, ltN, leN, eqN, nIo, oIn, oI_eq, divN, remN, giT, giF, lzE, prE, bdE, smL, smR, shlN, shrN, hasE, andN, orN, bit1, bit0, max7, min7, giTr, giFa, gdp, litL, i2l, addL, mulL, divL, remL, cmLe, cmGt, cmGe, cmEq, eqL]
  · -- give
    have i6 : fX6_isSlice (nI s) = nI 1 := isSlice6_pos (inR_nI hs)
    have i7 : fX7_isSlice (nI s) = nI 1 := isSlice7_pos (inR_nI hs)
    have bs := b_sl h hs
    by_cases fz : S 11 s = 0
    · have ft : (S 10 5).testBit s = true := bs.2.mpr fz
      obtain ⟨C2, M2, k1, k2, kV, kC, kC1, kM, kM1⟩ := keep hV
      have g := sv_kp h kC kC1 kM1
      obtain ⟨C3, M3, s1, s2, s3, s4⟩ := gv_ok1 kV g hs fz
      have bw := b_w h
      have z6 : fX6_give (nI s) C = some (nI 1, C3) := by
        unfold fX6_give fX6_isFree
        rw [i6]
        simp (disch := (first | assumption | trivial | omega)) only [v_f6 h, bit1 ft, k1, s1, lit, neg1, oI_s, addN, mulN, subN, clN, gdN, ltN, leN, eqN, nIo, oIn, oI_eq, divN, remN, giT, giF, lzE, prE, bdE, smL, smR, shlN, shrN, hasE, andN, orN, bit1, bit0, max7, min7, giTr, giFa, gdp, litL, i2l, addL, mulL, divL, remL, cmLe, cmGt, cmGe, cmEq, eqL]
      have z7 : fX7_give (nI s) M = some (nI 1, M3) := by
        unfold fX7_give fX7_canGive
        rw [i7]
        simp (disch := (first | assumption | trivial | omega)) only [k2, v_sl7 h hs, fz, s2, lit, neg1, oI_s, addN, mulN, subN, clN, gdN, ltN, leN, eqN, nIo, oIn, oI_eq, divN, remN, giT, giF, lzE, prE, bdE, smL, smR, shlN, shrN, hasE, andN, orN, bit1, bit0, max7, min7, giTr, giFa, gdp, litL, i2l, addL, mulL, divL, remL, cmLe, cmGt, cmGe, cmEq, eqL]
      refine ⟨nI 1, C3, M3, J, ?_, ?_, s3, Or.inr rfl, s4.trans (kM1 1 (by omega) (by omega))⟩
      · unfold fX6_play
        simp (disch := (first | assumption | trivial | omega)) only [z6, lit, neg1, oI_s, addN, mulN, subN, clN, gdN, ltN, leN, eqN, nIo, oIn, oI_eq, divN, remN, giT, giF, lzE, prE, bdE, smL, smR, shlN, shrN, hasE, andN, orN, bit1, bit0, max7, min7, giTr, giFa, gdp, litL, i2l, addL, mulL, divL, remL, cmLe, cmGt, cmGe, cmEq, eqL]
      · unfold fX7_isPlayed
        simp (disch := (first | assumption | trivial | omega)) only [c7, d7, z7, lit, neg1, oI_s, addN, mulN, subN, clN, gdN, ltN, leN, eqN, nIo, oIn, oI_eq, divN, remN, giT, giF, lzE, prE, bdE, smL, smR, shlN, shrN, hasE, andN, orN, bit1, bit0, max7, min7, giTr, giFa, gdp, litL, i2l, addL, mulL, divL, remL, cmLe, cmGt, cmGe, cmEq, eqL]
    · have ft : ¬ (S 10 5).testBit s = true := fun q => fz (bs.2.mp q)
      have bw := b_w h
      have z6 : fX6_give (nI s) C = some (nI 0, C) := by
        unfold fX6_give fX6_isFree
        rw [i6]
        simp (disch := (first | assumption | trivial | omega)) only [v_f6 h, bit0 ft, lit, neg1, oI_s, addN, mulN, subN, clN, gdN, ltN, leN, eqN, nIo, oIn, oI_eq, divN, remN, giT, giF, lzE, prE, bdE, smL, smR, shlN, shrN, hasE, andN, orN, bit1, bit0, max7, min7, giTr, giFa, gdp, litL, i2l, addL, mulL, divL, remL, cmLe, cmGt, cmGe, cmEq, eqL]
      have z7 : fX7_give (nI s) M = some (nI 0, M) := by
        unfold fX7_give fX7_canGive
        rw [i7]
        simp (disch := (first | assumption | trivial | omega)) only [v_sl7 h hs, fz, lit, neg1, oI_s, addN, mulN, subN, clN, gdN, ltN, leN, eqN, nIo, oIn, oI_eq, divN, remN, giT, giF, lzE, prE, bdE, smL, smR, shlN, shrN, hasE, andN, orN, bit1, bit0, max7, min7, giTr, giFa, gdp, litL, i2l, addL, mulL, divL, remL, cmLe, cmGt, cmGe, cmEq, eqL]
      refine ⟨nI 0, C, M, J, ?_, ?_, hV, Or.inl rfl, rfl⟩
      · unfold fX6_play
        simp (disch := (first | assumption | trivial | omega)) only [z6, lit, neg1, oI_s, addN, mulN, subN, clN, gdN, ltN, leN, eqN, nIo, oIn, oI_eq, divN, remN, giT, giF, lzE, prE, bdE, smL, smR, shlN, shrN, hasE, andN, orN, bit1, bit0, max7, min7, giTr, giFa, gdp, litL, i2l, addL, mulL, divL, remL, cmLe, cmGt, cmGe, cmEq, eqL]
      · unfold fX7_isPlayed
        simp (disch := (first | assumption | trivial | omega)) only [c7, d7, z7, lit, neg1, oI_s, addN, mulN, subN, clN, gdN, ltN, leN, eqN, nIo, oIn, oI_eq, divN, remN, giT, giF, lzE, prE, bdE, smL, smR, shlN, shrN, hasE, andN, orN, bit1, bit0, max7, min7, giTr, giFa, gdp, litL, i2l, addL, mulL, divL, remL, cmLe, cmGt, cmGe, cmEq, eqL]
  · -- turn
    have no : (fX6_turn (nI b) C = some (nI 0, C)) → (fX7_turn (nI b) M = some (nI 0, M)) → ∃ r C' M' J', fX6_play (nI 8) (nI b) y6 C = some (r, C') ∧ fX7_isPlayed (nI i) M J = some (r, M', J') ∧ V0 C' M' J' ∧ (r = nI 0 ∨ r = nI 1) ∧ M' 1 1 = M 1 1 := by
      intro z6 z7
      refine ⟨nI 0, C, M, J, ?_, ?_, hV, Or.inl rfl, rfl⟩
      · unfold fX6_play
        simp (disch := (first | assumption | trivial | omega)) only [z6, lit, neg1, oI_s, addN, mulN, subN, clN, gdN, ltN, leN, eqN, nIo, oIn, oI_eq, divN, remN, giT, giF, lzE, prE, bdE, smL, smR, shlN, shrN, hasE, andN, orN, bit1, bit0, max7, min7, giTr, giFa, gdp, litL, i2l, addL, mulL, divL, remL, cmLe, cmGt, cmGe, cmEq, eqL]
      · unfold fX7_isPlayed
        simp (disch := (first | assumption | trivial | omega)) only [c7, d7, z7, lit, neg1, oI_s, addN, mulN, subN, clN, gdN, ltN, leN, eqN, nIo, oIn, oI_eq, divN, remN, giT, giF, lzE, prE, bdE, smL, smR, shlN, shrN, hasE, andN, orN, bit1, bit0, max7, min7, giTr, giFa, gdp, litL, i2l, addL, mulL, divL, remL, cmLe, cmGt, cmGe, cmEq, eqL]
    by_cases cb : b < S 0 0
    · have i7 := isB7p h (inR_nI cb)
      have bo := b_ow h hb6
      have hpc := pc_0 (S 12 b) bo.1
      have hple := pc_le (S 12 b)
      by_cases fz : S 12 b = 0
      · refine no ?_ ?_
        · unfold fX6_turn
          simp (disch := (first | assumption | trivial | omega)) only [hs6z h cb fz, lit, neg1, oI_s, addN, mulN, subN, clN, gdN, ltN, leN, eqN, nIo, oIn, oI_eq, divN, remN, giT, giF, lzE, prE, bdE, smL, smR, shlN, shrN, hasE, andN, orN, bit1, bit0, max7, min7, giTr, giFa, gdp, litL, i2l, addL, mulL, divL, remL, cmLe, cmGt, cmGe, cmEq, eqL]
        · unfold fX7_turn fX7_canTurn
          rw [i7]
          simp (disch := (first | assumption | trivial | omega)) only [hn7 h, hpc.mpr fz, lit, neg1, oI_s, addN, mulN, subN, clN, gdN, ltN, leN, eqN, nIo, oIn, oI_eq, divN, remN, giT, giF, lzE, prE, bdE, smL, smR, shlN, shrN, hasE, andN, orN, bit1, bit0, max7, min7, giTr, giFa, gdp, litL, i2l, addL, mulL, divL, remL, cmLe, cmGt, cmGe, cmEq, eqL]
      · have f2 : ¬ pc (S 12 b) = 0 := fun q => fz (hpc.mp q)
        obtain ⟨C2, M2, k1, k2, kV, kC, kC1, kM, kM1⟩ := keep hV
        have g := sv_kp h kC kC1 kM1
        obtain ⟨C3, M3, s1, s2, s3, s4⟩ := tn_ok1 kV g cb
        have z6 : fX6_turn (nI b) C = some (nI 1, C3) := by
          unfold fX6_turn
          simp (disch := (first | assumption | trivial | omega)) only [hs6p h cb fz, k1, s1, lit, neg1, oI_s, addN, mulN, subN, clN, gdN, ltN, leN, eqN, nIo, oIn, oI_eq, divN, remN, giT, giF, lzE, prE, bdE, smL, smR, shlN, shrN, hasE, andN, orN, bit1, bit0, max7, min7, giTr, giFa, gdp, litL, i2l, addL, mulL, divL, remL, cmLe, cmGt, cmGe, cmEq, eqL]
        have z7 : fX7_turn (nI b) M = some (nI 1, M3) := by
          unfold fX7_turn fX7_canTurn
          rw [i7]
          simp (disch := (first | assumption | trivial | omega)) only [hn7 h, f2, k2, s2, Nat.le_zero, lit, neg1, oI_s, addN, mulN, subN, clN, gdN, ltN, leN, eqN, nIo, oIn, oI_eq, divN, remN, giT, giF, lzE, prE, bdE, smL, smR, shlN, shrN, hasE, andN, orN, bit1, bit0, max7, min7, giTr, giFa, gdp, litL, i2l, addL, mulL, divL, remL, cmLe, cmGt, cmGe, cmEq, eqL]
        refine ⟨nI 1, C3, M3, J, ?_, ?_, s3, Or.inr rfl, s4.trans (kM1 1 (by omega) (by omega))⟩
        · unfold fX6_play
          simp (disch := (first | assumption | trivial | omega)) only [z6, lit, neg1, oI_s, addN, mulN, subN, clN, gdN, ltN, leN, eqN, nIo, oIn, oI_eq, divN, remN, giT, giF, lzE, prE, bdE, smL, smR, shlN, shrN, hasE, andN, orN, bit1, bit0, max7, min7, giTr, giFa, gdp, litL, i2l, addL, mulL, divL, remL, cmLe, cmGt, cmGe, cmEq, eqL]
        · unfold fX7_isPlayed
          simp (disch := (first | assumption | trivial | omega)) only [c7, d7, z7, lit, neg1, oI_s, addN, mulN, subN, clN, gdN, ltN, leN, eqN, nIo, oIn, oI_eq, divN, remN, giT, giF, lzE, prE, bdE, smL, smR, shlN, shrN, hasE, andN, orN, bit1, bit0, max7, min7, giTr, giFa, gdp, litL, i2l, addL, mulL, divL, remL, cmLe, cmGt, cmGe, cmEq, eqL]
    · have cb' : ¬ inR (nI b) (S 0 0) := by
        rintro ⟨k, hk, e⟩
        have := (nI_eq (by omega) (by omega)).mp e
        omega
      refine no ?_ ?_
      · unfold fX6_turn
        simp (disch := (first | assumption | trivial | omega)) only [hs6n h cb', lit, neg1, oI_s, addN, mulN, subN, clN, gdN, ltN, leN, eqN, nIo, oIn, oI_eq, divN, remN, giT, giF, lzE, prE, bdE, smL, smR, shlN, shrN, hasE, andN, orN, bit1, bit0, max7, min7, giTr, giFa, gdp, litL, i2l, addL, mulL, divL, remL, cmLe, cmGt, cmGe, cmEq, eqL]
      · unfold fX7_turn fX7_canTurn
        rw [isB7n h cb']
        simp (disch := (first | assumption | trivial | omega)) only [lit, neg1, oI_s, addN, mulN, subN, clN, gdN, ltN, leN, eqN, nIo, oIn, oI_eq, divN, remN, giT, giF, lzE, prE, bdE, smL, smR, shlN, shrN, hasE, andN, orN, bit1, bit0, max7, min7, giTr, giFa, gdp, litL, i2l, addL, mulL, divL, remL, cmLe, cmGt, cmGe, cmEq, eqL]
  · -- day
    obtain ⟨r, C1, M1, J1, z6, z7, kV, hr, _, hm⟩ := pd_ok1 EARN_ok hV h (n := n) n2
    refine ⟨r, C1, M1, J1, ?_, ?_, kV, hr, hm⟩
    · unfold fX6_play
      simp (disch := (first | assumption | trivial | omega)) only [z6, lit, neg1, oI_s, addN, mulN, subN, clN, gdN, ltN, leN, eqN, nIo, oIn, oI_eq, divN, remN, giT, giF, lzE, prE, bdE, smL, smR, shlN, shrN, hasE, andN, orN, bit1, bit0, max7, min7, giTr, giFa, gdp, litL, i2l, addL, mulL, divL, remL, cmLe, cmGt, cmGe, cmEq, eqL]
    · unfold fX7_isPlayed
      simp (disch := (first | assumption | trivial | omega)) only [c7, d7, z7, lit, neg1, oI_s, addN, mulN, subN, clN, gdN, ltN, leN, eqN, nIo, oIn, oI_eq, divN, remN, giT, giF, lzE, prE, bdE, smL, smR, shlN, shrN, hasE, andN, orN, bit1, bit0, max7, min7, giTr, giFa, gdp, litL, i2l, addL, mulL, divL, remL, cmLe, cmGt, cmGe, cmEq, eqL]
  · -- a law: nothing
    refine ⟨nI 1, C, M, J, ?_, ?_, hV, Or.inr rfl, rfl⟩
    · unfold fX6_play
      have q2 : ¬ l = 2 := by omega
      have q3 : ¬ l = 3 := by omega
      have q4 : ¬ l = 4 := by omega
      have q5 : ¬ l = 5 := by omega
      have q6 : ¬ l = 6 := by omega
      have q7 : ¬ l = 7 := by omega
      have q8 : ¬ l = 8 := by omega
      have q9 : ¬ l = 9 := by omega
      simp (disch := (first | assumption | trivial | omega)) only [q2, q3, q4, q5, q6, q7, q8, q9, lit, neg1, oI_s, addN, mulN, subN, clN, gdN, ltN, leN, eqN, nIo, oIn, oI_eq, divN, remN, giT, giF, lzE, prE, bdE, smL, smR, shlN, shrN, hasE, andN, orN, bit1, bit0, max7, min7, giTr, giFa, gdp, litL, i2l, addL, mulL, divL, remL, cmLe, cmGt, cmGe, cmEq, eqL]
    · unfold fX7_isPlayed
      have q2 : ¬ l = 2 := by omega
      have q3 : ¬ l = 3 := by omega
      have q4 : ¬ l = 4 := by omega
      have q5 : ¬ l = 5 := by omega
      have q6 : ¬ l = 6 := by omega
      have q7 : ¬ l = 7 := by omega
      simp (disch := (first | assumption | trivial | omega)) only [c7, q2, q3, q4, q5, q6, q7, lit, neg1, oI_s, addN, mulN, subN, clN, gdN, ltN, leN, eqN, nIo, oIn, oI_eq, divN, remN, giT, giF, lzE, prE, bdE, smL, smR, shlN, shrN, hasE, andN, orN, bit1, bit0, max7, min7, giTr, giFa, gdp, litL, i2l, addL, mulL, divL, remL, cmLe, cmGt, cmGe, cmEq, eqL]
theorem case_12 : st_12 V0 := by
  intro a1 IC IM JM hV
  obtain ⟨S, h⟩ := view hV
  have bn := b_nb h
  rcases rng7 (x := a1) (n := S 0 1) (by omega) with ⟨c, i7⟩ | ⟨c, i7⟩
  · have i6 := isT6p h c
    obtain ⟨t, ht, rfl⟩ := c
    have ht4 : t < 4 := by omega
    obtain ⟨r6, r7, e6, e7, C, M, J, hW, hr⟩ := lp_2 (fun n k (a : gI × gI × gJ) => fX6_played_20 (296 + 8 * t) n (nI k) a.1) (fun n k (a : gI × gI × gJ) => fX7_played_21 n (nI t) (nI k) a.2.1 a.2.2) 24
      (fun k a => V0 a.1 a.2.1 a.2.2 ∧ a.2.1 1 1 = IM 1 1) (fun r6 r7 => ∃ C M J, V0 C M J ∧ ((∃ k, r6 = Sum.inl (nI k, C) ∧ r7 = Sum.inl (nI k, M, J)) ∨ (r6 = Sum.inr C ∧ r7 = Sum.inr (M, J))))
      (fun n a hP => by
        obtain ⟨C, M, J⟩ := a
        try dsimp only at hP ⊢
        obtain ⟨p1, p2⟩ := hP
        obtain ⟨S1, h1, t1⟩ := view2 p1
        have hnt : S1 0 1 = S 0 1 := by
          have q := v_nt7 h1
          rw [p2, v_nt7 h] at q
          have := b_nb h1
          exact ((nI_eq (by omega) (by omega)).mp q).symm
        obtain ⟨m, m1, m2, m3, _, _⟩ := t1 t (by omega)
        refine ⟨Sum.inr C, Sum.inr (M, J), ?_, ?_, C, M, J, p1, Or.inr ⟨rfl, rfl⟩⟩
        · rw [sX6_played_20, fX6_played_20b]
          simp (disch := (first | assumption | trivial | omega)) only [m2, m1, lit, neg1, oI_s, addN, mulN, subN, clN, gdN, ltN, leN, eqN, nIo, oIn, oI_eq, divN, remN, giT, giF, lzE, prE, bdE, smL, smR, shlN, shrN, hasE, andN, orN, bit1, bit0, max7, min7, giTr, giFa, gdp, litL, i2l, addL, mulL, divL, remL, cmLe, cmGt, cmGe, cmEq, eqL]
        · rw [sX7_played_21, fX7_played_21b]
          simp (disch := (first | assumption | trivial | omega)) only [m3, m1, lit, neg1, oI_s, addN, mulN, subN, clN, gdN, ltN, leN, eqN, nIo, oIn, oI_eq, divN, remN, giT, giF, lzE, prE, bdE, smL, smR, shlN, shrN, hasE, andN, orN, bit1, bit0, max7, min7, giTr, giFa, gdp, litL, i2l, addL, mulL, divL, remL, cmLe, cmGt, cmGe, cmEq, eqL])
      (fun n k a hk hP => by
        obtain ⟨C, M, J⟩ := a
        try dsimp only at hP ⊢
        obtain ⟨p1, p2⟩ := hP
        obtain ⟨S1, h1, t1⟩ := view2 p1
        have hnt : S1 0 1 = S 0 1 := by
          have q := v_nt7 h1
          rw [p2, v_nt7 h] at q
          have := b_nb h1
          exact ((nI_eq (by omega) (by omega)).mp q).symm
        obtain ⟨m, m1, m2, m3, m4, _⟩ := t1 t (by omega)
        by_cases cm : m ≤ k
        · left
          refine ⟨Sum.inr C, Sum.inr (M, J), ?_, ?_, C, M, J, p1, Or.inr ⟨rfl, rfl⟩⟩
          · rw [sX6_played_20, fX6_played_20b]
            simp (disch := (first | assumption | trivial | omega)) only [m2, cm, lit, neg1, oI_s, addN, mulN, subN, clN, gdN, ltN, leN, eqN, nIo, oIn, oI_eq, divN, remN, giT, giF, lzE, prE, bdE, smL, smR, shlN, shrN, hasE, andN, orN, bit1, bit0, max7, min7, giTr, giFa, gdp, litL, i2l, addL, mulL, divL, remL, cmLe, cmGt, cmGe, cmEq, eqL]
          · rw [sX7_played_21, fX7_played_21b]
            simp (disch := (first | assumption | trivial | omega)) only [m3, cm, lit, neg1, oI_s, addN, mulN, subN, clN, gdN, ltN, leN, eqN, nIo, oIn, oI_eq, divN, remN, giT, giF, lzE, prE, bdE, smL, smR, shlN, shrN, hasE, andN, orN, bit1, bit0, max7, min7, giTr, giFa, gdp, litL, i2l, addL, mulL, divL, remL, cmLe, cmGt, cmGe, cmEq, eqL]
        · have hc := m4 k (by omega)
          have e1 : 681 * t + (1 + 3 * k) = 681 * t + 1 + 3 * k := by omega
          have e2 : 681 * t + (2 + 3 * k) = 681 * t + 1 + 3 * k + 1 := by omega
          have e3 : 681 * t + (3 + 3 * k) = 681 * t + 1 + 3 * k + 2 := by omega
          rw [e1, e2, e3] at hc
          obtain ⟨r, C1, M1, J1, z6, z7, kV, hr, hm⟩ := py_ok p1 (by omega) hc
          rcases hr with rfl | rfl
          · left
            refine ⟨Sum.inl (nI k, C1), Sum.inl (nI k, M1, J1), ?_, ?_, C1, M1, J1, kV, Or.inl ⟨k, rfl, rfl⟩⟩
            · rw [sX6_played_20, fX6_played_20b]
              simp (disch := (first | assumption | trivial | omega)) only [m2, cm, z6, lit, neg1, oI_s, addN, mulN, subN, clN, gdN, ltN, leN, eqN, nIo, oIn, oI_eq, divN, remN, giT, giF, lzE, prE, bdE, smL, smR, shlN, shrN, hasE, andN, orN, bit1, bit0, max7, min7, giTr, giFa, gdp, litL, i2l, addL, mulL, divL, remL, cmLe, cmGt, cmGe, cmEq, eqL]
            · rw [sX7_played_21, fX7_played_21b]
              simp (disch := (first | assumption | trivial | omega)) only [m3, cm, z7, lit, neg1, oI_s, addN, mulN, subN, clN, gdN, ltN, leN, eqN, nIo, oIn, oI_eq, divN, remN, giT, giF, lzE, prE, bdE, smL, smR, shlN, shrN, hasE, andN, orN, bit1, bit0, max7, min7, giTr, giFa, gdp, litL, i2l, addL, mulL, divL, remL, cmLe, cmGt, cmGe, cmEq, eqL]
          · right
            refine ⟨(C1, M1, J1), ?_, ?_, kV, hm.trans p2⟩
            · rw [sX6_played_20, fX6_played_20b]
              simp (disch := (first | assumption | trivial | omega)) only [m2, cm, z6, lit, neg1, oI_s, addN, mulN, subN, clN, gdN, ltN, leN, eqN, nIo, oIn, oI_eq, divN, remN, giT, giF, lzE, prE, bdE, smL, smR, shlN, shrN, hasE, andN, orN, bit1, bit0, max7, min7, giTr, giFa, gdp, litL, i2l, addL, mulL, divL, remL, cmLe, cmGt, cmGe, cmEq, eqL]
            · rw [sX7_played_21, fX7_played_21b]
              simp (disch := (first | assumption | trivial | omega)) only [m3, cm, z7, lit, neg1, oI_s, addN, mulN, subN, clN, gdN, ltN, leN, eqN, nIo, oIn, oI_eq, divN, remN, giT, giF, lzE, prE, bdE, smL, smR, shlN, shrN, hasE, andN, orN, bit1, bit0, max7, min7, giTr, giFa, gdp, litL, i2l, addL, mulL, divL, remL, cmLe, cmGt, cmGe, cmEq, eqL]) 24 0 (IC, IM, JM) FU rfl ⟨hV, rfl⟩ (by show _ < 5000; omega)
    have e6' : fX6_played_20 (296 + 8 * t) FU 0 IC = some r6 := e6
    have e7' : fX7_played_21 FU (nI t) 0 IM JM = some r7 := e7
    have j7 : fX7_isIn (nI t) 0 ((IM 1 1) - 1) = nI 1 := by rw [v_nt7 h]; exact i7
    rcases hr with ⟨k, rfl, rfl⟩ | ⟨rfl, rfl⟩
    · refine ⟨nI k, C, M, J, ?_, ?_, hW⟩
      · unfold fX6_played
        rw [i6, gi_neg (show ¬ nI 1 = (0 : Int32) from one_ne), gdN (by omega) (by omega), clN (by omega), e6']
        rfl
      · unfold fX7_played
        rw [j7, gi_neg (show ¬ nI 1 = (0 : Int32) from one_ne), e7']
        rfl
    · refine ⟨-1, C, M, J, ?_, ?_, hW⟩
      · unfold fX6_played
        rw [i6, gi_neg (show ¬ nI 1 = (0 : Int32) from one_ne), gdN (by omega) (by omega), clN (by omega), e6']
        rfl
      · unfold fX7_played
        rw [j7, gi_neg (show ¬ nI 1 = (0 : Int32) from one_ne), e7']
        rfl
  · have j7 : fX7_isIn a1 0 ((IM 1 1) - 1) = nI 0 := by rw [v_nt7 h]; exact i7
    refine ⟨-2, IC, IM, JM, ?_, ?_, hV⟩
    · unfold fX6_played
      rw [isT6n h c, gi_pos (show nI 0 = (0 : Int32) from rfl)]
    · unfold fX7_played
      rw [j7, gi_pos (show nI 0 = (0 : Int32) from rfl)]
