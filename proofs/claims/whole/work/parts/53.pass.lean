-- 53: PURE PART: passing on (out of wip/whole/pure by pure.py)
section PS
variable {S : Nat → Nat → Nat} {IC IM : gI} {b : Nat}
theorem hs6p (h : sv S IC IM) (hn : b < S 0 0) (ho : ¬ S 12 b = 0) : fX6_hasSlices (nI b) IC = some (nI 1) := by
  have bn := b_nb h
  have hb6 : b < 6 := by omega
  have bo := b_ow h hb6
  unfold fX6_hasSlices
  rw [isB6p h (inR_nI hn)]
  simp (disch := (first | assumption | trivial | omega)) only [v_ow6 h, ho, lit, neg1, oI_s, addN, mulN, subN, clN, gdN, ltN, leN, eqN, nIo, oIn, oI_eq, divN, remN, giT, giF, lzE, prE, bdE, smL, smR, shlN, shrN, hasE, andN, orN, bit1, bit0, max7, min7, giTr, giFa, gdp, litL, i2l, addL, mulL, divL, remL, cmLe, cmGt, cmGe, cmEq, eqL]
theorem hs6z (h : sv S IC IM) (hn : b < S 0 0) (ho : S 12 b = 0) : fX6_hasSlices (nI b) IC = some (nI 0) := by
  have bn := b_nb h
  have hb6 : b < 6 := by omega
  unfold fX6_hasSlices
  rw [isB6p h (inR_nI hn)]
  simp (disch := (first | assumption | trivial | omega)) only [v_ow6 h, ho, lit, neg1, oI_s, addN, mulN, subN, clN, gdN, ltN, leN, eqN, nIo, oIn, oI_eq, divN, remN, giT, giF, lzE, prE, bdE, smL, smR, shlN, shrN, hasE, andN, orN, bit1, bit0, max7, min7, giTr, giFa, gdp, litL, i2l, addL, mulL, divL, remL, cmLe, cmGt, cmGe, cmEq, eqL]
theorem hs6n {x : Int32} (h : sv S IC IM) (hn : ¬ inR x (S 0 0)) : fX6_hasSlices x IC = some (nI 0) := by
  unfold fX6_hasSlices
  rw [isB6n h hn]
  simp (disch := (first | assumption | trivial | omega)) only [lit, neg1, oI_s, addN, mulN, subN, clN, gdN, ltN, leN, eqN, nIo, oIn, oI_eq, divN, remN, giT, giF, lzE, prE, bdE, smL, smR, shlN, shrN, hasE, andN, orN, bit1, bit0, max7, min7, giTr, giFa, gdp, litL, i2l, addL, mulL, divL, remL, cmLe, cmGt, cmGe, cmEq, eqL]
end PS
/-- a passing on, after the step -/
theorem pa_ok {S : Nat → Nat → Nat} {IC IM : gI} {JM : gJ} {b1 b2 p : Nat} (kV : V0 IC IM JM) (g : sv S IC IM) (h1 : b1 < S 0 0) (h2 : b2 < S 0 0) (hne : b1 ≠ b2) (ho2 : S 12 b2 = 0) (hsub : andn (S 12 b1) (sq S b2) = 0) (hp : p ≤ S 13 b2) (hp1 : p < 100) : ∃ IC' IM', (bd (fX5_writeDown 11 4 (nI b2) (nI p) (wI (wI (wI (wI IC 13 b2 (nI (S 12 b1))) 13 b1 (nI 0)) 12 b2 (nI (S 13 b2 - p))) 12 b1 (nI (min 999 (S 13 b1 + p))))) (fun I46 => some (nI p, I46))) = some (nI p, IC') ∧ (bd (fX7_pass_73 FU (nI b1) (nI b2) (nI p) 0 (wI (wI IM 1 (23 + b2) (nI (S 13 b2 - p))) 1 (23 + b1) (nI (min (S 13 b1 + p) 999)))) (fun (I51 : gI) => bd (fX7_write 4 (nI b2) (nI p) I51) (fun (I53 : gI) => some (nI p, I53, JM)))) = some (nI p, IM', JM) ∧ V0 IC' IM' JM := by
  have bn := b_nb g
  have bw := b_w g
  have q1 : b1 < 6 := by omega
  have q2 : b2 < 6 := by omega
  have bo1 := b_ow g q1
  have bo2 := b_ow g q2
  have bp1 := b_pu g q1
  have bp2 := b_pu g q2
  have hq := sq_lt g q2
  have ow1 := own_of kV g
  have hin : ∀ j, j < 12 → S 11 j = b1 + 1 → S 4 b2 ≤ j ∧ j ≤ S 5 b2 := fun j hj e => by
    have z := (bit_z (n := 12) (Nat.lt_of_le_of_lt andn_le bo1.1)).mp hsub j hj
    rw [andn_bit (by omega) (by omega), bo1.2 j hj, sq_bit g q2 hj] at z
    exact Decidable.byContradiction fun q => z ⟨e, q⟩
  have hno : ∀ j, j < 12 → ¬ S 11 j = b2 + 1 := fun j hj e => by
    have z := (bo2.2 j hj).mpr e
    rw [ho2, Nat.zero_testBit] at z
    exact absurd z (by decide)
  obtain ⟨M2, t1, t2, t3, t4, t5⟩ := lp_sl (fun n k a => fX7_pass_73 n (nI b1) (nI b2) (nI p) (nI k) a) 0 12 (fun j => if S 11 j = b1 + 1 then b2 + 1 else S 11 j) (S 11) (wI (wI IM 1 (23 + b2) (nI (S 13 b2 - p))) 1 (23 + b1) (nI (min (S 13 b1 + p) 999))) (fun j hj => by rw [wI_ne (by omega), wI_ne (by omega)]; exact v_sl7 g hj)
    (fun n a hP => by
      try dsimp only
      rw [sX7_pass_73, fX7_pass_73b]
      simp (disch := (first | assumption | trivial | omega)) only [lit, neg1, oI_s, addN, mulN, subN, clN, gdN, ltN, leN, eqN, nIo, oIn, oI_eq, divN, remN, giT, giF, lzE, prE, bdE, smL, smR, shlN, shrN, hasE, andN, orN, bit1, bit0, max7, min7, giTr, giFa, gdp, litL, i2l, addL, mulL, divL, remL, cmLe, cmGt, cmGe, cmEq, eqL])
    (fun n k a _ hk hP e => by
      try dsimp only
      have bk := b_sl g hk
      rw [sX7_pass_73, fX7_pass_73b]
      by_cases q : S 11 k = b1 + 1
      · left
        rw [if_pos q]
        simp (disch := (first | assumption | trivial | omega)) only [e, q, lit, neg1, oI_s, addN, mulN, subN, clN, gdN, ltN, leN, eqN, nIo, oIn, oI_eq, divN, remN, giT, giF, lzE, prE, bdE, smL, smR, shlN, shrN, hasE, andN, orN, bit1, bit0, max7, min7, giTr, giFa, gdp, litL, i2l, addL, mulL, divL, remL, cmLe, cmGt, cmGe, cmEq, eqL]
      · right
        rw [if_neg q]
        refine ⟨rfl, ?_⟩
        simp (disch := (first | assumption | trivial | omega)) only [e, q, lit, neg1, oI_s, addN, mulN, subN, clN, gdN, ltN, leN, eqN, nIo, oIn, oI_eq, divN, remN, giT, giF, lzE, prE, bdE, smL, smR, shlN, shrN, hasE, andN, orN, bit1, bit0, max7, min7, giTr, giFa, gdp, litL, i2l, addL, mulL, divL, remL, cmLe, cmGt, cmGe, cmEq, eqL]) (by omega) (by omega)
  try dsimp only at t1 t4
  have hM1 : ∀ k, k < 11 ∨ 23 ≤ k → k ≠ 23 + b1 → k ≠ 23 + b2 → M2 1 k = IM 1 k := fun k h1 h2 h3 => by
    rw [t3 k h1, wI_ne (by omega), wI_ne (by omega)]
  obtain ⟨IC3, IM3, w1, w2, w3⟩ := mutw (S := S) (IC2 := wI (wI (wI (wI IC 13 b2 (nI (S 12 b1))) 13 b1 (nI 0)) 12 b2 (nI (S 13 b2 - p))) 12 b1 (nI (min 999 (S 13 b1 + p)))) (IM2 := M2) JM kV g (S 10 0) (S 10 1) (S 10 2) (S 10 3) (S 10 5) (fun j => if S 11 j = b1 + 1 then b2 + 1 else S 11 j) (fun j => if j = b2 then S 12 b1 else if j = b1 then 0 else S 12 j) (fun j => if j = b2 then S 13 b2 - p else if j = b1 then min 999 (S 13 b1 + p) else S 13 j)
    ⟨bw.1, bw.2.1, bw.2.2.1, bw.2.2.2.1, bw.2.2.2.2.2⟩
    (by
      rw [hM1 6 (by omega) (by omega) (by omega), hM1 7 (by omega) (by omega) (by omega), hM1 8 (by omega) (by omega) (by omega), hM1 9 (by omega) (by omega) (by omega)]
      simp (disch := omega) only [wI_o]
      exact ⟨v_da7 g, v_da6 g, v_dx7 g, v_dx6 g, v_fu7 g, v_fu6 g, v_so7 g, v_so6 g, v_f6 g⟩)
    (fun j hj => by
      have bj := b_sl g hj
      refine ⟨?_, t4 j (by omega) hj, ?_⟩
      · try dsimp only
        by_cases q : S 11 j = b1 + 1
        · rw [if_pos q]; omega
        · rw [if_neg q]; exact bj.1
      · try dsimp only
        rw [bj.2]
        by_cases q : S 11 j = b1 + 1
        · rw [if_pos q]; omega
        · rw [if_neg q])
    (fun d hd => by
      have bd' := b_ow g hd
      try dsimp only
      by_cases e : d = b2
      · subst e
        rw [if_pos rfl, wI_o (by omega), wI_o (by omega), wI_ne (by omega), wI_eq]
        refine ⟨bo1.1, rfl, fun j hj => ?_⟩
        rw [bo1.2 j hj]
        by_cases q : S 11 j = b1 + 1
        · rw [if_pos q]; exact ⟨fun _ => rfl, fun _ => q⟩
        · rw [if_neg q]; exact ⟨fun z => absurd z q, fun z => absurd z (hno j hj)⟩
      · by_cases e1 : d = b1
        · subst e1
          rw [if_neg e, if_pos rfl, wI_o (by omega), wI_o (by omega), wI_eq]
          refine ⟨by omega, rfl, fun j hj => ?_⟩
          rw [Nat.zero_testBit]
          by_cases q : S 11 j = d + 1
          · rw [if_pos q]; exact ⟨fun z => absurd z (by decide), fun z => absurd z (by omega)⟩
          · rw [if_neg q]; exact ⟨fun z => absurd z (by decide), fun z => absurd z q⟩
        · rw [if_neg e, if_neg e1, wI_o (by omega), wI_o (by omega), wI_ne (by omega), wI_ne (by omega)]
          refine ⟨bd'.1, v_ow6 g hd, fun j hj => ?_⟩
          rw [bd'.2 j hj]
          by_cases q : S 11 j = b1 + 1
          · rw [if_pos q]; omega
          · rw [if_neg q])
    (fun d hd => by
      have bd' := b_pu g hd
      try dsimp only
      by_cases e : d = b2
      · subst e
        rw [if_pos rfl, t3 _ (by omega), wI_ne (by omega), wI_eq, wI_ne (by omega), wI_eq]
        exact ⟨by omega, rfl, rfl⟩
      · by_cases e1 : d = b1
        · subst e1
          rw [if_neg e, if_pos rfl, t3 _ (by omega), wI_eq, wI_eq, Nat.min_comm]
          exact ⟨by omega, rfl, rfl⟩
        · rw [if_neg e, if_neg e1, hM1 _ (by omega) (by omega) (by omega), wI_ne (by omega), wI_ne (by omega), wI_o (by omega), wI_o (by omega)]
          exact ⟨bd', v_pu7 g hd, v_pu6 g hd⟩)
    (fun j d hj hd e => by
      try dsimp only at e
      by_cases q : S 11 j = b1 + 1
      · rw [if_pos q] at e
        have : d = b2 := by omega
        subst this
        exact hin j hj q
      · rw [if_neg q] at e; exact ow1 j d hj hd e)
    (fun o h1 h2 h3 => by rw [wI_o h2, wI_o h2, wI_o h3, wI_o h3]) (by rw [wI_o (by omega), wI_o (by omega), wI_o (by omega), wI_o (by omega)]) (fun o h1 => by rw [t2 o h1, wI_o h1, wI_o h1]) (fun k hk => hM1 k (by omega) (by omega) (by omega)) (k := 4) (x := b2) (q := p) (by omega) (by omega) hp1
  refine ⟨IC3, IM3, ?_, ?_, w3⟩
  · rw [show (4 : Int32) = nI 4 from rfl, w1]
    rfl
  · rw [show (4 : Int32) = nI 4 from rfl, show (0 : Int32) = nI 0 from rfl, t1, bdE, w2]
    rfl
theorem case_10 (hB : BIDS) : st_10 V0 := by
  intro a1 a2 IC IM JM hV
  obtain ⟨S, bV, h, hb⟩ := view3 hB hV
  have hbn := hb _ _ h lik_rf
  have bn := b_nb h
  have bw := b_w h
  have hs5 : S 10 3 < 32 := by omega
  have no : (∃ I', fX6_pass a1 a2 IC = some (oI 0, I') ∧ fC IC I') → (∃ I' J', fX7_canPass a1 a2 IM JM = some (0, I', J') ∧ fM IM I') → ∃ (r : Int32) (IC' : gI) (IM' : gI) (JM' : gJ), fX6_pass a1 a2 IC = some (r, IC') ∧ fX7_pass a1 a2 IM JM = some (r, IM', JM') ∧ V0 IC' IM' JM' := by
    rintro ⟨C1, e6, f6⟩ ⟨M1, J1, e7, f7⟩
    refine ⟨oI 0, C1, M1, J1, e6, ?_, V0_f hV f6 f7⟩
    unfold fX7_pass
    rw [e7, bdE, prE, prE, gi_pos rfl]
    rfl
  by_cases c1 : inR a1 (S 0 0)
  · by_cases c2 : inR a2 (S 0 0)
    · have i61 := isB6p h c1
      have i71 := isB7p h c1
      have i62 := isB6p h c2
      have i72 := isB7p h c2
      obtain ⟨b1, h1, rfl⟩ := c1
      obtain ⟨b2, h2, rfl⟩ := c2
      have q1 : b1 < 6 := by omega
      have q2 : b2 < 6 := by omega
      have bo1 := b_ow h q1
      have bo2 := b_ow h q2
      by_cases o1 : S 12 b1 = 0
      · refine no ⟨IC, ?_, fC_rf⟩ ⟨IM, JM, ?_, fM_rf⟩
        · unfold fX6_pass
          rw [hs6z h h1 o1]
          simp (disch := (first | assumption | trivial | omega)) only [lit, neg1, oI_s, addN, mulN, subN, clN, gdN, ltN, leN, eqN, nIo, oIn, oI_eq, divN, remN, giT, giF, lzE, prE, bdE, smL, smR, shlN, shrN, hasE, andN, orN, bit1, bit0, max7, min7, giTr, giFa, gdp, litL, i2l, addL, mulL, divL, remL, cmLe, cmGt, cmGe, cmEq, eqL]
        · unfold fX7_canPass
          rw [i71, i72]
          simp (disch := (first | assumption | trivial | omega)) only [on7 h, o1, lit, neg1, oI_s, addN, mulN, subN, clN, gdN, ltN, leN, eqN, nIo, oIn, oI_eq, divN, remN, giT, giF, lzE, prE, bdE, smL, smR, shlN, shrN, hasE, andN, orN, bit1, bit0, max7, min7, giTr, giFa, gdp, litL, i2l, addL, mulL, divL, remL, cmLe, cmGt, cmGe, cmEq, eqL]
      · by_cases o2 : S 12 b2 = 0
        · have hne : b1 ≠ b2 := fun e => o1 (by rw [e]; exact o2)
          have hq := sq_lt h q2
          by_cases w : (S 3 b2).testBit (S 10 3) = true
          · have hal : andn (S 12 b1) (sq S b2) < 4096 := Nat.lt_of_le_of_lt andn_le bo1.1
            by_cases cc : andn (S 12 b1) (sq S b2) = 0
            · have cc' : S 12 b1 &&& (4294967295 - sq S b2) = 0 := cc
              obtain ⟨C1, e1, f1⟩ := bn6 h hbn h1
              have g1 := sv_f h f1 (fM_rf (I := IM))
              obtain ⟨C2, e2, f2⟩ := bn6 g1 (hb _ _ g1 (lik_f f1 fM_rf)) h2
              have v1 := bnw_lt h hbn h1
              have v2 := bnw_lt h hbn h2
              obtain ⟨M1, J1, d1, r1⟩ := bn7 h hbn h2 JM
              have g2 := sv_f h (fC_rf (I := IC)) r1
              obtain ⟨M2, J2, d2, r2⟩ := bn7 g2 (hb _ _ g2 (lik_f fC_rf r1)) h1 J1
              have g3 := sv_f g2 (fC_rf (I := IC)) r2
              obtain ⟨M3, J3, d3, r3⟩ := bn7 g3 (hb _ _ g3 (lik_f fC_rf (fM_tr r1 r2))) h1 J2
              have g4 := sv_f g3 (fC_rf (I := IC)) r3
              obtain ⟨M4, J4, d4, r4⟩ := bn7 g4 (hb _ _ g4 (lik_f fC_rf (fM_tr (fM_tr r1 r2) r3))) h2 J3
              have e12 : C2 12 b2 = nI (S 13 b2) := v_pu6 (sv_f g1 f2 (fM_rf (I := IM))) q2
              have e23 : M2 1 (23 + b2) = nI (S 13 b2) := v_pu7 g3 q2
              have bp2 := b_pu h q2
              by_cases cv : bnw S bV b1 < bnw S bV b2
              · by_cases cp : (bnw S bV b1 + bnw S bV b2) / 2 ≤ S 13 b2
                · have f12 := fC_tr f1 f2
                  have r14 := fM_tr (fM_tr (fM_tr r1 r2) r3) r4
                  have cp2 : ¬ S 13 b2 < (bnw S bV b2 + bnw S bV b1) / 2 := by rw [Nat.add_comm]; omega
                  have cp3 : ¬ S 13 b2 < (bnw S bV b1 + bnw S bV b2) / 2 := by omega
                  obtain ⟨C3, M5, k1, k2, kV, kC, kC1, kM, kM1⟩ := keep (V0_f (JM' := J4) hV f12 r14)
                  have g5 := sv_kp (sv_f h f12 r14) kC kC1 kM1
                  have lk5 : lik IC IM C3 M5 := lik_tr (lik_f f12 r14) ⟨fun o ho => kC o (by omega) (by omega), kM 3 (by omega)⟩
                  obtain ⟨M6, J6, d6, r6⟩ := bn7 g5 (hb _ _ g5 lk5) h1 J4
                  have g6 := sv_f g5 (fC_rf (I := C3)) r6
                  obtain ⟨M7, J7, d7, r7⟩ := bn7 g6 (hb _ _ g6 (lik_tr lk5 (lik_f fC_rf r6))) h2 J6
                  have g7 := sv_f g6 (fC_rf (I := C3)) r7
                  obtain ⟨C8, M8, p1, p2, p3⟩ := pa_ok (p := (bnw S bV b1 + bnw S bV b2) / 2) (V0_f (JM' := J7) kV fC_rf (fM_tr r6 r7)) g7 h1 h2 hne o2 cc cp (by omega)
                  have bp1 := b_pu h q1
                  have e1' : C3 12 b1 = nI (S 13 b1) := v_pu6 g5 q1
                  have e2' : C3 12 b2 = nI (S 13 b2) := v_pu6 g5 q2
                  have e3' : M7 1 (23 + b1) = nI (S 13 b1) := v_pu7 g7 q1
                  have e4' : M7 1 (23 + b2) = nI (S 13 b2) := v_pu7 g7 q2
                  refine ⟨nI ((bnw S bV b1 + bnw S bV b2) / 2), C8, M8, J7, ?_, ?_, p3⟩
                  · unfold fX6_pass
                    rw [hs6p h h1 o1, hs6z h h2 o2, i62, v_so6 h, ws6p h q2 hs5 w]
                    generalize bnw S bV b1 = x1 at *
                    generalize bnw S bV b2 = x2 at *
                    have cv2 : ¬ x2 ≤ x1 := by omega
                    simp (disch := (first | assumption | trivial | omega)) only [lit, eqN, giF, bdE, clN, gdN, lzE, sl6 h, v_ow6 h, notN', neg1, andN, cc', giT, giTr, giFa, e1, e2, prE, leN, cv2, addN, divN, e12, cp, k1, wI_o, wI_ne, wI_eq, e1', e2', subN, min7]
                    exact p1
                  · unfold fX7_pass fX7_canPass
                    rw [i71, i72, v_so7 h, dw7p h q2 hs5 w]
                    generalize bnw S bV b1 = x1 at *
                    generalize bnw S bV b2 = x2 at *
                    simp (disch := (first | assumption | trivial | omega)) only [lit, eqN, giF, bdE, clN, gdN, lzE, on7 h, o1, o2, sl7 h, notN', neg1, andN, cc', giT, giTr, giFa, d1, d2, d3, d4, prE, ltN, cv, addN, divN, e23, cp3, k2, d6, d7, wI_o, wI_ne, wI_eq, e3', e4', subN, i2l, heldL]
                    exact p2
                · have cp3 : S 13 b2 < (bnw S bV b1 + bnw S bV b2) / 2 := by omega
                  refine no ⟨C2, ?_, fC_tr f1 f2⟩ ⟨M4, J4, ?_, fM_tr (fM_tr (fM_tr r1 r2) r3) r4⟩
                  · unfold fX6_pass
                    rw [hs6p h h1 o1, hs6z h h2 o2, i62, v_so6 h, ws6p h q2 hs5 w]
                    generalize bnw S bV b1 = x1 at *
                    generalize bnw S bV b2 = x2 at *
                    have cv2 : ¬ x2 ≤ x1 := by omega
                    simp (disch := (first | assumption | trivial | omega)) only [sl6 h, v_ow6 h, notN', cc', e1, e2, cv2, e12, cp, lit, neg1, oI_s, addN, mulN, subN, clN, gdN, ltN, leN, eqN, nIo, oIn, oI_eq, divN, remN, giT, giF, lzE, prE, bdE, smL, smR, shlN, shrN, hasE, andN, orN, bit1, bit0, max7, min7, giTr, giFa, gdp, litL, i2l, addL, mulL, divL, remL, cmLe, cmGt, cmGe, cmEq, eqL]
                  · unfold fX7_canPass
                    rw [i71, i72, v_so7 h, dw7p h q2 hs5 w]
                    generalize bnw S bV b1 = x1 at *
                    generalize bnw S bV b2 = x2 at *
                    simp (disch := (first | assumption | trivial | omega)) only [on7 h, o1, o2, sl7 h, notN', cc', d1, d2, d3, d4, cv, e23, cp3, lit, neg1, oI_s, addN, mulN, subN, clN, gdN, ltN, leN, eqN, nIo, oIn, oI_eq, divN, remN, giT, giF, lzE, prE, bdE, smL, smR, shlN, shrN, hasE, andN, orN, bit1, bit0, max7, min7, giTr, giFa, gdp, litL, i2l, addL, mulL, divL, remL, cmLe, cmGt, cmGe, cmEq, eqL]
              · refine no ⟨C2, ?_, fC_tr f1 f2⟩ ⟨M2, J2, ?_, fM_tr r1 r2⟩
                · unfold fX6_pass
                  rw [hs6p h h1 o1, hs6z h h2 o2, i62, v_so6 h, ws6p h q2 hs5 w]
                  generalize bnw S bV b1 = x1 at *
                  generalize bnw S bV b2 = x2 at *
                  have cv2 : x2 ≤ x1 := by omega
                  simp (disch := (first | assumption | trivial | omega)) only [sl6 h, v_ow6 h, notN', cc', e1, e2, cv2, lit, neg1, oI_s, addN, mulN, subN, clN, gdN, ltN, leN, eqN, nIo, oIn, oI_eq, divN, remN, giT, giF, lzE, prE, bdE, smL, smR, shlN, shrN, hasE, andN, orN, bit1, bit0, max7, min7, giTr, giFa, gdp, litL, i2l, addL, mulL, divL, remL, cmLe, cmGt, cmGe, cmEq, eqL]
                · unfold fX7_canPass
                  rw [i71, i72, v_so7 h, dw7p h q2 hs5 w]
                  generalize bnw S bV b1 = x1 at *
                  generalize bnw S bV b2 = x2 at *
                  simp (disch := (first | assumption | trivial | omega)) only [on7 h, o1, o2, sl7 h, notN', cc', d1, d2, cv, lit, neg1, oI_s, addN, mulN, subN, clN, gdN, ltN, leN, eqN, nIo, oIn, oI_eq, divN, remN, giT, giF, lzE, prE, bdE, smL, smR, shlN, shrN, hasE, andN, orN, bit1, bit0, max7, min7, giTr, giFa, gdp, litL, i2l, addL, mulL, divL, remL, cmLe, cmGt, cmGe, cmEq, eqL]
            · have cc' : ¬ S 12 b1 &&& (4294967295 - sq S b2) = 0 := cc
              have hal' : S 12 b1 &&& (4294967295 - sq S b2) < 4096 := hal
              refine no ⟨IC, ?_, fC_rf⟩ ⟨IM, JM, ?_, fM_rf⟩
              · unfold fX6_pass
                rw [hs6p h h1 o1, hs6z h h2 o2, i62, v_so6 h, ws6p h q2 hs5 w]
                simp (disch := (first | assumption | trivial | omega)) only [sl6 h, v_ow6 h, notN', cc', lit, neg1, oI_s, addN, mulN, subN, clN, gdN, ltN, leN, eqN, nIo, oIn, oI_eq, divN, remN, giT, giF, lzE, prE, bdE, smL, smR, shlN, shrN, hasE, andN, orN, bit1, bit0, max7, min7, giTr, giFa, gdp, litL, i2l, addL, mulL, divL, remL, cmLe, cmGt, cmGe, cmEq, eqL]
              · unfold fX7_canPass
                rw [i71, i72, v_so7 h, dw7p h q2 hs5 w]
                simp (disch := (first | assumption | trivial | omega)) only [on7 h, o1, o2, sl7 h, notN', cc', lit, neg1, oI_s, addN, mulN, subN, clN, gdN, ltN, leN, eqN, nIo, oIn, oI_eq, divN, remN, giT, giF, lzE, prE, bdE, smL, smR, shlN, shrN, hasE, andN, orN, bit1, bit0, max7, min7, giTr, giFa, gdp, litL, i2l, addL, mulL, divL, remL, cmLe, cmGt, cmGe, cmEq, eqL]
          · refine no ⟨IC, ?_, fC_rf⟩ ⟨IM, JM, ?_, fM_rf⟩
            · unfold fX6_pass
              rw [hs6p h h1 o1, hs6z h h2 o2, i62, v_so6 h, ws6n h q2 hs5 w]
              simp (disch := (first | assumption | trivial | omega)) only [v_ow6 h, lit, neg1, oI_s, addN, mulN, subN, clN, gdN, ltN, leN, eqN, nIo, oIn, oI_eq, divN, remN, giT, giF, lzE, prE, bdE, smL, smR, shlN, shrN, hasE, andN, orN, bit1, bit0, max7, min7, giTr, giFa, gdp, litL, i2l, addL, mulL, divL, remL, cmLe, cmGt, cmGe, cmEq, eqL]
            · unfold fX7_canPass
              rw [i71, i72, v_so7 h, dw7n h q2 hs5 w]
              simp (disch := (first | assumption | trivial | omega)) only [on7 h, o1, o2, lit, neg1, oI_s, addN, mulN, subN, clN, gdN, ltN, leN, eqN, nIo, oIn, oI_eq, divN, remN, giT, giF, lzE, prE, bdE, smL, smR, shlN, shrN, hasE, andN, orN, bit1, bit0, max7, min7, giTr, giFa, gdp, litL, i2l, addL, mulL, divL, remL, cmLe, cmGt, cmGe, cmEq, eqL]
        · refine no ⟨IC, ?_, fC_rf⟩ ⟨IM, JM, ?_, fM_rf⟩
          · unfold fX6_pass
            rw [hs6p h h1 o1, hs6p h h2 o2, i62]
            simp (disch := (first | assumption | trivial | omega)) only [lit, neg1, oI_s, addN, mulN, subN, clN, gdN, ltN, leN, eqN, nIo, oIn, oI_eq, divN, remN, giT, giF, lzE, prE, bdE, smL, smR, shlN, shrN, hasE, andN, orN, bit1, bit0, max7, min7, giTr, giFa, gdp, litL, i2l, addL, mulL, divL, remL, cmLe, cmGt, cmGe, cmEq, eqL]
          · unfold fX7_canPass
            rw [i71, i72]
            simp (disch := (first | assumption | trivial | omega)) only [on7 h, o1, o2, lit, neg1, oI_s, addN, mulN, subN, clN, gdN, ltN, leN, eqN, nIo, oIn, oI_eq, divN, remN, giT, giF, lzE, prE, bdE, smL, smR, shlN, shrN, hasE, andN, orN, bit1, bit0, max7, min7, giTr, giFa, gdp, litL, i2l, addL, mulL, divL, remL, cmLe, cmGt, cmGe, cmEq, eqL]
    · refine no ⟨IC, ?_, fC_rf⟩ ⟨IM, JM, ?_, fM_rf⟩
      · have i62 := isB6n h c2
        obtain ⟨b1, h1, rfl⟩ := c1
        unfold fX6_pass
        by_cases o1 : S 12 b1 = 0
        · rw [hs6z h h1 o1]
          simp (disch := (first | assumption | trivial | omega)) only [lit, neg1, oI_s, addN, mulN, subN, clN, gdN, ltN, leN, eqN, nIo, oIn, oI_eq, divN, remN, giT, giF, lzE, prE, bdE, smL, smR, shlN, shrN, hasE, andN, orN, bit1, bit0, max7, min7, giTr, giFa, gdp, litL, i2l, addL, mulL, divL, remL, cmLe, cmGt, cmGe, cmEq, eqL]
        · rw [hs6p h h1 o1, i62]
          simp (disch := (first | assumption | trivial | omega)) only [lit, neg1, oI_s, addN, mulN, subN, clN, gdN, ltN, leN, eqN, nIo, oIn, oI_eq, divN, remN, giT, giF, lzE, prE, bdE, smL, smR, shlN, shrN, hasE, andN, orN, bit1, bit0, max7, min7, giTr, giFa, gdp, litL, i2l, addL, mulL, divL, remL, cmLe, cmGt, cmGe, cmEq, eqL]
      · unfold fX7_canPass
        rw [isB7p h c1, isB7n h c2]
        simp (disch := (first | assumption | trivial | omega)) only [lit, neg1, oI_s, addN, mulN, subN, clN, gdN, ltN, leN, eqN, nIo, oIn, oI_eq, divN, remN, giT, giF, lzE, prE, bdE, smL, smR, shlN, shrN, hasE, andN, orN, bit1, bit0, max7, min7, giTr, giFa, gdp, litL, i2l, addL, mulL, divL, remL, cmLe, cmGt, cmGe, cmEq, eqL]
  · refine no ⟨IC, ?_, fC_rf⟩ ⟨IM, JM, ?_, fM_rf⟩
    · unfold fX6_pass
      rw [hs6n h c1]
      simp (disch := (first | assumption | trivial | omega)) only [lit, neg1, oI_s, addN, mulN, subN, clN, gdN, ltN, leN, eqN, nIo, oIn, oI_eq, divN, remN, giT, giF, lzE, prE, bdE, smL, smR, shlN, shrN, hasE, andN, orN, bit1, bit0, max7, min7, giTr, giFa, gdp, litL, i2l, addL, mulL, divL, remL, cmLe, cmGt, cmGe, cmEq, eqL]
    · unfold fX7_canPass
      rw [isB7n h c1]
      simp (disch := (first | assumption | trivial | omega)) only [lit, neg1, oI_s, addN, mulN, subN, clN, gdN, ltN, leN, eqN, nIo, oIn, oI_eq, divN, remN, giT, giF, lzE, prE, bdE, smL, smR, shlN, shrN, hasE, andN, orN, bit1, bit0, max7, min7, giTr, giFa, gdp, litL, i2l, addL, mulL, divL, remL, cmLe, cmGt, cmGe, cmEq, eqL]
