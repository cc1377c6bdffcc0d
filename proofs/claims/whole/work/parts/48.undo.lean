-- 48: PURE PART: a buyer more, a step back (out of wip/whole/pure by pure.py)
theorem rWall_up {IC IC' : gI} {w w' m nb : Nat} {d d' bk bk' : Nat → Int32} (h : rWall IC w m d bk) (hm : m ≤ nb) (hnb : nb ≤ 6) (h0 : ∀ k, 3 ≤ k → k < 9 → IC' w' k = IC w k) (h3 : ∀ k, k < 25 → IC' (w' + 3) k = IC (w + 3) k) (hd : ∀ k, k < 17 → d' k = d k) (hb : ∀ k, k < 25 → bk' k = bk k) (ho : ∀ b, b < m ∨ nb ≤ b → b < 6 → d' (17 + b) = d (17 + b) ∧ IC' (w' + 1) b = IC (w + 1) b ∧ IC' (w' + 2) b = IC (w + 2) b) (hn : ∀ b, m ≤ b → b < nb → inR (d' (17 + b)) 1000 ∧ IC' (w' + 1) b = d' (17 + b) ∧ IC' (w' + 2) b = nI 0) : rWall IC' w' nb d' bk' := by
  obtain ⟨⟨a0, a1, a2, a3, a4⟩, ⟨b0, b1, b2, b3, b4⟩, c, ⟨f, f1, f2, f3⟩, o, q, ln⟩ := h
  refine ⟨⟨?_, ?_, ?_, ?_, ?_⟩, ⟨?_, ?_, ?_, ?_, ?_⟩, fun s hs => ?_, ⟨f, f1, by rw [h0 4 (by omega) (by omega)]; exact f2, fun s hs => by rw [hd _ (by omega)]; exact f3 s hs⟩, fun b hb2 => ?_, fun b hb2 => ?_, fun i n hn hi hn2 => ?_⟩
  · rw [hd _ (by omega)]; exact a0
  · rw [hd _ (by omega)]; exact a1
  · rw [hd _ (by omega)]; exact a2
  · rw [hd _ (by omega)]; exact a3
  · rw [hd _ (by omega)]; exact a4
  · rw [h0 _ (by omega) (by omega), hd _ (by omega)]; exact b0
  · rw [h0 _ (by omega) (by omega), hd _ (by omega)]; exact b1
  · rw [h0 _ (by omega) (by omega), hd _ (by omega)]; exact b2
  · rw [h0 _ (by omega) (by omega), hd _ (by omega)]; exact b3
  · rw [h0 _ (by omega) (by omega), hd _ (by omega)]; exact b4
  · rw [hd _ (by omega)]
    rcases c s hs with x | ⟨x, x1, x2⟩
    · exact Or.inl x
    · exact Or.inr ⟨x, by omega, x2⟩
  · by_cases e : m ≤ b ∧ b < nb
    · obtain ⟨_, _, g3⟩ := hn b e.1 e.2
      refine ⟨0, by omega, g3, fun s hs => ?_⟩
      rw [Nat.zero_testBit, hd _ (by omega)]
      refine ⟨fun q => absurd q (by decide), fun q => ?_⟩
      rcases c s hs with x | ⟨x, x1, x2⟩
      · rw [x] at q
        exact absurd q.symm (nI_none (by omega))
      · rw [x2] at q
        have := (nI_eq (by omega) (by omega)).mp q
        omega
    · obtain ⟨o1, o2, o3, o4⟩ := o b hb2
      obtain ⟨_, _, g3⟩ := ho b (by omega) hb2
      exact ⟨o1, o2, by rw [g3]; exact o3, fun s hs => by rw [hd _ (by omega)]; exact o4 s hs⟩
  · by_cases e : m ≤ b ∧ b < nb
    · obtain ⟨g1, g2, _⟩ := hn b e.1 e.2
      exact ⟨g1, g2⟩
    · obtain ⟨g1, g2, _⟩ := ho b (by omega) hb2
      rw [g1, g2]; exact q b hb2
  · rw [hd _ (by omega)] at hn
    rw [h3 _ (by omega), hb _ (by omega)]
    exact ln i n hn hi hn2
theorem rPaid_up {IC : gI} {p nb : Nat} {a : Nat → Int32} (h : rPaid IC p a nb) : rPaid IC p a (nb + 1) := by
  obtain ⟨t, d, u1, u2, u3, u4, u5, u6⟩ := h
  refine ⟨t, d, u1, u2, u3, u4, u5, fun b hb => ?_⟩
  rcases u6 b hb with x | ⟨x0, x⟩ | ⟨x0, x⟩
  · exact Or.inl x
  · exact Or.inr (Or.inl ⟨by omega, x⟩)
  · exact Or.inr (Or.inr ⟨by omega, x⟩)
theorem rSaid_up {IC : gI} {p nb : Nat} {a : Nat → Int32} (h : rSaid IC p a nb) : rSaid IC p a (nb + 1) := by
  obtain ⟨n, u1, u2, u3, u4⟩ := h
  refine ⟨n, u1, u2, u3, fun i hi => ?_⟩
  obtain ⟨x1, x2⟩ := u4 i hi
  exact ⟨inR_mono x1 (by omega), x2⟩
theorem rSteps_up {IC : gI} {p nb : Nat} {a : Nat → Int32} (h : rSteps IC p a nb) : rSteps IC p a (nb + 1) := by
  obtain ⟨ns, e, u1, u2, u3, u4, u5, u6⟩ := h
  refine ⟨ns, e, u1, u2, u3, u4, u5, fun i hi => ?_⟩
  obtain ⟨m, m1, x⟩ := u6 i hi
  exact ⟨m, by omega, x⟩
theorem case_1 : st_1 V0 := by
  intro a1 a2 a3 a4 IC IM JM hV
  have hV' := hV
  obtain ⟨S, h⟩ := view hV
  have bn := b_nb h
  have e6 := v_nb6 h
  have e7 := v_nb7 h
  by_cases c1 : inR a1 32
  · have i7 : fX7_isIn a1 0 31 = nI 1 := isIn_pos (lo := 0) (hi := 31) (n := 31) (by decide) rfl rfl c1
    have i6 : fX6_within a1 0 31 = nI 1 := i7
    by_cases c2 : ∃ f t, f ≤ t ∧ t < 12 ∧ a2 = nI f ∧ a3 = nI t
    · obtain ⟨f, t, hf, ht, rfl, rfl⟩ := c2
      obtain ⟨r7, r6⟩ := isRun7p hf ht
      by_cases c4 : inR a4 1000
      · have j7 : fX7_isIn a4 0 999 = nI 1 := isIn_pos (lo := 0) (hi := 999) (n := 999) (by decide) rfl rfl c4
        have j6 : fX6_within a4 0 999 = nI 1 := j7
        by_cases c5 : S 0 0 = 6
        · refine ⟨-1, IC, IM, ?_, ?_, hV'⟩
          · unfold fX6_buyer
            rw [i6, r6, j6]
            simp (disch := (first | assumption | trivial | omega)) only [e6, c5, lit, neg1, oI_s, addN, mulN, subN, clN, gdN, ltN, leN, eqN, nIo, oIn, oI_eq, divN, remN, giT, giF, lzE, prE, bdE, smL, smR, shlN, shrN, hasE, andN, orN, bit1, bit0, max7, min7, giTr, giFa, gdp, litL, i2l, addL, mulL, divL, remL, cmLe, cmGt, cmGe, cmEq, eqL]
          · unfold fX7_buyer
            rw [i7, r7, j7]
            simp (disch := (first | assumption | trivial | omega)) only [e7, c5, lit, neg1, oI_s, addN, mulN, subN, clN, gdN, ltN, leN, eqN, nIo, oIn, oI_eq, divN, remN, giT, giF, lzE, prE, bdE, smL, smR, shlN, shrN, hasE, andN, orN, bit1, bit0, max7, min7, giTr, giFa, gdp, litL, i2l, addL, mulL, divL, remL, cmLe, cmGt, cmGe, cmEq, eqL]
        · obtain ⟨x, hx, rfl⟩ := c1
          obtain ⟨y, hy, rfl⟩ := c4
          obtain ⟨nb, nt, mb, mt, h1, ⟨p1, p2, p3, p4, p5, p6, p7, p8, p9⟩, h3, h4, h5⟩ := hV
          obtain ⟨n1, n2⟩ := nb_of h p1
          have hnb : nb < 6 := by have := p1.1; omega
          refine ⟨nI nb, wI (wI (wI (wI (wI (wI (wI IC 1 12 (nI (nb + 1))) 4 nb (nI x)) 5 nb (nI f)) 6 nb (nI t)) 7 nb (nI y)) 12 nb (nI y)) 13 nb (nI 0), wI (wI (wI (wI (wI (wI IM 1 (39 + nb) (nI x)) 1 (45 + nb) (nI f)) 1 (51 + nb) (nI t)) 1 (57 + nb) (nI y)) 1 (23 + nb) (nI y)) 1 0 (nI (nb + 1)), ?_, ?_, ?_⟩
          · unfold fX6_buyer
            rw [i6, r6, j6]
            rw [n1] at e6
            simp (disch := (first | assumption | trivial | omega)) only [e6, lit, neg1, oI_s, addN, mulN, subN, clN, gdN, ltN, leN, eqN, nIo, oIn, oI_eq, divN, remN, giT, giF, lzE, prE, bdE, smL, smR, shlN, shrN, hasE, andN, orN, bit1, bit0, max7, min7, giTr, giFa, gdp, litL, i2l, addL, mulL, divL, remL, cmLe, cmGt, cmGe, cmEq, eqL]
          · unfold fX7_buyer
            rw [i7, r7, j7]
            rw [n1] at e7
            simp (disch := (first | assumption | trivial | omega)) only [e7, wI_ne, lit, neg1, oI_s, addN, mulN, subN, clN, gdN, ltN, leN, eqN, nIo, oIn, oI_eq, divN, remN, giT, giF, lzE, prE, bdE, smL, smR, shlN, shrN, hasE, andN, orN, bit1, bit0, max7, min7, giTr, giFa, gdp, litL, i2l, addL, mulL, divL, remL, cmLe, cmGt, cmGe, cmEq, eqL]
          · refine ⟨nb+1, nt, mb, mt, h1, ⟨?_, ?_, ?_, rOdds_congr p4 (by first | rfl | simp (disch := omega) only [wI_ne, wI_o]) (by first | rfl | simp (disch := omega) only [wI_ne, wI_o]) (fun _ _ _ => by first | rfl | simp (disch := omega) only [wI_ne, wI_o]), ?_, rVals_congr p6 (by first | rfl | simp (disch := omega) only [wI_ne, wI_o]) (fun _ _ _ => by first | rfl | simp (disch := omega) only [wI_ne, wI_o]), ?_, ?_, ?_⟩, rPort_congr h3 (fun _ _ _ => by first | rfl | simp (disch := omega) only [wI_ne, wI_o]) (by first | rfl | simp (disch := omega) only [wI_ne, wI_o]), rTape_congr h4 (by first | rfl | simp (disch := omega) only [wI_ne, wI_o]) (by first | rfl | simp (disch := omega) only [wI_ne, wI_o]) (by first | rfl | simp (disch := omega) only [wI_ne, wI_o]) ⟨by first | rfl | simp (disch := omega) only [wI_ne, wI_o], by first | rfl | simp (disch := omega) only [wI_ne, wI_o], by first | rfl | simp (disch := omega) only [wI_ne, wI_o], by first | rfl | simp (disch := omega) only [wI_ne, wI_o]⟩, fun t ht => rText_congr (h5 t ht) (fun _ _ => by first | rfl | simp (disch := omega) only [wI_ne, wI_o]) (fun _ _ => by first | rfl | simp (disch := omega) only [wI_ne, wI_o])⟩
            · obtain ⟨x1, x2, x3, x4, x5, x6, x7, x8⟩ := p1
              refine ⟨by omega, x2, wI_eq, ?_, ?_, ?_, ?_, ?_⟩
              · simp (disch := omega) only [wI_o, wI_eq]
              · rw [wI_ne (by omega), wI_ne (by omega), wI_ne (by omega), wI_ne (by omega), wI_ne (by omega), wI_ne (by omega)]; exact x5
              · simp (disch := omega) only [wI_o, wI_ne]; exact x6
              · simp (disch := omega) only [wI_o, wI_ne]; exact x7
              · simp (disch := omega) only [wI_o, wI_ne]; exact x8
            · exact rPaid_up (rPaid_congr p2 ⟨by first | rfl | simp (disch := omega) only [wI_ne, wI_o], by first | rfl | simp (disch := omega) only [wI_ne, wI_o]⟩ (by first | rfl | simp (disch := omega) only [wI_ne, wI_o]) (fun _ _ _ => by first | rfl | simp (disch := omega) only [wI_ne, wI_o]))
            · exact rSaid_up (rSaid_congr p3 (by first | rfl | simp (disch := omega) only [wI_ne, wI_o]) (by first | rfl | simp (disch := omega) only [wI_ne, wI_o]) (by first | rfl | simp (disch := omega) only [wI_ne, wI_o]) (by first | rfl | simp (disch := omega) only [wI_ne, wI_o]) (fun _ _ _ => by first | rfl | simp (disch := omega) only [wI_ne, wI_o]))
            · intro b hb
              obtain ⟨q1, q2, q3, q4, q5, q6, q7⟩ := p5 b hb
              by_cases e : b = nb
              · subst e
                simp (disch := omega) only [wI_ne, wI_eq, wI_o]
                exact ⟨inR_nI hx, ⟨f, t, hf, ht, rfl, rfl⟩, inR_nI hy, trivial, trivial, trivial, trivial⟩
              · simp (disch := omega) only [wI_ne, wI_o]
                exact ⟨q1, q2, q3, q4, q5, q6, q7⟩
            · refine rWall_up p7 (by omega) (by omega) (fun k _ _ => by first | rfl | simp (disch := omega) only [wI_ne, wI_o]) (fun k _ => by first | rfl | simp (disch := omega) only [wI_ne, wI_o]) (fun k hk => by first | rfl | simp (disch := omega) only [wI_ne, wI_o]) (fun k hk => by first | rfl | simp (disch := omega) only [wI_ne, wI_o]) (fun b hb hb6 => ?_) (fun b hb1 hb2 => ?_)
              · refine ⟨by first | rfl | simp (disch := omega) only [wI_ne, wI_o], by first | rfl | simp (disch := omega) only [wI_ne, wI_o], by first | rfl | simp (disch := omega) only [wI_ne, wI_o]⟩
              · have : b = nb := by omega
                subst this
                simp (disch := omega) only [wI_ne, wI_eq, wI_o, show 6 + (17 + b) = 23 + b by omega]
                exact ⟨inR_nI hy, trivial, trivial⟩
            · exact rSteps_up (rSteps_congr p8 ⟨by first | rfl | simp (disch := omega) only [wI_ne, wI_o], by first | rfl | simp (disch := omega) only [wI_ne, wI_o]⟩ (by first | rfl | simp (disch := omega) only [wI_ne, wI_o]) (fun _ _ => by first | rfl | simp (disch := omega) only [wI_ne, wI_o]) (by first | rfl | simp (disch := omega) only [wI_ne, wI_o]) (fun _ _ _ => by first | rfl | simp (disch := omega) only [wI_ne, wI_o]))
            · refine ⟨fun s b hs hb e => ?_, fun N i s b e1 e2 e3 hs hb e => ?_⟩
              · simp (disch := omega) only [wI_ne] at e
                have hbn : b < nb := by
                  rcases p7.2.2.1 s hs with z | ⟨o, o1, o2⟩
                  · have z' : IM 1 (6 + (5 + s)) = -1 := z
                    rw [show 6 + (5 + s) = 11 + s by omega, e] at z'
                    exact absurd z' (nI_none (by omega))
                  · have z' : IM 1 (6 + (5 + s)) = nI o := o2
                    rw [show 6 + (5 + s) = 11 + s by omega, e] at z'
                    have := (nI_eq (by omega) (by omega)).mp z'
                    omega
                exact inH_congr (p9.1 s b hs hb e) (by first | rfl | simp (disch := omega) only [wI_ne, wI_o]) (by first | rfl | simp (disch := omega) only [wI_ne, wI_o])
              · simp (disch := omega) only [wI_ne] at e e1
                obtain ⟨ns, e', u1, u2, u3, u4, u5, u6⟩ := p8
                have hN : ns = N := by
                  rw [e1] at u3
                  exact ((nI_eq (by omega) (by omega)).mp u3).symm
                subst hN
                obtain ⟨m, m1, m2, m3, m4⟩ := u6 i e2
                have hbn : b < nb := by
                  rcases m4.2.2.1 s hs with z | ⟨o, o1, o2⟩
                  · have z' : IM 1 (98 + 49 * i + (5 + s)) = -1 := z
                    rw [show 98 + 49 * i + (5 + s) = 103 + 49 * i + s by omega, e] at z'
                    exact absurd z' (nI_none (by omega))
                  · have z' : IM 1 (98 + 49 * i + (5 + s)) = nI o := o2
                    rw [show 98 + 49 * i + (5 + s) = 103 + 49 * i + s by omega, e] at z'
                    have := (nI_eq (by omega) (by omega)).mp z'
                    omega
                exact inH_congr (p9.2 ns i s b e1 e2 e3 hs hb e) (by first | rfl | simp (disch := omega) only [wI_ne, wI_o]) (by first | rfl | simp (disch := omega) only [wI_ne, wI_o])
      · have j7 : fX7_isIn a4 0 999 = nI 0 := isIn_neg (lo := 0) (hi := 999) (n := 999) (by decide) rfl rfl c4
        have j6 : fX6_within a4 0 999 = nI 0 := j7
        refine ⟨-1, IC, IM, ?_, ?_, hV'⟩
        · unfold fX6_buyer
          rw [i6, r6, j6]
          simp (disch := (first | assumption | trivial | omega)) only [lit, neg1, oI_s, addN, mulN, subN, clN, gdN, ltN, leN, eqN, nIo, oIn, oI_eq, divN, remN, giT, giF, lzE, prE, bdE, smL, smR, shlN, shrN, hasE, andN, orN, bit1, bit0, max7, min7, giTr, giFa, gdp, litL, i2l, addL, mulL, divL, remL, cmLe, cmGt, cmGe, cmEq, eqL]
          all_goals rfl
        · unfold fX7_buyer
          rw [i7, r7, j7]
          simp (disch := (first | assumption | trivial | omega)) only [lit, neg1, oI_s, addN, mulN, subN, clN, gdN, ltN, leN, eqN, nIo, oIn, oI_eq, divN, remN, giT, giF, lzE, prE, bdE, smL, smR, shlN, shrN, hasE, andN, orN, bit1, bit0, max7, min7, giTr, giFa, gdp, litL, i2l, addL, mulL, divL, remL, cmLe, cmGt, cmGe, cmEq, eqL]
          all_goals rfl
    · obtain ⟨r7, r6⟩ := isRun7n c2
      refine ⟨-1, IC, IM, ?_, ?_, hV'⟩
      · unfold fX6_buyer
        rw [i6, r6]
        simp (disch := (first | assumption | trivial | omega)) only [lit, neg1, oI_s, addN, mulN, subN, clN, gdN, ltN, leN, eqN, nIo, oIn, oI_eq, divN, remN, giT, giF, lzE, prE, bdE, smL, smR, shlN, shrN, hasE, andN, orN, bit1, bit0, max7, min7, giTr, giFa, gdp, litL, i2l, addL, mulL, divL, remL, cmLe, cmGt, cmGe, cmEq, eqL]
        all_goals rfl
      · unfold fX7_buyer
        rw [i7, r7]
        simp (disch := (first | assumption | trivial | omega)) only [lit, neg1, oI_s, addN, mulN, subN, clN, gdN, ltN, leN, eqN, nIo, oIn, oI_eq, divN, remN, giT, giF, lzE, prE, bdE, smL, smR, shlN, shrN, hasE, andN, orN, bit1, bit0, max7, min7, giTr, giFa, gdp, litL, i2l, addL, mulL, divL, remL, cmLe, cmGt, cmGe, cmEq, eqL]
        all_goals rfl
  · have i7 : fX7_isIn a1 0 31 = nI 0 := isIn_neg (lo := 0) (hi := 31) (n := 31) (by decide) rfl rfl c1
    have i6 : fX6_within a1 0 31 = nI 0 := i7
    refine ⟨-1, IC, IM, ?_, ?_, hV'⟩
    · unfold fX6_buyer
      rw [i6]
      simp (disch := (first | assumption | trivial | omega)) only [lit, neg1, oI_s, addN, mulN, subN, clN, gdN, ltN, leN, eqN, nIo, oIn, oI_eq, divN, remN, giT, giF, lzE, prE, bdE, smL, smR, shlN, shrN, hasE, andN, orN, bit1, bit0, max7, min7, giTr, giFa, gdp, litL, i2l, addL, mulL, divL, remL, cmLe, cmGt, cmGe, cmEq, eqL]
      all_goals rfl
    · unfold fX7_buyer
      rw [i7]
      simp (disch := (first | assumption | trivial | omega)) only [lit, neg1, oI_s, addN, mulN, subN, clN, gdN, ltN, leN, eqN, nIo, oIn, oI_eq, divN, remN, giT, giF, lzE, prE, bdE, smL, smR, shlN, shrN, hasE, andN, orN, bit1, bit0, max7, min7, giTr, giFa, gdp, litL, i2l, addL, mulL, divL, remL, cmLe, cmGt, cmGe, cmEq, eqL]
      all_goals rfl
theorem case_14 : st_14 V0 := by
  intro IC IM JM hV
  have hV' := hV
  obtain ⟨S, h⟩ := view hV
  have bn := b_nb h
  obtain ⟨nb, nt, mb, mt, h1, ⟨p1, p2, p3, p4, p5, p6, p7, p8, p9⟩, h3, h4, h5⟩ := hV
  obtain ⟨n1, n2⟩ := nb_of h p1
  have hnb := p1.1
  obtain ⟨ns, e, u1, u2, u3, u4, u5, u6⟩ := p8
  cases ns with
  | zero =>
    refine ⟨-1, IC, IM, ?_, ?_, hV'⟩
    · unfold fX6_undo
      simp (disch := (first | assumption | trivial | omega)) only [u4, lit, neg1, oI_s, addN, mulN, subN, clN, gdN, ltN, leN, eqN, nIo, oIn, oI_eq, divN, remN, giT, giF, lzE, prE, bdE, smL, smR, shlN, shrN, hasE, andN, orN, bit1, bit0, max7, min7, giTr, giFa, gdp, litL, i2l, addL, mulL, divL, remL, cmLe, cmGt, cmGe, cmEq, eqL]
      all_goals rfl
    · unfold fX7_undo
      simp (disch := (first | assumption | trivial | omega)) only [u3, lit, neg1, oI_s, addN, mulN, subN, clN, gdN, ltN, leN, eqN, nIo, oIn, oI_eq, divN, remN, giT, giF, lzE, prE, bdE, smL, smR, shlN, shrN, hasE, andN, orN, bit1, bit0, max7, min7, giTr, giFa, gdp, litL, i2l, addL, mulL, divL, remL, cmLe, cmGt, cmGe, cmEq, eqL]
      all_goals rfl
  | succ n =>
    obtain ⟨m, m1, m2, m3, m4⟩ := u6 n (by omega)
    have hu : (e + n) % 30 < 30 := Nat.mod_lt _ (by omega)
    have m3' : IC 16 ((e + n) % 30) = nI m := m3
    have m4' : rWall IC (17 + 4 * ((e + n) % 30)) m (fun k => IM 1 (98 + 49 * n + k)) (fun k => IM 1 (121 + 49 * n + k)) := m4
    have m3 := 0
    have m4 := 0
    generalize hue : (e + n) % 30 = u at hu m3' m4'
    -- the class
    obtain ⟨b1, b2⟩ := be_ok (wI IC 1 19 (nI n)) (w := 11) (v := 17 + 4 * u) (by omega)
    generalize hI : fX5_become 11 (17 + 4 * u) (wI IC 1 19 (nI n)) = C1 at b1 b2
    obtain ⟨C2, r1, r2, r3, r4, r5⟩ := lp_ex (fun q k (a : gI) => fX6_undo_73 q (nI k) a) nb (fun k a => m ≤ k ∧ (∀ o, o ≠ 12 → o ≠ 13 → a o = C1 o) ∧ (∀ j, m ≤ j → j < k → a 12 j = IC 7 j ∧ a 13 j = nI 0) ∧ (∀ j, j < m ∨ k ≤ j → a 12 j = C1 12 j ∧ a 13 j = C1 13 j)) (fun a => m ≤ nb ∧ (∀ o, o ≠ 12 → o ≠ 13 → a o = C1 o) ∧ (∀ j, m ≤ j → j < nb → a 12 j = IC 7 j ∧ a 13 j = nI 0) ∧ (∀ j, j < m ∨ nb ≤ j → a 12 j = C1 12 j ∧ a 13 j = C1 13 j))
      (fun q a hP => by
        try dsimp only at hP ⊢
        refine ⟨a, ?_, hP⟩
        have e12 : a 1 12 = nI nb := by
          rw [hP.2.1 1 (by omega) (by omega), b2 1 (by omega), wI_ne (by omega), v_nb6 h, n1]
        rw [sX6_undo_73, fX6_undo_73b]
        simp (disch := (first | assumption | trivial | omega)) only [e12, lit, neg1, oI_s, addN, mulN, subN, clN, gdN, ltN, leN, eqN, nIo, oIn, oI_eq, divN, remN, giT, giF, lzE, prE, bdE, smL, smR, shlN, shrN, hasE, andN, orN, bit1, bit0, max7, min7, giTr, giFa, gdp, litL, i2l, addL, mulL, divL, remL, cmLe, cmGt, cmGe, cmEq, eqL])
      (fun q k a hk hP => by
        try dsimp only at hP ⊢
        right
        obtain ⟨q0, q1, q2, q3⟩ := hP
        have e12 : a 1 12 = nI nb := by
          rw [q1 1 (by omega) (by omega), b2 1 (by omega), wI_ne (by omega), v_nb6 h, n1]
        have e7 : a 7 k = IC 7 k := by
          rw [q1 7 (by omega) (by omega), b2 7 (by omega), wI_o (by omega)]
        refine ⟨wI (wI a 12 k (IC 7 k)) 13 k (nI 0), ?_, by omega, fun o h1 h2 => by rw [wI_o h2, wI_o h1]; exact q1 o h1 h2, fun j h1 h2 => ?_, fun j hj => ?_⟩
        · rw [sX6_undo_73, fX6_undo_73b]
          simp (disch := (first | assumption | trivial | omega)) only [e12, e7, lit, neg1, oI_s, addN, mulN, subN, clN, gdN, ltN, leN, eqN, nIo, oIn, oI_eq, divN, remN, giT, giF, lzE, prE, bdE, smL, smR, shlN, shrN, hasE, andN, orN, bit1, bit0, max7, min7, giTr, giFa, gdp, litL, i2l, addL, mulL, divL, remL, cmLe, cmGt, cmGe, cmEq, eqL]
        · by_cases ej : j = k
          · subst ej
            rw [wI_o (by omega), wI_eq, wI_eq]
            exact ⟨rfl, rfl⟩
          · rw [wI_o (by omega), wI_ne (by omega), wI_ne (by omega), wI_o (by omega)]
            exact q2 j h1 (by omega)
        · rw [wI_o (by omega), wI_ne (by omega), wI_ne (by omega), wI_o (by omega)]
          exact q3 j (by omega)) (nb - m) m C1 FU (by omega) ⟨Nat.le_refl m, fun _ _ _ => rfl, fun j h1 h2 => absurd h1 (by omega), fun _ _ => ⟨rfl, rfl⟩⟩ (by show _ < 5000; omega)
    try dsimp only at r1
    -- the reference
    obtain ⟨M1, s1, s2, s3, s4⟩ := lp_cp (fun q k a => fX7_undo_36 q (nI (97 + 49 * n)) (nI k) a) 1 23 6 (98 + 49 * n) (wI IM 1 3 (nI n)) 0 (by omega)
      (fun q a => by
        try dsimp only
        rw [sX7_undo_36, fX7_undo_36b]
        simp (disch := (first | assumption | trivial | omega)) only [lit, neg1, oI_s, addN, mulN, subN, clN, gdN, ltN, leN, eqN, nIo, oIn, oI_eq, divN, remN, giT, giF, lzE, prE, bdE, smL, smR, shlN, shrN, hasE, andN, orN, bit1, bit0, max7, min7, giTr, giFa, gdp, litL, i2l, addL, mulL, divL, remL, cmLe, cmGt, cmGe, cmEq, eqL])
      (fun q k a _ hk => by
        try dsimp only
        rw [sX7_undo_36, fX7_undo_36b]
        simp (disch := (first | assumption | trivial | omega)) only [show 97 + 49 * n + 1 + k = 98 + 49 * n + k by omega, lit, neg1, oI_s, addN, mulN, subN, clN, gdN, ltN, leN, eqN, nIo, oIn, oI_eq, divN, remN, giT, giF, lzE, prE, bdE, smL, smR, shlN, shrN, hasE, andN, orN, bit1, bit0, max7, min7, giTr, giFa, gdp, litL, i2l, addL, mulL, divL, remL, cmLe, cmGt, cmGe, cmEq, eqL]) (by omega) (by omega)
    have hM1m : M1 1 (97 + 49 * n) = nI m := by rw [s4 _ (by omega), wI_ne (by omega)]; exact m2
    obtain ⟨M2, t1, t2, t3, t4, t5⟩ := lp_ex (fun q k (a : gI) => fX7_undo_74 q (nI (97 + 49 * n)) (nI k) a) nb (fun k a => m ≤ k ∧ (∀ o, o ≠ 1 → a o = M1 o) ∧ (∀ j, m ≤ j → j < k → a 1 (23 + j) = IM 1 (57 + j)) ∧ (∀ j, j < 23 + m ∨ 23 + k ≤ j → a 1 j = M1 1 j)) (fun a => m ≤ nb ∧ (∀ o, o ≠ 1 → a o = M1 o) ∧ (∀ j, m ≤ j → j < nb → a 1 (23 + j) = IM 1 (57 + j)) ∧ (∀ j, j < 23 + m ∨ 23 + nb ≤ j → a 1 j = M1 1 j))
      (fun q a hP => by
        try dsimp only at hP ⊢
        refine ⟨a, ?_, hP⟩
        have e0 : a 1 0 = nI nb := by
          rw [hP.2.2.2 0 (by omega), s4 0 (by omega), wI_ne (by omega), v_nb7 h, n1]
        rw [sX7_undo_74, fX7_undo_74b]
        simp (disch := (first | assumption | trivial | omega)) only [e0, lit, neg1, oI_s, addN, mulN, subN, clN, gdN, ltN, leN, eqN, nIo, oIn, oI_eq, divN, remN, giT, giF, lzE, prE, bdE, smL, smR, shlN, shrN, hasE, andN, orN, bit1, bit0, max7, min7, giTr, giFa, gdp, litL, i2l, addL, mulL, divL, remL, cmLe, cmGt, cmGe, cmEq, eqL])
      (fun q k a hk hP => by
        try dsimp only at hP ⊢
        right
        obtain ⟨q0, q1, q2, q3⟩ := hP
        have e0 : a 1 0 = nI nb := by
          rw [q3 0 (by omega), s4 0 (by omega), wI_ne (by omega), v_nb7 h, n1]
        have e57 : a 1 (57 + k) = IM 1 (57 + k) := by
          rw [q3 _ (by omega), s4 _ (by omega), wI_ne (by omega)]
        refine ⟨wI a 1 (23 + k) (IM 1 (57 + k)), ?_, by omega, fun o h1 => by rw [wI_o h1]; exact q1 o h1, fun j h1 h2 => ?_, fun j hj => ?_⟩
        · rw [sX7_undo_74, fX7_undo_74b]
          simp (disch := (first | assumption | trivial | omega)) only [e0, e57, lit, neg1, oI_s, addN, mulN, subN, clN, gdN, ltN, leN, eqN, nIo, oIn, oI_eq, divN, remN, giT, giF, lzE, prE, bdE, smL, smR, shlN, shrN, hasE, andN, orN, bit1, bit0, max7, min7, giTr, giFa, gdp, litL, i2l, addL, mulL, divL, remL, cmLe, cmGt, cmGe, cmEq, eqL]
        · by_cases ej : j = k
          · subst ej; exact wI_eq
          · rw [wI_ne (by omega)]; exact q2 j h1 (by omega)
        · rw [wI_ne (by omega)]; exact q3 j (by omega)) (nb - m) m M1 FU (by omega) ⟨Nat.le_refl m, fun _ _ => rfl, fun j h1 h2 => absurd h1 (by omega), fun _ _ => rfl⟩ (by show _ < 5000; omega)
    obtain ⟨M3, z1, z2, z3, z4⟩ := lp_cp (fun q k a => fX7_undo_110 q (nI (97 + 49 * n)) (nI k) a) 1 25 1567 (121 + 49 * n) M2 0 (by omega)
      (fun q a => by
        try dsimp only
        rw [sX7_undo_110, fX7_undo_110b]
        simp (disch := (first | assumption | trivial | omega)) only [lit, neg1, oI_s, addN, mulN, subN, clN, gdN, ltN, leN, eqN, nIo, oIn, oI_eq, divN, remN, giT, giF, lzE, prE, bdE, smL, smR, shlN, shrN, hasE, andN, orN, bit1, bit0, max7, min7, giTr, giFa, gdp, litL, i2l, addL, mulL, divL, remL, cmLe, cmGt, cmGe, cmEq, eqL])
      (fun q k a _ hk => by
        try dsimp only
        rw [sX7_undo_110, fX7_undo_110b]
        simp (disch := (first | assumption | trivial | omega)) only [show 97 + 49 * n + 1 + 23 + k = 121 + 49 * n + k by omega, lit, neg1, oI_s, addN, mulN, subN, clN, gdN, ltN, leN, eqN, nIo, oIn, oI_eq, divN, remN, giT, giF, lzE, prE, bdE, smL, smR, shlN, shrN, hasE, andN, orN, bit1, bit0, max7, min7, giTr, giFa, gdp, litL, i2l, addL, mulL, divL, remL, cmLe, cmGt, cmGe, cmEq, eqL]) (by omega) (by omega)
    try dsimp only at s1 t1 z1
    have hM : ∀ k, k < 6 ∨ (29 ≤ k ∧ k < 1567) → k ≠ 3 → M3 1 k = IM 1 k := fun k h1 h2 => by
      rw [z4 k (by omega), t5 k (by omega), s4 k (by omega), wI_ne (by omega)]
    have hM3 : M3 1 3 = nI n := by
      rw [z4 3 (by omega), t5 3 (by omega), s4 3 (by omega), wI_eq]
    have hMo : ∀ o, o ≠ 1 → M3 o = IM o := fun o ho => by
      rw [z2 o ho, t3 o ho, s2 o ho, wI_o ho]
    have hC : ∀ o, o ≠ 1 → o < 11 ∨ 14 < o → C2 o = IC o := fun o h1 h2 => by
      rw [r3 o (by omega) (by omega), b2 o (by omega), wI_o h1]
    have hC1 : ∀ k, k ≠ 19 → C2 1 k = IC 1 k := fun k hk => by
      rw [r3 1 (by omega) (by omega), b2 1 (by omega), wI_ne (by omega)]
    have hC19 : C2 1 19 = nI n := by
      rw [r3 1 (by omega) (by omega), b2 1 (by omega), wI_eq]
    have hslot : ∀ k, k < 17 → M3 1 (6 + k) = IM 1 (98 + 49 * n + k) := fun k hk => by
      rw [z4 _ (by omega), t5 _ (by omega), s3 k (by omega) (by omega), wI_ne (by omega)]
    have hline : ∀ k, k < 25 → M3 1 (1567 + k) = IM 1 (121 + 49 * n + k) := fun k hk => by
      rw [z3 k (by omega) (by omega), t5 _ (by omega), s4 _ (by omega), wI_ne (by omega)]
    refine ⟨nI n, C2, M3, ?_, ?_, nb, nt, mb, mt, h1, ⟨rHead_congr p1 ⟨hC1 _ (by omega), hC1 _ (by omega), hC1 _ (by omega)⟩ (fun k hk => hM k (by omega) (by omega)), rPaid_congr p2 ⟨hC1 _ (by omega), hC1 _ (by omega)⟩ (hM 4 (by omega) (by omega)) (fun k _ _ => hM k (by omega) (by omega)), rSaid_congr p3 (hC1 _ (by omega)) (hC _ (by omega) (by omega)) (hC _ (by omega) (by omega)) (hM 5 (by omega) (by omega)) (fun k _ _ => hM k (by omega) (by omega)), rOdds_congr p4 (hC _ (by omega) (by omega)) (hC _ (by omega) (by omega)) (fun k _ _ => hM k (by omega) (by omega)), rBuy_congr p5 (hC _ (by omega) (by omega)) (hC _ (by omega) (by omega)) (hC _ (by omega) (by omega)) (hC _ (by omega) (by omega)) (fun k _ _ => hM k (by omega) (by omega)), rVals_congr p6 (hC _ (by omega) (by omega)) (fun k _ _ => hM k (by omega) (by omega)), ?_, ?_, ?_⟩, rPort_congr h3 (fun o _ _ => hC o (by omega) (by omega)) (hMo 2 (by omega)), rTape_congr h4 (hC 0 (by omega) (by omega)) (hC _ (by omega) (by omega)) (hMo 4 (by omega)) ⟨by rw [hMo 0 (by omega)], by rw [hMo 0 (by omega)], by rw [hMo 0 (by omega)], by rw [hMo 0 (by omega)]⟩, fun t ht => rText_congr (h5 t ht) (fun k _ => hC _ (by omega) (by omega)) (fun k _ => by rw [hMo 3 (by omega)])⟩
    · unfold fX6_undo
      have e16 : C1 16 u = nI m := by rw [b2 16 (by omega), wI_o (by omega)]; exact m3'
      have e19 : C2 1 19 = nI n := hC19
      simp (disch := (first | assumption | trivial | omega)) only [u4, Nat.add_sub_cancel, wI_ne, wI_eq, u5, hue, show 15 + 2 + 4 * u = 17 + 4 * u by omega, hI, e16, r1, e19, lit, neg1, oI_s, addN, mulN, subN, clN, gdN, ltN, leN, eqN, nIo, oIn, oI_eq, divN, remN, giT, giF, lzE, prE, bdE, smL, smR, shlN, shrN, hasE, andN, orN, bit1, bit0, max7, min7, giTr, giFa, gdp, litL, i2l, addL, mulL, divL, remL, cmLe, cmGt, cmGe, cmEq, eqL]
    · unfold fX7_undo
      simp (disch := (first | assumption | trivial | omega)) only [u3, Nat.add_sub_cancel, wI_eq, s1, hM1m, t1, z1, hM3, lit, neg1, oI_s, addN, mulN, subN, clN, gdN, ltN, leN, eqN, nIo, oIn, oI_eq, divN, remN, giT, giF, lzE, prE, bdE, smL, smR, shlN, shrN, hasE, andN, orN, bit1, bit0, max7, min7, giTr, giFa, gdp, litL, i2l, addL, mulL, divL, remL, cmLe, cmGt, cmGe, cmEq, eqL]
    · refine rWall_up m4' m1 hnb (fun k h1 h2 => ?_) (fun k hk => ?_) (fun k hk => hslot k hk) (fun k hk => hline k hk) (fun b hb hb6 => ?_) (fun b hb1 hb2 => ?_)
      · show C2 11 k = _
        rw [r3 11 (by omega) (by omega), b1.1 k h1 h2, wI_o (by omega)]
      · show C2 14 k = _
        rw [r3 14 (by omega) (by omega), b1.2.2.2 k hk, wI_o (by omega)]
      · refine ⟨?_, ?_, ?_⟩
        · show M3 1 (6 + (17 + b)) = IM 1 (98 + 49 * n + (17 + b))
          rw [z4 _ (by omega), t5 _ (by omega), s3 _ (by omega) (by omega), wI_ne (by omega)]
        · show C2 12 b = _
          rw [(r5 b hb).1, b1.2.1 b hb6, wI_o (by omega)]
        · show C2 13 b = _
          rw [(r5 b hb).2, b1.2.2.1 b hb6, wI_o (by omega)]
      · have bb := p5 b (by omega)
        have q1 : M3 1 (6 + (17 + b)) = IM 1 (57 + b) := by
          rw [show 6 + (17 + b) = 23 + b by omega, z4 _ (by omega), t4 b hb1 hb2]
        refine ⟨?_, ?_, (r4 b hb1 hb2).2⟩
        · show inR (M3 1 (6 + (17 + b))) 1000
          rw [q1]; exact bb.2.2.1
        · show C2 12 b = M3 1 (6 + (17 + b))
          rw [q1, (r4 b hb1 hb2).1]; exact bb.2.2.2.2.2.2
    · refine ⟨n, e, by omega, u2, hM3, hC19, ?_, fun i hi => ?_⟩
      · show C2 1 18 = nI e
        rw [hC1 18 (by omega)]; exact u5
      · obtain ⟨m', x1, x2, x3, x4⟩ := u6 i (by omega)
        have hm : (e + i) % 30 < 30 := Nat.mod_lt _ (by omega)
        refine ⟨m', x1, ?_, ?_, rWall_congr x4 ?_ ?_ ?_ ?_ (fun k hk => hM _ (by omega) (by omega)) (fun k hk => hM _ (by omega) (by omega))⟩
        · rw [hM _ (by omega) (by omega)]; exact x2
        · show C2 16 _ = _
          rw [hC 16 (by omega) (by omega)]; exact x3
        · exact hC _ (by omega) (by omega)
        · exact hC _ (by omega) (by omega)
        · exact hC _ (by omega) (by omega)
        · exact hC _ (by omega) (by omega)
    · refine ⟨fun s b hs hb q => ?_, fun N i s b q1 q2 q3 hs hb q => ?_⟩
      · have := hslot (5 + s) (by omega)
        rw [show 6 + (5 + s) = 11 + s by omega, show 98 + 49 * n + (5 + s) = 103 + 49 * n + s by omega] at this
        rw [this] at q
        exact inH_congr (p9.2 (n + 1) n s b u3 (by omega) u1 hs hb q) (hM _ (by omega) (by omega)) (hM _ (by omega) (by omega))
      · rw [hM3] at q1
        have hN : n = N := (nI_eq (by omega) (by omega)).mp q1
        subst hN
        rw [hM _ (by omega) (by omega)] at q
        exact inH_congr (p9.2 (n + 1) i s b u3 (by omega) u1 hs hb q) (hM _ (by omega) (by omega)) (hM _ (by omega) (by omega))
