-- 51: PURE PART: the game by both ends (out of wip/whole/pure by pure.py)
theorem gm_s {S : Nat → Nat → Nat} {m f : Nat} {x y : Int32} (hx : x = nI (S 7 f) - (if m = 0 then nI 0 else gm S (m - 1) (f + 1))) (hy : y = nI (S 7 (f + m)) - (if m = 0 then nI 0 else gm S (m - 1) f)) : (if x < y then y else x) = gm S m f := by
  cases m with
  | zero =>
    rw [if_pos rfl, subN (Nat.zero_le _)] at hx hy
    subst hx hy
    rw [Nat.add_zero, Nat.sub_zero]
    by_cases c : nI (S 7 f) < nI (S 7 f)
    · rw [if_pos c]; rfl
    · rw [if_neg c]; rfl
  | succ m =>
    rw [if_neg (by omega), Nat.add_sub_cancel] at hx hy
    subst hx hy
    rfl
theorem lg7 {S : Nat → Nat → Nat} {I : gI} (hv : ∀ s, s < 12 → I 1 (69 + s) = nI (S 7 s)) : ∃ I', fX7_layGames I = some I' ∧ (∀ o, o ≠ 12 → I' o = I o) ∧ ∀ m f, f + m < 12 → I' 12 (12 * f + (f + m)) = gm S m f := by
  obtain ⟨I1, e1, q1, q2⟩ := lp_ex (fun n m (a : gI) => fX7_layGames_2 n (nI m) a) 12 (fun k a => (∀ o, o ≠ 12 → a o = I o) ∧ ∀ m f, m < k → f + m < 12 → a 12 (12 * f + (f + m)) = gm S m f) (fun a => (∀ o, o ≠ 12 → a o = I o) ∧ ∀ m f, m < 12 → f + m < 12 → a 12 (12 * f + (f + m)) = gm S m f)
    (fun n a hP => by
      try dsimp only at hP ⊢
      refine ⟨a, ?_, hP⟩
      rw [sX7_layGames_2, fX7_layGames_2b]
      simp (disch := (first | assumption | trivial | omega)) only [lit, neg1, oI_s, addN, mulN, subN, clN, gdN, ltN, leN, eqN, nIo, oIn, oI_eq, divN, remN, giT, giF, lzE, prE, bdE, smL, smR, shlN, shrN, hasE, andN, orN, bit1, bit0, max7, min7, giTr, giFa, gdp, litL, i2l, addL, mulL, divL, remL, cmLe, cmGt, cmGe, cmEq, eqL])
    (fun n m a hm hP => by
      try dsimp only at hP ⊢
      right
      obtain ⟨p1, p2⟩ := hP
      obtain ⟨I2, e2, r1, r2, r3⟩ := lp_ex (fun n f (a : gI) => fX7_layGames_10 n (nI m) (nI f) a) (12 - m) (fun k a => (∀ o, o ≠ 12 → a o = I o) ∧ (∀ m' f, m' < m → f + m' < 12 → a 12 (12 * f + (f + m')) = gm S m' f) ∧ ∀ f, f < k → a 12 (12 * f + (f + m)) = gm S m f) (fun a => (∀ o, o ≠ 12 → a o = I o) ∧ (∀ m' f, m' < m → f + m' < 12 → a 12 (12 * f + (f + m')) = gm S m' f) ∧ ∀ f, f < 12 - m → a 12 (12 * f + (f + m)) = gm S m f)
        (fun n b hP => by
          try dsimp only at hP ⊢
          refine ⟨b, ?_, hP⟩
          rw [sX7_layGames_10, fX7_layGames_10b]
          simp (disch := (first | assumption | trivial | omega)) only [lit, neg1, oI_s, addN, mulN, subN, clN, gdN, ltN, leN, eqN, nIo, oIn, oI_eq, divN, remN, giT, giF, lzE, prE, bdE, smL, smR, shlN, shrN, hasE, andN, orN, bit1, bit0, max7, min7, giTr, giFa, gdp, litL, i2l, addL, mulL, divL, remL, cmLe, cmGt, cmGe, cmEq, eqL])
        (fun n f b hf hP => by
          try dsimp only at hP ⊢
          right
          obtain ⟨w1, w2, w3⟩ := hP
          obtain ⟨x, y, ex, ey, hx, hy⟩ := bl7 (S := S) (I := b) (fun s hs => by rw [w1 1 (by omega)]; exact hv s hs) m f (by omega) (fun m' hm' => by
            subst hm'
            refine ⟨?_, ?_⟩
            · have := w2 m' (f + 1) (by omega) (by omega)
              rw [show f + 1 + m' = f + (m' + 1) by omega] at this
              exact this
            · have := w2 m' f (by omega) (by omega)
              rw [show 12 * f + (f + (m' + 1)) - 1 = 12 * f + (f + m') by omega]
              exact this)
          have hg := gm_s hx hy
          refine ⟨wI b 12 (12 * f + (f + m)) (gm S m f), ?_, fun o ho => by rw [wI_o ho]; exact w1 o ho, fun m' f' h1 h2 => ?_, fun f' hf' => ?_⟩
          · rw [sX7_layGames_10, fX7_layGames_10b]
            by_cases c : x < y
            · have c2 : x ≤ y := Int32.le_of_lt c
              rw [if_pos c] at hg
              subst hg
              simp (disch := (first | assumption | trivial | omega)) only [ex, ey, c2, show 12 * f + f + m = 12 * f + (f + m) by omega, lit, neg1, oI_s, addN, mulN, subN, clN, gdN, ltN, leN, eqN, nIo, oIn, oI_eq, divN, remN, giT, giF, lzE, prE, bdE, smL, smR, shlN, shrN, hasE, andN, orN, bit1, bit0, max7, min7, giTr, giFa, gdp, litL, i2l, addL, mulL, divL, remL, cmLe, cmGt, cmGe, cmEq, eqL]
            · rw [if_neg c] at hg
              by_cases c2 : x ≤ y
              · have : y = x := by
                  apply Int32.toInt_inj.mp
                  rw [le_toInt] at c2
                  rw [lt_toInt] at c
                  omega
                rw [this] at ey
                have c3 : x ≤ x := Int32.le_refl x
                subst hg
                simp (disch := (first | assumption | trivial | omega)) only [ex, ey, c3, show 12 * f + f + m = 12 * f + (f + m) by omega, lit, neg1, oI_s, addN, mulN, subN, clN, gdN, ltN, leN, eqN, nIo, oIn, oI_eq, divN, remN, giT, giF, lzE, prE, bdE, smL, smR, shlN, shrN, hasE, andN, orN, bit1, bit0, max7, min7, giTr, giFa, gdp, litL, i2l, addL, mulL, divL, remL, cmLe, cmGt, cmGe, cmEq, eqL]
              · subst hg
                simp (disch := (first | assumption | trivial | omega)) only [ex, ey, c2, show 12 * f + f + m = 12 * f + (f + m) by omega, lit, neg1, oI_s, addN, mulN, subN, clN, gdN, ltN, leN, eqN, nIo, oIn, oI_eq, divN, remN, giT, giF, lzE, prE, bdE, smL, smR, shlN, shrN, hasE, andN, orN, bit1, bit0, max7, min7, giTr, giFa, gdp, litL, i2l, addL, mulL, divL, remL, cmLe, cmGt, cmGe, cmEq, eqL]
          · rw [wI_ne (by omega)]; exact w2 m' f' h1 h2
          · by_cases ef : f' = f
            · subst ef; exact wI_eq
            · rw [wI_ne (by omega)]; exact w3 f' (by omega)) (12 - m) 0 a FU (by omega) ⟨p1, p2, fun f hf => absurd hf (by omega)⟩ (by show _ < 5000; omega)
      try dsimp only at e2
      refine ⟨I2, ?_, r1, fun m' f h1 h2 => ?_⟩
      · rw [sX7_layGames_2, fX7_layGames_2b]
        simp (disch := (first | assumption | trivial | omega)) only [e2, lit, neg1, oI_s, addN, mulN, subN, clN, gdN, ltN, leN, eqN, nIo, oIn, oI_eq, divN, remN, giT, giF, lzE, prE, bdE, smL, smR, shlN, shrN, hasE, andN, orN, bit1, bit0, max7, min7, giTr, giFa, gdp, litL, i2l, addL, mulL, divL, remL, cmLe, cmGt, cmGe, cmEq, eqL]
      · by_cases em : m' = m
        · subst em; exact r3 f (by omega)
        · exact r2 m' f (by omega) h2) 12 0 I FU (by omega) ⟨fun _ _ => rfl, fun m f h => absurd h (by omega)⟩ (by show _ < 5000; omega)
  try dsimp only at e1
  refine ⟨I1, ?_, q1, fun m f h => q2 m f (by omega) h⟩
  unfold fX7_layGames
  simp (disch := (first | assumption | trivial | omega)) only [e1, lit, neg1, oI_s, addN, mulN, subN, clN, gdN, ltN, leN, eqN, nIo, oIn, oI_eq, divN, remN, giT, giF, lzE, prE, bdE, smL, smR, shlN, shrN, hasE, andN, orN, bit1, bit0, max7, min7, giTr, giFa, gdp, litL, i2l, addL, mulL, divL, remL, cmLe, cmGt, cmGe, cmEq, eqL]
theorem eqM_12 {I I' : gI} (h : ∀ o, o ≠ 12 → I' o = I o) : eqM I I' := by
  refine ⟨h 1 (by omega), h 2 (by omega), h 3 (by omega), h 4 (by omega), ?_, ?_, ?_, ?_⟩ <;> rw [h 0 (by omega)]
theorem eqC_295 {I I' : gI} (h : ∀ o, o ≠ 295 → I' o = I o) : eqC I I' := fun o ho => h o (by omega)
theorem case_38 : st_38 V0 := by
  intro a1 a2 IC IM JM hV
  obtain ⟨S, h⟩ := view hV
  by_cases c : ∃ f t, f ≤ t ∧ t < 12 ∧ a1 = nI f ∧ a2 = nI t
  · obtain ⟨f, t, hf, ht, rfl, rfl⟩ := c
    obtain ⟨r7, r6⟩ := isRun7p hf ht
    obtain ⟨C1, e6, hC⟩ := le6 (S := S) (I := IC) (fun s hs => v_vl6 h hs) hf ht
    obtain ⟨M1, e7, hM, hg⟩ := lg7 (S := S) (I := IM) (fun s hs => v_vl7 h hs)
    have hg' := hg (t - f) f (by omega)
    rw [show f + (t - f) = t by omega] at hg'
    refine ⟨gm S (t - f) f, C1, M1, ?_, ?_, V0_eq hV (eqC_295 hC) (eqM_12 hM)⟩
    · unfold fX6_ends
      rw [r6]
      simp (disch := (first | assumption | trivial | omega)) only [e6, lit, neg1, oI_s, addN, mulN, subN, clN, gdN, ltN, leN, eqN, nIo, oIn, oI_eq, divN, remN, giT, giF, lzE, prE, bdE, smL, smR, shlN, shrN, hasE, andN, orN, bit1, bit0, max7, min7, giTr, giFa, gdp, litL, i2l, addL, mulL, divL, remL, cmLe, cmGt, cmGe, cmEq, eqL]
    · unfold fX7_ends
      rw [r7]
      simp (disch := (first | assumption | trivial | omega)) only [e7, hg', lit, neg1, oI_s, addN, mulN, subN, clN, gdN, ltN, leN, eqN, nIo, oIn, oI_eq, divN, remN, giT, giF, lzE, prE, bdE, smL, smR, shlN, shrN, hasE, andN, orN, bit1, bit0, max7, min7, giTr, giFa, gdp, litL, i2l, addL, mulL, divL, remL, cmLe, cmGt, cmGe, cmEq, eqL]
  · obtain ⟨r7, r6⟩ := isRun7n c
    refine ⟨-1000, IC, IM, ?_, ?_, hV⟩
    · unfold fX6_ends
      rw [r6]
      simp (disch := (first | assumption | trivial | omega)) only [lit, neg1, oI_s, addN, mulN, subN, clN, gdN, ltN, leN, eqN, nIo, oIn, oI_eq, divN, remN, giT, giF, lzE, prE, bdE, smL, smR, shlN, shrN, hasE, andN, orN, bit1, bit0, max7, min7, giTr, giFa, gdp, litL, i2l, addL, mulL, divL, remL, cmLe, cmGt, cmGe, cmEq, eqL]
    · unfold fX7_ends
      rw [r7]
      simp (disch := (first | assumption | trivial | omega)) only [lit, neg1, oI_s, addN, mulN, subN, clN, gdN, ltN, leN, eqN, nIo, oIn, oI_eq, divN, remN, giT, giF, lzE, prE, bdE, smL, smR, shlN, shrN, hasE, andN, orN, bit1, bit0, max7, min7, giTr, giFa, gdp, litL, i2l, addL, mulL, divL, remL, cmLe, cmGt, cmGe, cmEq, eqL]
theorem case_39 : st_39 V0 := by
  intro a1 a2 IC IM JM hV
  obtain ⟨S, h⟩ := view hV
  by_cases c : ∃ f t, f ≤ t ∧ t < 12 ∧ a1 = nI f ∧ a2 = nI t
  · obtain ⟨f, t, hf, ht, rfl, rfl⟩ := c
    obtain ⟨r7, r6⟩ := isRun7p hf ht
    obtain ⟨M1, e7, hM, hg⟩ := lg7 (S := S) (I := IM) (fun s hs => v_vl7 h hs)
    obtain ⟨m, rfl⟩ : ∃ m, t = f + m := ⟨t - f, by omega⟩
    obtain ⟨x, y, ex, ey, hx, hy⟩ := bl7 (S := S) (I := M1) (fun s hs => by rw [hM 1 (by omega)]; exact v_vl7 h hs) m f (by omega) (fun m' hm' => by
      subst hm'
      refine ⟨?_, ?_⟩
      · have := hg m' (f + 1) (by omega)
        rw [show f + 1 + m' = f + (m' + 1) by omega] at this
        exact this
      · have := hg m' f (by omega)
        rw [show 12 * f + (f + (m' + 1)) - 1 = 12 * f + (f + m') by omega]
        exact this)
    have hl1 : ∃ C1, fX6_lead (nI (f + 1)) (nI (f + m)) IC = some (if m = 0 then nI 0 else gm S (m - 1) (f + 1), C1) ∧ ∀ o, o ≠ 295 → C1 o = IC o := by
      by_cases c : m = 0
      · subst c
        refine ⟨IC, ?_, fun _ _ => rfl⟩
        unfold fX6_lead
        rw [if_pos rfl]
        simp (disch := (first | assumption | trivial | omega)) only [lit, neg1, oI_s, addN, mulN, subN, clN, gdN, ltN, leN, eqN, nIo, oIn, oI_eq, divN, remN, giT, giF, lzE, prE, bdE, smL, smR, shlN, shrN, hasE, andN, orN, bit1, bit0, max7, min7, giTr, giFa, gdp, litL, i2l, addL, mulL, divL, remL, cmLe, cmGt, cmGe, cmEq, eqL]
      · obtain ⟨C1, e6, hC⟩ := le6 (S := S) (I := IC) (fun s hs => v_vl6 h hs) (show f + 1 ≤ f + m by omega) ht
        rw [if_neg c]
        rw [show f + m - (f + 1) = m - 1 by omega] at e6
        exact ⟨C1, e6, hC⟩
    obtain ⟨C1, e1, hC1⟩ := hl1
    have hl2 : ∃ C2, fX6_lead (nI f) (nI (f + m) - nI 1) C1 = some (if m = 0 then nI 0 else gm S (m - 1) f, C2) ∧ ∀ o, o ≠ 295 → C2 o = C1 o := by
      by_cases c : m = 0
      · subst c
        refine ⟨C1, ?_, fun _ _ => rfl⟩
        unfold fX6_lead
        rw [if_pos rfl, subO, gi_neg]
        · rfl
        · intro q
          rw [le_toInt, nI_toInt (by omega)] at q
          cases f with
          | zero =>
            have : (oI (0 + 0)).toInt = -1 := by decide
            omega
          | succ f =>
            rw [Nat.add_zero, oI_s, nI_toInt (by omega)] at q
            omega
      · obtain ⟨C2, e6, hC⟩ := le6 (S := S) (I := C1) (fun s hs => by rw [hC1 8 (by omega)]; exact v_vl6 h hs) (show f ≤ f + m - 1 by omega) (by omega)
        rw [if_neg c]
        rw [show f + m - 1 - f = m - 1 by omega] at e6
        refine ⟨C2, ?_, hC⟩
        rw [subN (by omega)]
        exact e6
    obtain ⟨C2, e2, hC2⟩ := hl2
    have e8 : C1 8 = IC 8 := hC1 8 (by omega)
    have g6 : fX6_take (nI f) (nI (f + m)) IC = gi (x < y) (some (nI 1, C2)) (some (nI 0, C2)) := by
      unfold fX6_take
      rw [r6]
      rw [show (nI (f + m) - (1 : Int32)) = nI (f + m) - nI 1 from rfl]
      simp (disch := (first | assumption | trivial | omega)) only [lit, addN, clN, gdN, eqN, giT, giF, lzE, prE, bdE, e1, e2, e8, v_vl6 h]
      rw [hx, hy]
    have g7 : fX7_take (nI f) (nI (f + m)) IM = gi (x < y) (some (nI 1, M1)) (some (nI 0, M1)) := by
      unfold fX7_take
      rw [r7]
      simp (disch := (first | assumption | trivial | omega)) only [e7, ex, ey, lit, neg1, oI_s, addN, mulN, subN, clN, gdN, ltN, leN, eqN, nIo, oIn, oI_eq, divN, remN, giT, giF, lzE, prE, bdE, smL, smR, shlN, shrN, hasE, andN, orN, bit1, bit0, max7, min7, giTr, giFa, gdp, litL, i2l, addL, mulL, divL, remL, cmLe, cmGt, cmGe, cmEq, eqL]
    have hV' := V0_eq (JM' := JM) hV (eqC_295 fun o ho => (hC2 o ho).trans (hC1 o ho)) (eqM_12 hM)
    by_cases cx : x < y
    · exact ⟨nI 1, C2, M1, by rw [g6, gi_pos cx], by rw [g7, gi_pos cx], hV'⟩
    · exact ⟨nI 0, C2, M1, by rw [g6, gi_neg cx], by rw [g7, gi_neg cx], hV'⟩
  · obtain ⟨r7, r6⟩ := isRun7n c
    refine ⟨-1, IC, IM, ?_, ?_, hV⟩
    · unfold fX6_take
      rw [r6]
      simp (disch := (first | assumption | trivial | omega)) only [lit, neg1, oI_s, addN, mulN, subN, clN, gdN, ltN, leN, eqN, nIo, oIn, oI_eq, divN, remN, giT, giF, lzE, prE, bdE, smL, smR, shlN, shrN, hasE, andN, orN, bit1, bit0, max7, min7, giTr, giFa, gdp, litL, i2l, addL, mulL, divL, remL, cmLe, cmGt, cmGe, cmEq, eqL]
      all_goals rfl
    · unfold fX7_take
      rw [r7]
      simp (disch := (first | assumption | trivial | omega)) only [lit, neg1, oI_s, addN, mulN, subN, clN, gdN, ltN, leN, eqN, nIo, oIn, oI_eq, divN, remN, giT, giF, lzE, prE, bdE, smL, smR, shlN, shrN, hasE, andN, orN, bit1, bit0, max7, min7, giTr, giFa, gdp, litL, i2l, addL, mulL, divL, remL, cmLe, cmGt, cmGe, cmEq, eqL]
      all_goals rfl
