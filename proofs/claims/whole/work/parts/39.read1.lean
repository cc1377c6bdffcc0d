-- 39: PURE PART: what is read off alone (out of wip/whole/pure by pure.py)
theorem lp_ex {σ ρ : Type} (L : Nat → Nat → σ → Option ρ) (N : Nat) (P : Nat → σ → Prop) (Q : ρ → Prop) (h0 : ∀ n a, P N a → ∃ r, L (n + 1) N a = some r ∧ Q r) (h1 : ∀ n k a, k < N → P k a → (∃ r, L (n + 1) k a = some r ∧ Q r) ∨ (∃ a', L (n + 1) k a = L n (k + 1) a' ∧ P (k + 1) a')) : ∀ j k a n, k + j = N → P k a → j < n → ∃ r, L n k a = some r ∧ Q r := by
  intro j
  induction j with
  | zero =>
    intro k a n hk hp hn
    obtain ⟨m, rfl⟩ : ∃ m, n = m + 1 := ⟨n - 1, by omega⟩
    have : k = N := by omega
    subst this
    exact h0 m a hp
  | succ j ih =>
    intro k a n hk hp hn
    obtain ⟨m, rfl⟩ : ∃ m, n = m + 1 := ⟨n - 1, by omega⟩
    rcases h1 m k a (by omega) hp with h | ⟨a', e, hp'⟩
    · exact h
    · rw [e]
      exact ih (k + 1) a' m (by omega) hp' (by omega)
theorem case_18 : st_18 V0 := by
  intro a1 IC IM JM hV
  obtain ⟨S, h⟩ := view hV
  refine ⟨_, rfl, ?_, hV⟩
  unfold fX7_is fX6_is
  by_cases c : inR a1 4
  · rw [isIn_pos (lo := 0) (hi := 3) (n := 3) (by decide) rfl rfl c]
    obtain ⟨k, hk, rfl⟩ := c
    have : k = 0 ∨ k = 1 ∨ k = 2 ∨ k = 3 := by omega
    rcases this with rfl | rfl | rfl | rfl
    · simp (disch := (first | assumption | trivial | omega)) only [v_da6 h, v_dx6 h, v_fu6 h, v_so6 h, v_f6 h, Nat.add_zero, v_da7 h, lit, neg1, oI_s, addN, mulN, subN, clN, gdN, ltN, leN, eqN, nIo, oIn, oI_eq, divN, remN, giT, giF, lzE, prE, bdE, smL, smR, shlN, shrN, hasE, andN, orN, bit1, bit0, max7, min7, giTr, giFa, gdp, litL, i2l, addL, mulL, divL, remL, cmLe, cmGt, cmGe, cmEq, eqL]
    · simp (disch := (first | assumption | trivial | omega)) only [v_da6 h, v_dx6 h, v_fu6 h, v_so6 h, v_f6 h, lit, neg1, oI_s, addN, mulN, subN, clN, gdN, ltN, leN, eqN, nIo, oIn, oI_eq, divN, remN, giT, giF, lzE, prE, bdE, smL, smR, shlN, shrN, hasE, andN, orN, bit1, bit0, max7, min7, giTr, giFa, gdp, litL, i2l, addL, mulL, divL, remL, cmLe, cmGt, cmGe, cmEq, eqL]; exact congrArg some (v_dx7 h)
    · simp (disch := (first | assumption | trivial | omega)) only [v_da6 h, v_dx6 h, v_fu6 h, v_so6 h, v_f6 h, lit, neg1, oI_s, addN, mulN, subN, clN, gdN, ltN, leN, eqN, nIo, oIn, oI_eq, divN, remN, giT, giF, lzE, prE, bdE, smL, smR, shlN, shrN, hasE, andN, orN, bit1, bit0, max7, min7, giTr, giFa, gdp, litL, i2l, addL, mulL, divL, remL, cmLe, cmGt, cmGe, cmEq, eqL]; exact congrArg some (v_fu7 h)
    · simp (disch := (first | assumption | trivial | omega)) only [v_da6 h, v_dx6 h, v_fu6 h, v_so6 h, v_f6 h, lit, neg1, oI_s, addN, mulN, subN, clN, gdN, ltN, leN, eqN, nIo, oIn, oI_eq, divN, remN, giT, giF, lzE, prE, bdE, smL, smR, shlN, shrN, hasE, andN, orN, bit1, bit0, max7, min7, giTr, giFa, gdp, litL, i2l, addL, mulL, divL, remL, cmLe, cmGt, cmGe, cmEq, eqL]; exact congrArg some (v_so7 h)
  · rw [isIn_neg (lo := 0) (hi := 3) (n := 3) (by decide) rfl rfl c, gi_pos rfl, fn7 h, bdE]
    rw [gi_neg (c := a1 = 0) (fun e => c ⟨0, by decide, e⟩), gi_neg (c := a1 = 1) (fun e => c ⟨1, by decide, e⟩), gi_neg (c := a1 = 2) (fun e => c ⟨2, by decide, e⟩), gi_neg (c := a1 = 3) (fun e => c ⟨3, by decide, e⟩), v_f6 h]
    by_cases c4 : a1 = 4
    · rw [gi_pos c4, gi_pos c4]
    · rw [gi_neg c4, gi_neg c4]
theorem case_25 : st_25 V0 := by
  intro a1 a2 IC IM JM hV
  obtain ⟨S, h⟩ := view hV
  by_cases c : inR a1 5
  · obtain ⟨k, hk, rfl⟩ := id c
    have hl := lk_lt h hk
    have ho := oa_lt h
    obtain ⟨r, e6, e7⟩ := low67 (up := lk S k) (down := max 1 (oa S)) (bz a2) (by omega) (by omega) (by omega)
    refine ⟨r, ?_, ?_, hV⟩
    · unfold fX6_chance
      rw [isSort6_pos c, gi_neg one_ne, lk6 h hk, bdE, wh6 h, bdE, i2l (by omega), i2l (by omega), e6, bdE]
    · unfold fX7_chance
      rw [isSort7_pos c, gi_neg one_ne, lk7 h hk, bdE, wh7 h, bdE, i2l (by omega), i2l (by omega), e7, bdE]
  · refine ⟨-1, ?_, ?_, hV⟩
    · unfold fX6_chance
      rw [isSort6_neg c, gi_pos rfl]
    · unfold fX7_chance
      rw [isSort7_neg c, gi_pos rfl]
theorem case_43 : st_43 V0 := by
  intro IC IM JM hV
  obtain ⟨S, h⟩ := view hV
  have hn := b_nb h
  have R7 := lp_run (fun n k (a : Nat) => fX7_richest_4 n (oI a) (nI k) IM) (S 0 0) (fun k a => if (if a = 0 then 0 else S 13 (a - 1)) < S 13 k then k + 1 else a) (oI) (fun k a => a ≤ k) 0 (by first | decide | omega) (by omega)
      (fun n a hP => by
        try dsimp only
        rw [sX7_richest_4, fX7_richest_4b]
        simp (disch := (first | assumption | trivial | omega)) only [v_nb7 h, lit, neg1, oI_s, addN, mulN, subN, clN, gdN, ltN, leN, eqN, nIo, oIn, oI_eq, divN, remN, giT, giF, lzE, prE, bdE, smL, smR, shlN, shrN, hasE, andN, orN, bit1, bit0, max7, min7, giTr, giFa, gdp, litL, i2l, addL, mulL, divL, remL, cmLe, cmGt, cmGe, cmEq, eqL])
      (fun n k a hk hP => by
        try dsimp only at hP ⊢
        have hpk := b_pu h (b := k) (by omega)
        rw [sX7_richest_4, fX7_richest_4b]
        by_cases c0 : a = 0
        · rw [if_pos c0]
          by_cases c : 0 < S 13 k
          · rw [if_pos c]
            refine ⟨?_, by omega⟩
            subst c0
            simp (disch := (first | assumption | trivial | omega)) only [v_nb7 h, v_pu7 h, lit, neg1, oI_s, addN, mulN, subN, clN, gdN, ltN, leN, eqN, nIo, oIn, oI_eq, divN, remN, giT, giF, lzE, prE, bdE, smL, smR, shlN, shrN, hasE, andN, orN, bit1, bit0, max7, min7, giTr, giFa, gdp, litL, i2l, addL, mulL, divL, remL, cmLe, cmGt, cmGe, cmEq, eqL]
          · rw [if_neg c]
            refine ⟨?_, by omega⟩
            subst c0
            simp (disch := (first | assumption | trivial | omega)) only [v_nb7 h, v_pu7 h, lit, neg1, oI_s, addN, mulN, subN, clN, gdN, ltN, leN, eqN, nIo, oIn, oI_eq, divN, remN, giT, giF, lzE, prE, bdE, smL, smR, shlN, shrN, hasE, andN, orN, bit1, bit0, max7, min7, giTr, giFa, gdp, litL, i2l, addL, mulL, divL, remL, cmLe, cmGt, cmGe, cmEq, eqL]
        · rw [if_neg c0]
          obtain ⟨a, rfl⟩ : ∃ b, a = b + 1 := ⟨a - 1, by omega⟩
          have hpa := b_pu h (b := a) (by omega)
          rw [Nat.add_sub_cancel]
          by_cases c : S 13 a < S 13 k
          · rw [if_pos c]
            refine ⟨?_, by omega⟩
            simp (disch := (first | assumption | trivial | omega)) only [v_nb7 h, v_pu7 h, lit, neg1, oI_s, addN, mulN, subN, clN, gdN, ltN, leN, eqN, nIo, oIn, oI_eq, divN, remN, giT, giF, lzE, prE, bdE, smL, smR, shlN, shrN, hasE, andN, orN, bit1, bit0, max7, min7, giTr, giFa, gdp, litL, i2l, addL, mulL, divL, remL, cmLe, cmGt, cmGe, cmEq, eqL]
          · rw [if_neg c]
            refine ⟨?_, by omega⟩
            simp (disch := (first | assumption | trivial | omega)) only [v_nb7 h, v_pu7 h, lit, neg1, oI_s, addN, mulN, subN, clN, gdN, ltN, leN, eqN, nIo, oIn, oI_eq, divN, remN, giT, giF, lzE, prE, bdE, smL, smR, shlN, shrN, hasE, andN, orN, bit1, bit0, max7, min7, giTr, giFa, gdp, litL, i2l, addL, mulL, divL, remL, cmLe, cmGt, cmGe, cmEq, eqL])
  have R6 := lp_run (fun n k (a : Nat) => fX6_richest_6 n (oI a) (nI (if a = 0 then 0 else S 13 (a - 1))) (nI k) IC) (S 0 0) (fun k a => if (if a = 0 then 0 else S 13 (a - 1)) < S 13 k then k + 1 else a) (oI) (fun k a => a ≤ k) 0 (by first | decide | omega) (by omega)
      (fun n a hP => by
        try dsimp only
        rw [sX6_richest_6, fX6_richest_6b]
        simp (disch := (first | assumption | trivial | omega)) only [v_nb6 h, lit, neg1, oI_s, addN, mulN, subN, clN, gdN, ltN, leN, eqN, nIo, oIn, oI_eq, divN, remN, giT, giF, lzE, prE, bdE, smL, smR, shlN, shrN, hasE, andN, orN, bit1, bit0, max7, min7, giTr, giFa, gdp, litL, i2l, addL, mulL, divL, remL, cmLe, cmGt, cmGe, cmEq, eqL])
      (fun n k a hk hP => by
        try dsimp only at hP ⊢
        have hpk := b_pu h (b := k) (by omega)
        have hq : (if a = 0 then 0 else S 13 (a - 1)) < 1000 := by
          by_cases c0 : a = 0
          · rw [if_pos c0]; decide
          · rw [if_neg c0]; exact b_pu h (by omega)
        rw [sX6_richest_6, fX6_richest_6b]
        by_cases c : (if a = 0 then 0 else S 13 (a - 1)) < S 13 k
        · rw [if_pos c]
          refine ⟨?_, by omega⟩
          rw [if_neg (show ¬ k + 1 = 0 by omega), Nat.add_sub_cancel]
          simp (disch := (first | assumption | trivial | omega)) only [v_nb6 h, v_pu6 h, lit, neg1, oI_s, addN, mulN, subN, clN, gdN, ltN, leN, eqN, nIo, oIn, oI_eq, divN, remN, giT, giF, lzE, prE, bdE, smL, smR, shlN, shrN, hasE, andN, orN, bit1, bit0, max7, min7, giTr, giFa, gdp, litL, i2l, addL, mulL, divL, remL, cmLe, cmGt, cmGe, cmEq, eqL]
        · rw [if_neg c]
          refine ⟨?_, by omega⟩
          simp (disch := (first | assumption | trivial | omega)) only [v_nb6 h, v_pu6 h, lit, neg1, oI_s, addN, mulN, subN, clN, gdN, ltN, leN, eqN, nIo, oIn, oI_eq, divN, remN, giT, giF, lzE, prE, bdE, smL, smR, shlN, shrN, hasE, andN, orN, bit1, bit0, max7, min7, giTr, giFa, gdp, litL, i2l, addL, mulL, divL, remL, cmLe, cmGt, cmGe, cmEq, eqL])
  refine ⟨(oI (itr (fun k a => if (if a = 0 then 0 else S 13 (a - 1)) < S 13 k then k + 1 else a) 0 (S 0 0) 0)), ?_, ?_, hV⟩
  · unfold fX6_richest
    rw [show fX6_richest_6 FU (-1) 0 0 IC = _ from R6.1, bdE]
  · unfold fX7_richest
    rw [show fX7_richest_4 FU (-1) 0 IM = _ from R7.1, bdE]
theorem case_46 : st_46 V0 := by
  intro a1 IC IM JM hV
  obtain ⟨S, h⟩ := view hV
  have hn := b_nb h
  by_cases c : inR a1 5
  · obtain ⟨s, hs, rfl⟩ := id c
    have R7 := lp_run (fun n k (a : Nat) => fX7_wanted_13 n (nI s) (nI a) (nI k) IM) (S 0 0) (fun k a => if (S 3 k).testBit s = true then a + 1 else a) (nI) (fun k a => a ≤ k) 0 (by first | decide | omega) (by omega)
        (fun n a hP => by
          try dsimp only
          rw [sX7_wanted_13, fX7_wanted_13b]
          simp (disch := (first | assumption | trivial | omega)) only [v_nb7 h, lit, neg1, oI_s, addN, mulN, subN, clN, gdN, ltN, leN, eqN, nIo, oIn, oI_eq, divN, remN, giT, giF, lzE, prE, bdE, smL, smR, shlN, shrN, hasE, andN, orN, bit1, bit0, max7, min7, giTr, giFa, gdp, litL, i2l, addL, mulL, divL, remL, cmLe, cmGt, cmGe, cmEq, eqL])
        (fun n k a hk hP => by
          try dsimp only at hP ⊢
          rw [sX7_wanted_13, fX7_wanted_13b]
          by_cases c : (S 3 k).testBit s = true
          · refine ⟨?_, ?_⟩
            · simp (disch := (first | assumption | trivial | omega)) only [if_pos c, v_nb7 h, dw7p h, lit, neg1, oI_s, addN, mulN, subN, clN, gdN, ltN, leN, eqN, nIo, oIn, oI_eq, divN, remN, giT, giF, lzE, prE, bdE, smL, smR, shlN, shrN, hasE, andN, orN, bit1, bit0, max7, min7, giTr, giFa, gdp, litL, i2l, addL, mulL, divL, remL, cmLe, cmGt, cmGe, cmEq, eqL]
            · first | trivial | omega | (simp only [if_pos c]; first | trivial | omega)
          · refine ⟨?_, ?_⟩
            · simp (disch := (first | assumption | trivial | omega)) only [if_neg c, v_nb7 h, dw7n h, Nat.add_zero, lit, neg1, oI_s, addN, mulN, subN, clN, gdN, ltN, leN, eqN, nIo, oIn, oI_eq, divN, remN, giT, giF, lzE, prE, bdE, smL, smR, shlN, shrN, hasE, andN, orN, bit1, bit0, max7, min7, giTr, giFa, gdp, litL, i2l, addL, mulL, divL, remL, cmLe, cmGt, cmGe, cmEq, eqL]
            · first | trivial | omega | (simp only [if_neg c]; first | trivial | omega))
    have R6 := lp_run (fun n k (a : Nat) => fX6_wanted_13 n (nI s) (nI a) (nI k) IC) (S 0 0) (fun k a => if (S 3 k).testBit s = true then a + 1 else a) (nI) (fun k a => a ≤ k) 0 (by first | decide | omega) (by omega)
        (fun n a hP => by
          try dsimp only
          rw [sX6_wanted_13, fX6_wanted_13b]
          simp (disch := (first | assumption | trivial | omega)) only [v_nb6 h, lit, neg1, oI_s, addN, mulN, subN, clN, gdN, ltN, leN, eqN, nIo, oIn, oI_eq, divN, remN, giT, giF, lzE, prE, bdE, smL, smR, shlN, shrN, hasE, andN, orN, bit1, bit0, max7, min7, giTr, giFa, gdp, litL, i2l, addL, mulL, divL, remL, cmLe, cmGt, cmGe, cmEq, eqL])
        (fun n k a hk hP => by
          try dsimp only at hP ⊢
          have hwk := (b_bu h (b := k) (by omega)).1
          rw [sX6_wanted_13, fX6_wanted_13b]
          by_cases c : (S 3 k).testBit s = true
          · refine ⟨?_, ?_⟩
            · simp (disch := (first | assumption | trivial | omega)) only [if_pos c, v_nb6 h, v_wa6 h, lit, neg1, oI_s, addN, mulN, subN, clN, gdN, ltN, leN, eqN, nIo, oIn, oI_eq, divN, remN, giT, giF, lzE, prE, bdE, smL, smR, shlN, shrN, hasE, andN, orN, bit1, bit0, max7, min7, giTr, giFa, gdp, litL, i2l, addL, mulL, divL, remL, cmLe, cmGt, cmGe, cmEq, eqL]
            · first | trivial | omega | (simp only [if_pos c]; first | trivial | omega)
          · refine ⟨?_, ?_⟩
            · simp (disch := (first | assumption | trivial | omega)) only [if_neg c, v_nb6 h, v_wa6 h, Nat.add_zero, lit, neg1, oI_s, addN, mulN, subN, clN, gdN, ltN, leN, eqN, nIo, oIn, oI_eq, divN, remN, giT, giF, lzE, prE, bdE, smL, smR, shlN, shrN, hasE, andN, orN, bit1, bit0, max7, min7, giTr, giFa, gdp, litL, i2l, addL, mulL, divL, remL, cmLe, cmGt, cmGe, cmEq, eqL]
            · first | trivial | omega | (simp only [if_neg c]; first | trivial | omega))
    refine ⟨(nI (itr (fun k a => if (S 3 k).testBit s = true then a + 1 else a) 0 (S 0 0) 0)), ?_, ?_, hV⟩
    · unfold fX6_wanted
      simp (disch := (first | assumption | trivial | omega)) only [isSort6_pos c, R6.1, lit, neg1, oI_s, addN, mulN, subN, clN, gdN, ltN, leN, eqN, nIo, oIn, oI_eq, divN, remN, giT, giF, lzE, prE, bdE, smL, smR, shlN, shrN, hasE, andN, orN, bit1, bit0, max7, min7, giTr, giFa, gdp, litL, i2l, addL, mulL, divL, remL, cmLe, cmGt, cmGe, cmEq, eqL]
    · unfold fX7_wanted
      simp (disch := (first | assumption | trivial | omega)) only [isSort7_pos c, R7.1, lit, neg1, oI_s, addN, mulN, subN, clN, gdN, ltN, leN, eqN, nIo, oIn, oI_eq, divN, remN, giT, giF, lzE, prE, bdE, smL, smR, shlN, shrN, hasE, andN, orN, bit1, bit0, max7, min7, giTr, giFa, gdp, litL, i2l, addL, mulL, divL, remL, cmLe, cmGt, cmGe, cmEq, eqL]
  · refine ⟨-1, ?_, ?_, hV⟩
    · unfold fX6_wanted
      simp (disch := (first | assumption | trivial | omega)) only [isSort6_neg c, lit, neg1, oI_s, addN, mulN, subN, clN, gdN, ltN, leN, eqN, nIo, oIn, oI_eq, divN, remN, giT, giF, lzE, prE, bdE, smL, smR, shlN, shrN, hasE, andN, orN, bit1, bit0, max7, min7, giTr, giFa, gdp, litL, i2l, addL, mulL, divL, remL, cmLe, cmGt, cmGe, cmEq, eqL]
    · unfold fX7_wanted
      simp (disch := (first | assumption | trivial | omega)) only [isSort7_neg c, lit, neg1, oI_s, addN, mulN, subN, clN, gdN, ltN, leN, eqN, nIo, oIn, oI_eq, divN, remN, giT, giF, lzE, prE, bdE, smL, smR, shlN, shrN, hasE, andN, orN, bit1, bit0, max7, min7, giTr, giFa, gdp, litL, i2l, addL, mulL, divL, remL, cmLe, cmGt, cmGe, cmEq, eqL]
theorem case_44 : st_44 V0 := by
  intro a1 IC IM JM hV
  obtain ⟨S, h⟩ := view hV
  have hn := b_nb h
  by_cases c : inR a1 (S 0 0)
  · obtain ⟨b, hb, rfl⟩ := id c
    have R7 := lp_run (fun n k (a : Nat) => fX7_rival_14 n (nI b) (nI a) (nI k) IM) (S 0 0) (bst (fun k => ¬ k = b ∧ ¬ (S 3 k &&& S 3 b) = 0 ∧ ¬ (sq S k &&& sq S b) = 0)) (nI) (fun _ _ => True) 0 (by first | decide | omega) (trivial)
        (fun n a hP => by
          try dsimp only
          rw [sX7_rival_14, fX7_rival_14b]
          simp (disch := (first | assumption | trivial | omega)) only [v_nb7 h, lit, neg1, oI_s, addN, mulN, subN, clN, gdN, ltN, leN, eqN, nIo, oIn, oI_eq, divN, remN, giT, giF, lzE, prE, bdE, smL, smR, shlN, shrN, hasE, andN, orN, bit1, bit0, max7, min7, giTr, giFa, gdp, litL, i2l, addL, mulL, divL, remL, cmLe, cmGt, cmGe, cmEq, eqL])
        (fun n k a hk hP => by
          try dsimp only at hP ⊢
          have hp := p2s (k := k) (by omega)
          have b1 := b_bu h (b := k) (by omega)
          have b2 := sq_lt h (b := k) (by omega)
          have b3 : S 3 k &&& S 3 b ≤ S 3 k := Nat.and_le_left
          have b4 : sq S k &&& sq S b ≤ sq S k := Nat.and_le_left
          refine ⟨?_, trivial⟩
          rw [sX7_rival_14, fX7_rival_14b]
          by_cases c1 : k = b
          · rw [bst_n (fun q => q.1 c1)]
            simp (disch := (first | assumption | trivial | omega)) only [v_nb7 h, v_wa7 h, sl7 h, lit, neg1, oI_s, addN, mulN, subN, clN, gdN, ltN, leN, eqN, nIo, oIn, oI_eq, divN, remN, giT, giF, lzE, prE, bdE, smL, smR, shlN, shrN, hasE, andN, orN, bit1, bit0, max7, min7, giTr, giFa, gdp, litL, i2l, addL, mulL, divL, remL, cmLe, cmGt, cmGe, cmEq, eqL]
          · by_cases c2 : (S 3 k &&& S 3 b) = 0
            · rw [bst_n (fun q => q.2.1 c2)]
              simp (disch := (first | assumption | trivial | omega)) only [v_nb7 h, v_wa7 h, sl7 h, lit, neg1, oI_s, addN, mulN, subN, clN, gdN, ltN, leN, eqN, nIo, oIn, oI_eq, divN, remN, giT, giF, lzE, prE, bdE, smL, smR, shlN, shrN, hasE, andN, orN, bit1, bit0, max7, min7, giTr, giFa, gdp, litL, i2l, addL, mulL, divL, remL, cmLe, cmGt, cmGe, cmEq, eqL]
            · by_cases c3 : (sq S k &&& sq S b) = 0
              · rw [bst_n (fun q => q.2.2 c3)]
                simp (disch := (first | assumption | trivial | omega)) only [v_nb7 h, v_wa7 h, sl7 h, lit, neg1, oI_s, addN, mulN, subN, clN, gdN, ltN, leN, eqN, nIo, oIn, oI_eq, divN, remN, giT, giF, lzE, prE, bdE, smL, smR, shlN, shrN, hasE, andN, orN, bit1, bit0, max7, min7, giTr, giFa, gdp, litL, i2l, addL, mulL, divL, remL, cmLe, cmGt, cmGe, cmEq, eqL]
              · rw [bst_p ⟨c1, c2, c3⟩]
                simp (disch := (first | assumption | trivial | omega)) only [v_nb7 h, v_wa7 h, sl7 h, Nat.one_mul, lit, neg1, oI_s, addN, mulN, subN, clN, gdN, ltN, leN, eqN, nIo, oIn, oI_eq, divN, remN, giT, giF, lzE, prE, bdE, smL, smR, shlN, shrN, hasE, andN, orN, bit1, bit0, max7, min7, giTr, giFa, gdp, litL, i2l, addL, mulL, divL, remL, cmLe, cmGt, cmGe, cmEq, eqL])
    have R6 := lp_run (fun n k (a : Nat) => fX6_rival_14 n (nI b) (nI a) (nI k) IC) (S 0 0) (bst (fun k => ¬ k = b ∧ ¬ (S 3 k &&& S 3 b) = 0 ∧ ¬ (sq S k &&& sq S b) = 0)) (nI) (fun _ _ => True) 0 (by first | decide | omega) (trivial)
        (fun n a hP => by
          try dsimp only
          rw [sX6_rival_14, fX6_rival_14b]
          simp (disch := (first | assumption | trivial | omega)) only [v_nb6 h, lit, neg1, oI_s, addN, mulN, subN, clN, gdN, ltN, leN, eqN, nIo, oIn, oI_eq, divN, remN, giT, giF, lzE, prE, bdE, smL, smR, shlN, shrN, hasE, andN, orN, bit1, bit0, max7, min7, giTr, giFa, gdp, litL, i2l, addL, mulL, divL, remL, cmLe, cmGt, cmGe, cmEq, eqL])
        (fun n k a hk hP => by
          try dsimp only at hP ⊢
          have hp := p2s (k := k) (by omega)
          have b1 := b_bu h (b := k) (by omega)
          have b2 := sq_lt h (b := k) (by omega)
          have b3 : S 3 k &&& S 3 b ≤ S 3 k := Nat.and_le_left
          have b4 : sq S k &&& sq S b ≤ sq S k := Nat.and_le_left
          refine ⟨?_, trivial⟩
          rw [sX6_rival_14, fX6_rival_14b]
          by_cases c2 : (S 3 k &&& S 3 b) = 0
          · rw [bst_n (fun q => q.2.1 c2)]
            by_cases c3 : (sq S k &&& sq S b) = 0
            · by_cases c1 : k = b
              · simp (disch := (first | assumption | trivial | omega)) only [v_nb6 h, v_wa6 h, sl6 h, lit, neg1, oI_s, addN, mulN, subN, clN, gdN, ltN, leN, eqN, nIo, oIn, oI_eq, divN, remN, giT, giF, lzE, prE, bdE, smL, smR, shlN, shrN, hasE, andN, orN, bit1, bit0, max7, min7, giTr, giFa, gdp, litL, i2l, addL, mulL, divL, remL, cmLe, cmGt, cmGe, cmEq, eqL]
              · simp (disch := (first | assumption | trivial | omega)) only [v_nb6 h, v_wa6 h, sl6 h, lit, neg1, oI_s, addN, mulN, subN, clN, gdN, ltN, leN, eqN, nIo, oIn, oI_eq, divN, remN, giT, giF, lzE, prE, bdE, smL, smR, shlN, shrN, hasE, andN, orN, bit1, bit0, max7, min7, giTr, giFa, gdp, litL, i2l, addL, mulL, divL, remL, cmLe, cmGt, cmGe, cmEq, eqL]
            · by_cases c1 : k = b
              · simp (disch := (first | assumption | trivial | omega)) only [v_nb6 h, v_wa6 h, sl6 h, lit, neg1, oI_s, addN, mulN, subN, clN, gdN, ltN, leN, eqN, nIo, oIn, oI_eq, divN, remN, giT, giF, lzE, prE, bdE, smL, smR, shlN, shrN, hasE, andN, orN, bit1, bit0, max7, min7, giTr, giFa, gdp, litL, i2l, addL, mulL, divL, remL, cmLe, cmGt, cmGe, cmEq, eqL]
              · simp (disch := (first | assumption | trivial | omega)) only [v_nb6 h, v_wa6 h, sl6 h, lit, neg1, oI_s, addN, mulN, subN, clN, gdN, ltN, leN, eqN, nIo, oIn, oI_eq, divN, remN, giT, giF, lzE, prE, bdE, smL, smR, shlN, shrN, hasE, andN, orN, bit1, bit0, max7, min7, giTr, giFa, gdp, litL, i2l, addL, mulL, divL, remL, cmLe, cmGt, cmGe, cmEq, eqL]
          · by_cases c3 : (sq S k &&& sq S b) = 0
            · rw [bst_n (fun q => q.2.2 c3)]
              by_cases c1 : k = b
              · simp (disch := (first | assumption | trivial | omega)) only [v_nb6 h, v_wa6 h, sl6 h, lit, neg1, oI_s, addN, mulN, subN, clN, gdN, ltN, leN, eqN, nIo, oIn, oI_eq, divN, remN, giT, giF, lzE, prE, bdE, smL, smR, shlN, shrN, hasE, andN, orN, bit1, bit0, max7, min7, giTr, giFa, gdp, litL, i2l, addL, mulL, divL, remL, cmLe, cmGt, cmGe, cmEq, eqL]
              · simp (disch := (first | assumption | trivial | omega)) only [v_nb6 h, v_wa6 h, sl6 h, lit, neg1, oI_s, addN, mulN, subN, clN, gdN, ltN, leN, eqN, nIo, oIn, oI_eq, divN, remN, giT, giF, lzE, prE, bdE, smL, smR, shlN, shrN, hasE, andN, orN, bit1, bit0, max7, min7, giTr, giFa, gdp, litL, i2l, addL, mulL, divL, remL, cmLe, cmGt, cmGe, cmEq, eqL]
            · by_cases c1 : k = b
              · rw [bst_n (fun q => q.1 c1)]
                simp (disch := (first | assumption | trivial | omega)) only [v_nb6 h, v_wa6 h, sl6 h, lit, neg1, oI_s, addN, mulN, subN, clN, gdN, ltN, leN, eqN, nIo, oIn, oI_eq, divN, remN, giT, giF, lzE, prE, bdE, smL, smR, shlN, shrN, hasE, andN, orN, bit1, bit0, max7, min7, giTr, giFa, gdp, litL, i2l, addL, mulL, divL, remL, cmLe, cmGt, cmGe, cmEq, eqL]
              · rw [bst_p ⟨c1, c2, c3⟩]
                simp (disch := (first | assumption | trivial | omega)) only [v_nb6 h, v_wa6 h, sl6 h, Nat.one_mul, lit, neg1, oI_s, addN, mulN, subN, clN, gdN, ltN, leN, eqN, nIo, oIn, oI_eq, divN, remN, giT, giF, lzE, prE, bdE, smL, smR, shlN, shrN, hasE, andN, orN, bit1, bit0, max7, min7, giTr, giFa, gdp, litL, i2l, addL, mulL, divL, remL, cmLe, cmGt, cmGe, cmEq, eqL])
    refine ⟨(nI (itr (bst (fun k => ¬ k = b ∧ ¬ (S 3 k &&& S 3 b) = 0 ∧ ¬ (sq S k &&& sq S b) = 0)) 0 (S 0 0) 0)), ?_, ?_, hV⟩
    · unfold fX6_rival
      simp (disch := (first | assumption | trivial | omega)) only [isB6p h c, R6.1, lit, neg1, oI_s, addN, mulN, subN, clN, gdN, ltN, leN, eqN, nIo, oIn, oI_eq, divN, remN, giT, giF, lzE, prE, bdE, smL, smR, shlN, shrN, hasE, andN, orN, bit1, bit0, max7, min7, giTr, giFa, gdp, litL, i2l, addL, mulL, divL, remL, cmLe, cmGt, cmGe, cmEq, eqL]
    · unfold fX7_rival
      simp (disch := (first | assumption | trivial | omega)) only [isB7p h c, R7.1, lit, neg1, oI_s, addN, mulN, subN, clN, gdN, ltN, leN, eqN, nIo, oIn, oI_eq, divN, remN, giT, giF, lzE, prE, bdE, smL, smR, shlN, shrN, hasE, andN, orN, bit1, bit0, max7, min7, giTr, giFa, gdp, litL, i2l, addL, mulL, divL, remL, cmLe, cmGt, cmGe, cmEq, eqL]
  · refine ⟨-1, ?_, ?_, hV⟩
    · unfold fX6_rival
      simp (disch := (first | assumption | trivial | omega)) only [isB6n h c, lit, neg1, oI_s, addN, mulN, subN, clN, gdN, ltN, leN, eqN, nIo, oIn, oI_eq, divN, remN, giT, giF, lzE, prE, bdE, smL, smR, shlN, shrN, hasE, andN, orN, bit1, bit0, max7, min7, giTr, giFa, gdp, litL, i2l, addL, mulL, divL, remL, cmLe, cmGt, cmGe, cmEq, eqL]
    · unfold fX7_rival
      simp (disch := (first | assumption | trivial | omega)) only [isB7n h c, lit, neg1, oI_s, addN, mulN, subN, clN, gdN, ltN, leN, eqN, nIo, oIn, oI_eq, divN, remN, giT, giF, lzE, prE, bdE, smL, smR, shlN, shrN, hasE, andN, orN, bit1, bit0, max7, min7, giTr, giFa, gdp, litL, i2l, addL, mulL, divL, remL, cmLe, cmGt, cmGe, cmEq, eqL]
theorem case_47 : st_47 V0 := by
  intro a1 IC IM JM hV
  obtain ⟨S, h⟩ := view hV
  have hn := b_nb h
  by_cases c : inR a1 (S 0 0)
  · obtain ⟨b, hb, rfl⟩ := id c
    have R7 := lp_run (fun n k (a : Nat) => fX7_alone_18 n (nI b) (nI a) (nI k) IM) (S 0 0) (fun k a => if k = b then a else andn a (sq S k)) (nI) (fun _ _ => True) (sq S b) (by first | decide | omega) (trivial)
        (fun n a hP => by
          try dsimp only
          rw [sX7_alone_18, fX7_alone_18b]
          simp (disch := (first | assumption | trivial | omega)) only [v_nb7 h, lit, neg1, oI_s, addN, mulN, subN, clN, gdN, ltN, leN, eqN, nIo, oIn, oI_eq, divN, remN, giT, giF, lzE, prE, bdE, smL, smR, shlN, shrN, hasE, andN, orN, bit1, bit0, max7, min7, giTr, giFa, gdp, litL, i2l, addL, mulL, divL, remL, cmLe, cmGt, cmGe, cmEq, eqL])
        (fun n k a hk hP => by
          try dsimp only at hP ⊢
          have b2 := sq_lt h (b := k) (by omega)
          rw [sX7_alone_18, fX7_alone_18b]
          by_cases c : k = b
          · refine ⟨?_, ?_⟩
            · simp (disch := (first | assumption | trivial | omega)) only [if_pos c, v_nb7 h, sl7 h, lit, neg1, oI_s, addN, mulN, subN, clN, gdN, ltN, leN, eqN, nIo, oIn, oI_eq, divN, remN, giT, giF, lzE, prE, bdE, smL, smR, shlN, shrN, hasE, andN, orN, bit1, bit0, max7, min7, giTr, giFa, gdp, litL, i2l, addL, mulL, divL, remL, cmLe, cmGt, cmGe, cmEq, eqL]
            · first | trivial | omega | (simp only [if_pos c]; first | trivial | omega)
          · refine ⟨?_, ?_⟩
            · simp (disch := (first | assumption | trivial | omega)) only [if_neg c, v_nb7 h, sl7 h, notN', andn, lit, neg1, oI_s, addN, mulN, subN, clN, gdN, ltN, leN, eqN, nIo, oIn, oI_eq, divN, remN, giT, giF, lzE, prE, bdE, smL, smR, shlN, shrN, hasE, andN, orN, bit1, bit0, max7, min7, giTr, giFa, gdp, litL, i2l, addL, mulL, divL, remL, cmLe, cmGt, cmGe, cmEq, eqL]
            · first | trivial | omega | (simp only [if_neg c]; first | trivial | omega))
    have R6 := lp_run (fun n k (a : Nat) => fX6_alone_21 n (nI b) (nI a) (nI k) IC) (S 0 0) (fun k a => if k = b then a else andn a (sq S k)) (nI) (fun _ _ => True) (sq S b) (by first | decide | omega) (trivial)
        (fun n a hP => by
          try dsimp only
          rw [sX6_alone_21, fX6_alone_21b]
          simp (disch := (first | assumption | trivial | omega)) only [v_nb6 h, lit, neg1, oI_s, addN, mulN, subN, clN, gdN, ltN, leN, eqN, nIo, oIn, oI_eq, divN, remN, giT, giF, lzE, prE, bdE, smL, smR, shlN, shrN, hasE, andN, orN, bit1, bit0, max7, min7, giTr, giFa, gdp, litL, i2l, addL, mulL, divL, remL, cmLe, cmGt, cmGe, cmEq, eqL])
        (fun n k a hk hP => by
          try dsimp only at hP ⊢
          have b2 := sq_lt h (b := k) (by omega)
          rw [sX6_alone_21, fX6_alone_21b]
          by_cases c : k = b
          · refine ⟨?_, ?_⟩
            · simp (disch := (first | assumption | trivial | omega)) only [if_pos c, v_nb6 h, sl6 h, lit, neg1, oI_s, addN, mulN, subN, clN, gdN, ltN, leN, eqN, nIo, oIn, oI_eq, divN, remN, giT, giF, lzE, prE, bdE, smL, smR, shlN, shrN, hasE, andN, orN, bit1, bit0, max7, min7, giTr, giFa, gdp, litL, i2l, addL, mulL, divL, remL, cmLe, cmGt, cmGe, cmEq, eqL]
            · first | trivial | omega | (simp only [if_pos c]; first | trivial | omega)
          · refine ⟨?_, ?_⟩
            · simp (disch := (first | assumption | trivial | omega)) only [if_neg c, v_nb6 h, sl6 h, notN', andn, lit, neg1, oI_s, addN, mulN, subN, clN, gdN, ltN, leN, eqN, nIo, oIn, oI_eq, divN, remN, giT, giF, lzE, prE, bdE, smL, smR, shlN, shrN, hasE, andN, orN, bit1, bit0, max7, min7, giTr, giFa, gdp, litL, i2l, addL, mulL, divL, remL, cmLe, cmGt, cmGe, cmEq, eqL]
            · first | trivial | omega | (simp only [if_neg c]; first | trivial | omega))
    refine ⟨(nI (itr (fun k a => if k = b then a else andn a (sq S k)) 0 (S 0 0) (sq S b))), ?_, ?_, hV⟩
    · unfold fX6_alone
      simp (disch := (first | assumption | trivial | omega)) only [isB6p h c, sl6 h, R6.1, lit, neg1, oI_s, addN, mulN, subN, clN, gdN, ltN, leN, eqN, nIo, oIn, oI_eq, divN, remN, giT, giF, lzE, prE, bdE, smL, smR, shlN, shrN, hasE, andN, orN, bit1, bit0, max7, min7, giTr, giFa, gdp, litL, i2l, addL, mulL, divL, remL, cmLe, cmGt, cmGe, cmEq, eqL]
    · unfold fX7_alone
      simp (disch := (first | assumption | trivial | omega)) only [isB7p h c, sl7 h, R7.1, lit, neg1, oI_s, addN, mulN, subN, clN, gdN, ltN, leN, eqN, nIo, oIn, oI_eq, divN, remN, giT, giF, lzE, prE, bdE, smL, smR, shlN, shrN, hasE, andN, orN, bit1, bit0, max7, min7, giTr, giFa, gdp, litL, i2l, addL, mulL, divL, remL, cmLe, cmGt, cmGe, cmEq, eqL]
  · refine ⟨-1, ?_, ?_, hV⟩
    · unfold fX6_alone
      simp (disch := (first | assumption | trivial | omega)) only [isB6n h c, lit, neg1, oI_s, addN, mulN, subN, clN, gdN, ltN, leN, eqN, nIo, oIn, oI_eq, divN, remN, giT, giF, lzE, prE, bdE, smL, smR, shlN, shrN, hasE, andN, orN, bit1, bit0, max7, min7, giTr, giFa, gdp, litL, i2l, addL, mulL, divL, remL, cmLe, cmGt, cmGe, cmEq, eqL]
    · unfold fX7_alone
      simp (disch := (first | assumption | trivial | omega)) only [isB7n h c, lit, neg1, oI_s, addN, mulN, subN, clN, gdN, ltN, leN, eqN, nIo, oIn, oI_eq, divN, remN, giT, giF, lzE, prE, bdE, smL, smR, shlN, shrN, hasE, andN, orN, bit1, bit0, max7, min7, giTr, giFa, gdp, litL, i2l, addL, mulL, divL, remL, cmLe, cmGt, cmGe, cmEq, eqL]
theorem case_49 : st_49 V0 := by
  intro IC IM JM hV
  obtain ⟨S, h⟩ := view hV
  have hn := b_nb h
  have hw := b_w h
  have R7 := lp_run (fun n k (a : Nat) => fX7_idle_7 n (nI a) (nI k) IM) (S 0 0) (fun k a => if (S 3 k).testBit (S 10 3) = true then andn a (sq S k) else a) (nI) (fun _ _ => True) (S 10 5) (by first | decide | omega) (trivial)
      (fun n a hP => by
        try dsimp only
        rw [sX7_idle_7, fX7_idle_7b]
        simp (disch := (first | assumption | trivial | omega)) only [v_nb7 h, lit, neg1, oI_s, addN, mulN, subN, clN, gdN, ltN, leN, eqN, nIo, oIn, oI_eq, divN, remN, giT, giF, lzE, prE, bdE, smL, smR, shlN, shrN, hasE, andN, orN, bit1, bit0, max7, min7, giTr, giFa, gdp, litL, i2l, addL, mulL, divL, remL, cmLe, cmGt, cmGe, cmEq, eqL])
      (fun n k a hk hP => by
        try dsimp only at hP ⊢
        have b2 := sq_lt h (b := k) (by omega)
        rw [sX7_idle_7, fX7_idle_7b]
        by_cases c : (S 3 k).testBit (S 10 3) = true
        · refine ⟨?_, ?_⟩
          · simp (disch := (first | assumption | trivial | omega)) only [if_pos c, v_nb7 h, v_so7 h, dw7p h, sl7 h, notN', andn, lit, neg1, oI_s, addN, mulN, subN, clN, gdN, ltN, leN, eqN, nIo, oIn, oI_eq, divN, remN, giT, giF, lzE, prE, bdE, smL, smR, shlN, shrN, hasE, andN, orN, bit1, bit0, max7, min7, giTr, giFa, gdp, litL, i2l, addL, mulL, divL, remL, cmLe, cmGt, cmGe, cmEq, eqL]
          · first | trivial | omega | (simp only [if_pos c]; first | trivial | omega)
        · refine ⟨?_, ?_⟩
          · simp (disch := (first | assumption | trivial | omega)) only [if_neg c, v_nb7 h, v_so7 h, dw7n h, lit, neg1, oI_s, addN, mulN, subN, clN, gdN, ltN, leN, eqN, nIo, oIn, oI_eq, divN, remN, giT, giF, lzE, prE, bdE, smL, smR, shlN, shrN, hasE, andN, orN, bit1, bit0, max7, min7, giTr, giFa, gdp, litL, i2l, addL, mulL, divL, remL, cmLe, cmGt, cmGe, cmEq, eqL]
          · first | trivial | omega | (simp only [if_neg c]; first | trivial | omega))
  have R6 := lp_run (fun n k (a : Nat) => fX6_idle_13 n (nI a) (nI k) IC) (S 0 0) (fun k a => if (S 3 k).testBit (S 10 3) = true then andn a (sq S k) else a) (nI) (fun _ _ => True) (S 10 5) (by first | decide | omega) (trivial)
      (fun n a hP => by
        try dsimp only
        rw [sX6_idle_13, fX6_idle_13b]
        simp (disch := (first | assumption | trivial | omega)) only [v_nb6 h, lit, neg1, oI_s, addN, mulN, subN, clN, gdN, ltN, leN, eqN, nIo, oIn, oI_eq, divN, remN, giT, giF, lzE, prE, bdE, smL, smR, shlN, shrN, hasE, andN, orN, bit1, bit0, max7, min7, giTr, giFa, gdp, litL, i2l, addL, mulL, divL, remL, cmLe, cmGt, cmGe, cmEq, eqL])
      (fun n k a hk hP => by
        try dsimp only at hP ⊢
        have b2 := sq_lt h (b := k) (by omega)
        rw [sX6_idle_13, fX6_idle_13b]
        by_cases c : (S 3 k).testBit (S 10 3) = true
        · refine ⟨?_, ?_⟩
          · simp (disch := (first | assumption | trivial | omega)) only [if_pos c, v_nb6 h, v_so6 h, ws6p h, sl6 h, notN', andn, lit, neg1, oI_s, addN, mulN, subN, clN, gdN, ltN, leN, eqN, nIo, oIn, oI_eq, divN, remN, giT, giF, lzE, prE, bdE, smL, smR, shlN, shrN, hasE, andN, orN, bit1, bit0, max7, min7, giTr, giFa, gdp, litL, i2l, addL, mulL, divL, remL, cmLe, cmGt, cmGe, cmEq, eqL]
          · first | trivial | omega | (simp only [if_pos c]; first | trivial | omega)
        · refine ⟨?_, ?_⟩
          · simp (disch := (first | assumption | trivial | omega)) only [if_neg c, v_nb6 h, v_so6 h, ws6n h, lit, neg1, oI_s, addN, mulN, subN, clN, gdN, ltN, leN, eqN, nIo, oIn, oI_eq, divN, remN, giT, giF, lzE, prE, bdE, smL, smR, shlN, shrN, hasE, andN, orN, bit1, bit0, max7, min7, giTr, giFa, gdp, litL, i2l, addL, mulL, divL, remL, cmLe, cmGt, cmGe, cmEq, eqL]
          · first | trivial | omega | (simp only [if_neg c]; first | trivial | omega))
  refine ⟨(nI (itr (fun k a => if (S 3 k).testBit (S 10 3) = true then andn a (sq S k) else a) 0 (S 0 0) (S 10 5))), ?_, ?_, hV⟩
  · unfold fX6_idle
    simp (disch := (first | assumption | trivial | omega)) only [v_f6 h, R6.1, lit, neg1, oI_s, addN, mulN, subN, clN, gdN, ltN, leN, eqN, nIo, oIn, oI_eq, divN, remN, giT, giF, lzE, prE, bdE, smL, smR, shlN, shrN, hasE, andN, orN, bit1, bit0, max7, min7, giTr, giFa, gdp, litL, i2l, addL, mulL, divL, remL, cmLe, cmGt, cmGe, cmEq, eqL]
  · unfold fX7_idle
    simp (disch := (first | assumption | trivial | omega)) only [fn7 h, R7.1, lit, neg1, oI_s, addN, mulN, subN, clN, gdN, ltN, leN, eqN, nIo, oIn, oI_eq, divN, remN, giT, giF, lzE, prE, bdE, smL, smR, shlN, shrN, hasE, andN, orN, bit1, bit0, max7, min7, giTr, giFa, gdp, litL, i2l, addL, mulL, divL, remL, cmLe, cmGt, cmGe, cmEq, eqL]
