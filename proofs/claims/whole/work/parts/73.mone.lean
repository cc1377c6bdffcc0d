-- 73: PURE PART: the reference's turn at an operand (out of wip/whole/pure by pure.py)
def wp7 (m : Nat) (M : gI) (J : gJ) (Q : Int32 → gI → gJ → Prop) : Prop := ∃ I, fX7_settle (nI 7) M = some I ∧ wpF m I J Q
/-- may a question begin here -/
def aaI (pl : Nat → Nat) (ps : Nat) : Nat := if onw pl ps = 42 then (if 40 ≤ pl (ps - 1) then 1 else if 1 ≤ rk (pl (ps - 1)) ∧ rk (pl (ps - 1)) ≤ 3 then 1 else 0) else 0
section MO
variable {tk tv tp ep : Nat → Nat} {B : gI} {t law i n ps x : Nat} {pl : Nat → Nat} {M : gI} {J : gJ}
theorem turn0 (h : PM tk tv tp ep B t law i n ps pl x 0 M J) (m : Nat) : fX7_summed_15 (m + 1) M J = bd (fX7_beginOne M J) (pr (fun (u13 : Int32) => pr (fun (I14 : gI) (J15 : gJ) => gi (u13 = 0) (fX7_summed_15 m I14 J15) (some (Sum.inr (u13, I14, J15)))))) := by
  have w0 : M 0 18 = nI 0 := h.2.2.2.2.2.2.2.1
  rw [sX7_summed_15, fX7_summed_15b, w0, gi_pos (show nI 0 = (0 : Int32) from rfl)]
theorem bg_fault {f : Int32} (h : PM tk tv tp ep B t law i n ps pl x 0 M J) (hf : ¬ f = 0) (e : fX7_beginOne M J = some (f, M, J)) (m : Nat) {Q : Int32 → gI → gJ → Prop} (q : Q f M J) : wpF (m + 1) M J Q := by
  refine ⟨f, M, J, ?_, q⟩
  unfold fnL
  rw [turn0 h, e, bdE, prE, prE, gi_neg hf]
  rfl
theorem bg_on {M' : gI} {J' : gJ} (h : PM tk tv tp ep B t law i n ps pl x 0 M J) (e : fX7_beginOne M J = some (0, M', J')) (m : Nat) {Q : Int32 → gI → gJ → Prop} (q : wpF m M' J' Q) : wpF (m + 1) M J Q := by
  obtain ⟨u, Mf, Jf, ef, q⟩ := q
  refine ⟨u, Mf, Jf, ?_, q⟩
  unfold fnL
  rw [turn0 h, e, bdE, prE, prE, gi_pos rfl]
  exact ef
theorem t91 (h : PM tk tv tp ep B t law i n ps pl x 0 M J) : (M 0 9 = 1) = (tk i = 24) := propext (ty_1 h.1.2.2)
/-- a name that isn't there -/
theorem nm_neg {k : Nat} (h : nmI k = 0) : oI (nmI k) < 0 := by rw [h]; decide
theorem nmI_le (k : Nat) : nmI k ≤ 8 := by
  unfold nmI
  split <;> omega
/-- from number or name to the next -/
theorem bg_lay {K : Nat} (hN : NXT tk tv tp ep B K) (h : PM tk tv tp ep B t law i n ps pl x 0 M J) (ht : t < 4) (hn : n < 304) (hi : i < K) (hk : ¬ tk i = 40) (c v : Nat) : ∃ M' J', bd (fX7_emit (nI c) (nI v) M) (fun (I21 : gI) => bd (fX7_nextToken I21 J) (pr (fun (I24 : gI) (J25 : gJ) => lz (wI I24 0 18 (1 : Int32)) (fun (I28 : gI) => bd (fX7_settle (7 : Int32) I28) (fun (I30 : gI) => some ((0 : Int32), I30, J25)))))) = bd (fX7_settle (7 : Int32) M') (fun (I30 : gI) => some ((0 : Int32), I30, J')) ∧ PM tk tv tp ep B t law (i + 1) (n + 1) ps pl x 1 M' J' ∧ KM t n M M' ∧ rC (M' 3) t n = nI c ∧ rO (M' 3) t n = nI v := by
  obtain ⟨A, eA, pA, kA, cA, oA, fA⟩ := emit7 h ht hn c v
  obtain ⟨A2, J2, e2, p2, k2⟩ := nx7 hN pA hi hk
  have r2 := KM_rc k2 (Nat.lt_succ_self n)
  refine ⟨wI A2 0 18 (nI 1), J2, ?_, ?_, KM_tr (KM_tr kA k2 (by omega)) (m := n) ⟨fun o a _ _ => wI_o a, fun k hk => wI_ne (by omega), fun k _ => by rw [wI_o (by omega)]⟩ (by omega), ?_, ?_⟩
  · rw [eA, bdE, e2, bdE, prE]
    rfl
  · obtain ⟨⟨h1, h2, h3⟩, ⟨h4, h5⟩, h6, h7, h8, h9, h10, h11, h12⟩ := p2
    refine ⟨?_, ?_, ?_, ?_, ?_, ?_, ?_, wI_eq, fun j hj => ?_⟩
    · simp (disch := omega) only [wI_ne]; exact ⟨h1, h2, h3⟩
    · simp (disch := omega) only [wI_ne, wI_o]; exact ⟨h4, h5⟩
    · rw [wI_ne (by omega)]; exact h6
    · rw [wI_ne (by omega)]; exact h7
    · rw [wI_ne (by omega)]; exact h8
    · rw [wI_ne (by omega)]; exact h9
    · rw [wI_ne (by omega)]; exact h10
    · rw [wI_o (by omega)]; exact h12 j hj
  · rw [wI_o (by omega), r2.1]; exact cA
  · rw [wI_o (by omega), r2.2]; exact oA
theorem wp7_on {M' : gI} {J' : gJ} (h : PM tk tv tp ep B t law i n ps pl x 0 M J) (e : fX7_beginOne M J = bd (fX7_settle (7 : Int32) M') (fun (I30 : gI) => some ((0 : Int32), I30, J'))) (m : Nat) {Q : Int32 → gI → gJ → Prop} (q : wp7 m M' J' Q) : wpF (m + 1) M J Q := by
  obtain ⟨I, eI, q⟩ := q
  refine bg_on (M' := I) (J' := J') h ?_ m q
  rw [e, show (7 : Int32) = nI 7 from rfl, eI]
  rfl
/-- a number -/
theorem bg_num {K : Nat} (hN : NXT tk tv tp ep B K) (h : PM tk tv tp ep B t law i n ps pl x 0 M J) (ht : t < 4) (hn : n < 304) (hi : i < K) (hk : tk i = 24) (hv : tv i < 10000) : ∃ M' J', PM tk tv tp ep B t law (i + 1) (n + 1) ps pl x 1 M' J' ∧ KM t n M M' ∧ rC (M' 3) t n = nI 0 ∧ rO (M' 3) t n = nI (tv i) ∧ ∀ m Q, wp7 m M' J' Q → wpF (m + 1) M J Q := by
  obtain ⟨M', J', e, p, k, c, o⟩ := bg_lay hN h ht hn hi (by omega) 0 (tv i)
  refine ⟨M', J', p, k, c, o, fun m Q q => wp7_on h ?_ m q⟩
  have e1 : M 0 9 = nI 1 := (ty_1 h.1.2.2).mpr hk
  have ev : M 0 10 = nI (tv i) := by
    rcases h.1.2.2 with z | ⟨_, _, z⟩ | z | z | z
    · omega
    · rcases z with z | z
      · exact z.2
      · omega
    · omega
    · omega
    · omega
  have en := nameOf_7 h.1.2.2
  rw [hk] at en
  have en' : fX7_nameOf M J = oI 0 := en
  unfold fX7_beginOne
  simp (disch := (first | assumption | trivial | omega)) only [e1, en', lzE, lit, giTr, gi_pos (show oI 0 < nI 0 by decide), ev, leN, giT]
  exact e
theorem bg_num9 (h : PM tk tv tp ep B t law i n ps pl x 0 M J) (hk : tk i = 24) (hv : ¬ tv i < 10000) : fX7_beginOne M J = some (2, M, J) := by
  have e1 : M 0 9 = nI 1 := (ty_1 h.1.2.2).mpr hk
  have ev : ¬ M 0 10 ≤ nI 9999 := by
    rcases h.1.2.2 with z | ⟨_, _, z⟩ | z | z | z
    · omega
    · rcases z with z | z
      · omega
      · exact Int32.not_le.mpr z.2
    · omega
    · omega
    · omega
  unfold fX7_beginOne
  simp (disch := (first | assumption | trivial | omega)) only [e1, lzE, lit, giTr, ev, giFa]
/-- a name -/
theorem isOf7 (h : PM tk tv tp ep B t law i n ps pl x 0 M J) (hl : law < 2) {v : Nat} (hv : v < 8) : fX7_isOf (nI v) M = nI (if v < 6 then 1 else if v = 6 then (if law = 0 then 1 else 0) else (if law = 1 then 1 else 0)) := by
  have e14 : M 0 14 = nI law := h.2.2.2.2.1
  unfold fX7_isOf
  by_cases c : v < 6
  · rw [if_pos c]
    simp (disch := (first | assumption | trivial | omega)) only [c, lit, neg1, oI_s, addN, mulN, subN, clN, gdN, ltN, leN, eqN, nIo, oIn, oI_eq, divN, remN, giT, giF, lzE, prE, bdE, smL, smR, shlN, shrN, hasE, andN, orN, bit1, bit0, max7, min7, giTr, giFa, gdp, litL, i2l, addL, mulL, divL, remL, cmLe, cmGt, cmGe, cmEq, eqL]
  · rw [if_neg c]
    by_cases d : v = 6
    · rw [if_pos d]
      subst d
      by_cases e : law = 0
      · rw [if_pos e]
        simp (disch := (first | assumption | trivial | omega)) only [e14, e, lit, neg1, oI_s, addN, mulN, subN, clN, gdN, ltN, leN, eqN, nIo, oIn, oI_eq, divN, remN, giT, giF, lzE, prE, bdE, smL, smR, shlN, shrN, hasE, andN, orN, bit1, bit0, max7, min7, giTr, giFa, gdp, litL, i2l, addL, mulL, divL, remL, cmLe, cmGt, cmGe, cmEq, eqL]
      · rw [if_neg e]
        simp (disch := (first | assumption | trivial | omega)) only [e14, e, lit, neg1, oI_s, addN, mulN, subN, clN, gdN, ltN, leN, eqN, nIo, oIn, oI_eq, divN, remN, giT, giF, lzE, prE, bdE, smL, smR, shlN, shrN, hasE, andN, orN, bit1, bit0, max7, min7, giTr, giFa, gdp, litL, i2l, addL, mulL, divL, remL, cmLe, cmGt, cmGe, cmEq, eqL]
    · rw [if_neg d]
      by_cases e : law = 1
      · rw [if_pos e]
        simp (disch := (first | assumption | trivial | omega)) only [e14, e, c, d, lit, neg1, oI_s, addN, mulN, subN, clN, gdN, ltN, leN, eqN, nIo, oIn, oI_eq, divN, remN, giT, giF, lzE, prE, bdE, smL, smR, shlN, shrN, hasE, andN, orN, bit1, bit0, max7, min7, giTr, giFa, gdp, litL, i2l, addL, mulL, divL, remL, cmLe, cmGt, cmGe, cmEq, eqL]
      · rw [if_neg e]
        simp (disch := (first | assumption | trivial | omega)) only [e14, e, c, d, lit, neg1, oI_s, addN, mulN, subN, clN, gdN, ltN, leN, eqN, nIo, oIn, oI_eq, divN, remN, giT, giF, lzE, prE, bdE, smL, smR, shlN, shrN, hasE, andN, orN, bit1, bit0, max7, min7, giTr, giFa, gdp, litL, i2l, addL, mulL, divL, remL, cmLe, cmGt, cmGe, cmEq, eqL]
theorem bg_name {K : Nat} (hN : NXT tk tv tp ep B K) (h : PM tk tv tp ep B t law i n ps pl x 0 M J) (ht : t < 4) (hl : law < 2) (hn : n < 304) (hi : i < K) {v : Nat} (hk : nmI (tk i) = v + 1) (hv : v < 6 ∨ (v = 6 ∧ law = 0) ∨ (v = 7 ∧ law = 1)) : ∃ M' J', PM tk tv tp ep B t law (i + 1) (n + 1) ps pl x 1 M' J' ∧ KM t n M M' ∧ rC (M' 3) t n = nI 1 ∧ rO (M' 3) t n = nI v ∧ ∀ m Q, wp7 m M' J' Q → wpF (m + 1) M J Q := by
  have hk40 : ¬ tk i = 40 := fun z => by rw [z] at hk; exact absurd hk (by simp [nmI])
  have hk24 : ¬ tk i = 24 := fun z => by rw [z] at hk; exact absurd hk (by simp [nmI])
  obtain ⟨M', J', e, p, k, c, o⟩ := bg_lay hN h ht hn hi hk40 1 v
  refine ⟨M', J', p, k, c, o, fun m Q q => wp7_on h ?_ m q⟩
  have en := nameOf_7 h.1.2.2
  rw [hk, oI_s] at en
  have e1 : ¬ M 0 9 = nI 1 := fun z => hk24 ((ty_1 h.1.2.2).mp z)
  have io := isOf7 h hl (v := v) (by omega)
  have io1 : fX7_isOf (nI v) M = nI 1 := by
    rw [io]
    rcases hv with z | ⟨z, y⟩ | ⟨z, y⟩
    · rw [if_pos z]
    · rw [if_neg (by omega), if_pos z, if_pos y]
    · rw [if_neg (by omega), if_neg (by omega), if_pos y]
  have hnn : ¬ v < 0 := by omega
  unfold fX7_beginOne
  simp (disch := (first | assumption | trivial | omega)) only [e1, en, lzE, lit, giFa, giF, ltN, hnn, io1, eqN]
  exact e
theorem bg_name5 (h : PM tk tv tp ep B t law i n ps pl x 0 M J) (hl : law < 2) {v : Nat} (hk : nmI (tk i) = v + 1) (hv : ¬ (v < 6 ∨ (v = 6 ∧ law = 0) ∨ (v = 7 ∧ law = 1))) : fX7_beginOne M J = some (5, M, J) := by
  have hv8 : v < 8 := by have := nmI_le (tk i); omega
  have hk24 : ¬ tk i = 24 := fun z => by rw [z] at hk; exact absurd hk (by simp [nmI])
  have en := nameOf_7 h.1.2.2
  rw [hk, oI_s] at en
  have e1 : ¬ M 0 9 = nI 1 := fun z => hk24 ((ty_1 h.1.2.2).mp z)
  have io := isOf7 h hl hv8
  have io1 : fX7_isOf (nI v) M = nI 0 := by
    rw [io, if_neg (by omega)]
    by_cases z : v = 6
    · rw [if_pos z, if_neg (by omega)]
    · rw [if_neg z, if_neg (by omega)]
  have hnn : ¬ v < 0 := by omega
  unfold fX7_beginOne
  simp (disch := (first | assumption | trivial | omega)) only [e1, en, lzE, lit, giFa, giF, ltN, hnn, io1, eqN, giTr]
/-- the others: what is opened, or a fault -/
theorem ask7 (h : PM tk tv tp ep B t law i n ps pl x 0 M J) (hp : ps < 160) (hpl : ∀ j, j < ps → pl j < 100) : fX7_isAskAhead M = some (nI (aaI pl ps)) := by
  have eo := onw7 h hp hpl
  have h9 := h.2.2.2.2.2.1
  have h12 := h.2.2.2.2.2.2.2.2
  have hle := oat_le (pl := pl) ps
  unfold fX7_isAskAhead aaI
  rw [eo, bdE]
  by_cases c : onw pl ps = 42
  · have hps : 0 < ps := by
      apply Decidable.byContradiction
      intro z
      have : ps = 0 := by omega
      subst this
      have z0 : onw pl 0 = 0 := rfl
      omega
    rw [if_pos c, c, oI_s, gi_pos (show nI 41 = (41 : Int32) from rfl)]
    have e := h12 (ps - 1) (by omega)
    have hb := hpl (ps - 1) (by omega)
    have q := rank7 hb
    have hr := rk_le (pl (ps - 1))
    by_cases d : 40 ≤ pl (ps - 1)
    · rw [if_pos d]
      simp (disch := (first | assumption | trivial | omega)) only [h9, e, d, lit, neg1, oI_s, addN, mulN, subN, clN, gdN, ltN, leN, eqN, nIo, oIn, oI_eq, divN, remN, giT, giF, lzE, prE, bdE, smL, smR, shlN, shrN, hasE, andN, orN, bit1, bit0, max7, min7, giTr, giFa, gdp, litL, i2l, addL, mulL, divL, remL, cmLe, cmGt, cmGe, cmEq, eqL]
    · rw [if_neg d]
      unfold fX7_isIn
      by_cases d1 : 1 ≤ rk (pl (ps - 1)) ∧ rk (pl (ps - 1)) ≤ 3
      · have f1 : ¬ rk (pl (ps - 1)) < 1 := by omega
        have f2 : ¬ 3 < rk (pl (ps - 1)) := by omega
        rw [if_pos d1]
        simp (disch := (first | assumption | trivial | omega)) only [h9, e, d, q, f1, f2, lit, neg1, oI_s, addN, mulN, subN, clN, gdN, ltN, leN, eqN, nIo, oIn, oI_eq, divN, remN, giT, giF, lzE, prE, bdE, smL, smR, shlN, shrN, hasE, andN, orN, bit1, bit0, max7, min7, giTr, giFa, gdp, litL, i2l, addL, mulL, divL, remL, cmLe, cmGt, cmGe, cmEq, eqL]
      · rw [if_neg d1]
        by_cases f1 : rk (pl (ps - 1)) < 1
        · simp (disch := (first | assumption | trivial | omega)) only [h9, e, d, q, f1, lit, neg1, oI_s, addN, mulN, subN, clN, gdN, ltN, leN, eqN, nIo, oIn, oI_eq, divN, remN, giT, giF, lzE, prE, bdE, smL, smR, shlN, shrN, hasE, andN, orN, bit1, bit0, max7, min7, giTr, giFa, gdp, litL, i2l, addL, mulL, divL, remL, cmLe, cmGt, cmGe, cmEq, eqL]
        · have f2 : 3 < rk (pl (ps - 1)) := by omega
          simp (disch := (first | assumption | trivial | omega)) only [h9, e, d, q, f1, f2, lit, neg1, oI_s, addN, mulN, subN, clN, gdN, ltN, leN, eqN, nIo, oIn, oI_eq, divN, remN, giT, giF, lzE, prE, bdE, smL, smR, shlN, shrN, hasE, andN, orN, bit1, bit0, max7, min7, giTr, giFa, gdp, litL, i2l, addL, mulL, divL, remL, cmLe, cmGt, cmGe, cmEq, eqL]
  · rw [if_neg c]
    have hb : onw pl ps < 102 := by
      unfold onw
      by_cases c : oat pl ps = 0
      · rw [if_pos c]; omega
      · rw [if_neg c]
        have := hpl (oat pl ps - 1) (by omega)
        omega
    rw [gi_neg]
    · rfl
    · intro q
      exact c ((oIn (a := onw pl ps) (b := 41) (by omega) (by omega)).mp q)
/-- what the others come to -/
theorem bg_oth (h : PM tk tv tp ep B t law i n ps pl x 0 M J) (hp : ps < 160) (hpl : ∀ j, j < ps → pl j < 100) (hk24 : ¬ tk i = 24) (hk : nmI (tk i) = 0) : fX7_beginOne M J = if tk i = 35 then fX7_opened 40 M J else if tk i = 32 then fX7_opened 5 M J else if tk i = 10 then fX7_opened 2 M J else if tk i = 11 then fX7_opened 4 M J else if tk i = 12 then fX7_opened 41 M J else if tk i = 18 ∧ aaI pl ps = 1 then fX7_opened 20 M J else some (1, M, J) := by
  have en := nameOf_7 h.1.2.2
  rw [hk] at en
  have e1 : ¬ M 0 9 = nI 1 := fun z => hk24 ((ty_1 h.1.2.2).mp z)
  have s40 := ty_s h.1.2.2 (j := 35) (by omega) (by omega)
  have s45 := ty_s h.1.2.2 (j := 32) (by omega) (by omega)
  simp only [sgn] at s40 s45
  have aa := ask7 h hp hpl
  have idp : ∀ c, bd (fX7_opened c M J) (pr (fun (u84 : Int32) => pr (fun (I85 : gI) (J86 : gJ) => some (u84, I85, J86)))) = fX7_opened c M J := by
    intro c
    cases e : fX7_opened c M J with
    | none => rfl
    | some z => rfl
  unfold fX7_beginOne
  rw [en, wd_worth, wd_purse, wd_if, wd_not]
  simp only [lzE, lit, e1, giFa, idp, gi_pos (show oI 0 < nI 0 by decide), s40, s45, aa, bdE]
  by_cases c1 : tk i = 35
  · rw [gi_pos c1, if_pos c1]
  · rw [gi_neg c1, if_neg c1]
    by_cases c2 : tk i = 32
    · rw [gi_pos c2, if_pos c2]
    · rw [gi_neg c2, if_neg c2]
      by_cases c3 : tk i = 10
      · rw [if_pos c3, isW_p h.1.2.2 (by omega) c3, gi_neg (show ¬ nI 1 = nI 0 by decide)]
      · rw [if_neg c3, isW_n h.1.2.2 (by omega) c3, gi_pos rfl]
        by_cases c4 : tk i = 11
        · rw [if_pos c4, isW_p h.1.2.2 (by omega) c4, gi_neg (show ¬ nI 1 = nI 0 by decide)]
        · rw [if_neg c4, isW_n h.1.2.2 (by omega) c4, gi_pos rfl]
          by_cases c5 : tk i = 12
          · rw [if_pos c5, isW_p h.1.2.2 (by omega) c5, gi_neg (show ¬ nI 1 = nI 0 by decide)]
          · rw [if_neg c5, isW_n h.1.2.2 (by omega) c5, gi_pos rfl]
            by_cases c6 : tk i = 18
            · rw [isW_p h.1.2.2 (by omega) c6, gi_neg (show ¬ nI 1 = nI 0 by decide)]
              by_cases c7 : aaI pl ps = 1
              · rw [if_pos ⟨c6, c7⟩, c7, gi_neg (show ¬ nI 1 = nI 0 by decide)]
              · have c8 : aaI pl ps = 0 := by
                  unfold aaI at c7 ⊢
                  by_cases d : onw pl ps = 42
                  · rw [if_pos d] at c7 ⊢
                    by_cases d2 : 40 ≤ pl (ps - 1)
                    · rw [if_pos d2] at c7; exact absurd rfl c7
                    · rw [if_neg d2] at c7 ⊢
                      by_cases d3 : 1 ≤ rk (pl (ps - 1)) ∧ rk (pl (ps - 1)) ≤ 3
                      · rw [if_pos d3] at c7; exact absurd rfl c7
                      · rw [if_neg d3]
                  · rw [if_neg d]
                rw [if_neg (fun z => c7 z.2), c8, gi_pos rfl]
            · rw [if_neg (fun z => c6 z.1), isW_n h.1.2.2 (by omega) c6, gi_pos rfl]
end MO
