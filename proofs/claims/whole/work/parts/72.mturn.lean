-- 72: PURE PART: the reference's turn behind an operand; what waits on the pile (out of wip/whole/pure by pure.py)
def cmI (k : Nat) : Nat := if k = 27 then 11 else if k = 25 then 12 else if k = 28 then 13 else if k = 26 then 14 else if k = 29 then 15 else if k = 30 then 16 else 0
/-- what stands between two (one more; 0: nothing) -/
def bwI (k o c : Nat) : Nat := if k = 31 then 7 else if k = 32 then 8 else if k = 33 then 9 else if k = 34 then 10 else if o = 42 then (if c = 0 then cmI k else if k = 17 then 22 else if k = 16 then 23 else 0) else 0
/-- what closes a part (one more; 0: nothing) -/
def pwI (k o c : Nat) : Nat := if o = 41 then (if k = 36 then 1 else 0) else if o = 42 then (if k = 13 ∧ c = 1 then 43 else 0) else if o = 43 then (if k = 14 then 44 else 0) else if o = 44 then (if k = 15 then 1 else 0) else 0
theorem cmI_le (k : Nat) : cmI k ≤ 16 := by
  unfold cmI
  split
  · omega
  · split
    · omega
    · split
      · omega
      · split
        · omega
        · split
          · omega
          · split <;> omega
theorem bwI_le (k o c : Nat) : bwI k o c ≤ 23 := by
  have := cmI_le k
  unfold bwI
  split
  · omega
  · split
    · omega
    · split
      · omega
      · split
        · omega
        · split
          · split
            · omega
            · split
              · omega
              · split <;> omega
          · omega
theorem pwI_le (k o c : Nat) : pwI k o c ≤ 44 := by
  unfold pwI
  split
  · split <;> omega
  · split
    · split <;> omega
    · split
      · split <;> omega
      · split
        · split <;> omega
        · omega
section MT
variable {tk tv tp ep : Nat → Nat} {B : gI} {t law i n ps x w : Nat} {pl : Nat → Nat} {M : gI} {J : gJ}
theorem cmp7 (h : PM tk tv tp ep B t law i n ps pl x w M J) : fX7_compareOf M = oI (cmI (tk i)) := by
  have s60 := ty_s h.1.2.2 (j := 27) (by omega) (by omega)
  have s4 := ty_s h.1.2.2 (j := 25) (by omega) (by omega)
  have s62 := ty_s h.1.2.2 (j := 28) (by omega) (by omega)
  have s5 := ty_s h.1.2.2 (j := 26) (by omega) (by omega)
  have s61 := ty_s h.1.2.2 (j := 29) (by omega) (by omega)
  have s35 := ty_s h.1.2.2 (j := 30) (by omega) (by omega)
  simp only [sgn] at s60 s4 s62 s5 s61 s35
  unfold fX7_compareOf cmI
  simp only [lit, s60, s4, s62, s5, s61, s35]
  by_cases c1 : tk i = 27
  · rw [gi_pos c1, if_pos c1, oI_s]
  · rw [gi_neg c1, if_neg c1]
    by_cases c2 : tk i = 25
    · rw [gi_pos c2, if_pos c2, oI_s]
    · rw [gi_neg c2, if_neg c2]
      by_cases c3 : tk i = 28
      · rw [gi_pos c3, if_pos c3, oI_s]
      · rw [gi_neg c3, if_neg c3]
        by_cases c4 : tk i = 26
        · rw [gi_pos c4, if_pos c4, oI_s]
        · rw [gi_neg c4, if_neg c4]
          by_cases c5 : tk i = 29
          · rw [gi_pos c5, if_pos c5, oI_s]
          · rw [gi_neg c5, if_neg c5]
            by_cases c6 : tk i = 30
            · rw [gi_pos c6, if_pos c6, oI_s]
            · rw [gi_neg c6, if_neg c6]
              rfl
theorem btw7 (h : PM tk tv tp ep B t law i n ps pl x w M J) (hp : ps < 160) (hpl : ∀ j, j < ps → pl j < 100) : fX7_betweenOf M J = some (oI (bwI (tk i) (onw pl ps) (cpd pl ps))) := by
  have s43 := ty_s h.1.2.2 (j := 31) (by omega) (by omega)
  have s45 := ty_s h.1.2.2 (j := 32) (by omega) (by omega)
  have s42 := ty_s h.1.2.2 (j := 33) (by omega) (by omega)
  have s47 := ty_s h.1.2.2 (j := 34) (by omega) (by omega)
  simp only [sgn] at s43 s45 s42 s47
  have eo := onw7 h hp hpl
  have ec := cpd7 h hp hpl
  have em := cmp7 h
  have hb : onw pl ps < 102 := by
    unfold onw
    by_cases c : oat pl ps = 0
    · rw [if_pos c]; omega
    · rw [if_neg c]
      have := hpl (oat pl ps - 1) (by have := oat_le (pl := pl) ps; omega)
      omega
  have h01 := cpd_01 (pl := pl) ps
  unfold fX7_betweenOf bwI
  rw [eo, bdE, ec, wd_and, wd_or]
  simp only [lit, s43, s45, s42, s47]
  by_cases c1 : tk i = 31
  · rw [gi_pos c1, if_pos c1, oI_s]
  · rw [gi_neg c1, if_neg c1]
    by_cases c2 : tk i = 32
    · rw [gi_pos c2, if_pos c2, oI_s]
    · rw [gi_neg c2, if_neg c2]
      by_cases c3 : tk i = 33
      · rw [gi_pos c3, if_pos c3, oI_s]
      · rw [gi_neg c3, if_neg c3]
        by_cases c4 : tk i = 34
        · rw [gi_pos c4, if_pos c4, oI_s]
        · rw [gi_neg c4, if_neg c4]
          by_cases c5 : onw pl ps = 42
          · rw [if_pos c5, c5, oI_s, gi_pos rfl, bdE]
            by_cases c6 : cpd pl ps = 0
            · rw [if_pos c6, c6, gi_pos rfl, em]
            · rw [if_neg c6]
              have c7 : cpd pl ps = 1 := h01.resolve_left c6
              rw [c7, gi_neg (show ¬ nI 1 = nI 0 by decide)]
              by_cases c8 : tk i = 17
              · rw [if_pos c8, isW_p h.1.2.2 (by omega) c8, gi_neg (show ¬ nI 1 = nI 0 by decide), oI_s]
              · rw [if_neg c8, isW_n h.1.2.2 (by omega) c8, gi_pos rfl]
                by_cases c9 : tk i = 16
                · rw [if_pos c9, isW_p h.1.2.2 (by omega) c9, gi_neg (show ¬ nI 1 = nI 0 by decide), oI_s]
                · rw [if_neg c9, isW_n h.1.2.2 (by omega) c9, gi_pos rfl]
                  rfl
          · rw [if_neg c5, gi_neg]
            · rfl
            · intro q
              have := (oIn (a := onw pl ps) (b := 41) (by omega) (by omega)).mp q
              omega
theorem prt7 (h : PM tk tv tp ep B t law i n ps pl x w M J) (hp : ps < 160) (hpl : ∀ j, j < ps → pl j < 100) : fX7_partOf (oI (onw pl ps)) M J = some (oI (pwI (tk i) (onw pl ps) (cpd pl ps))) := by
  have s41 := ty_s h.1.2.2 (j := 36) (by omega) (by omega)
  simp only [sgn] at s41
  have ec := cpd7 h hp hpl
  have hb : onw pl ps < 102 := by
    unfold onw
    by_cases c : oat pl ps = 0
    · rw [if_pos c]; omega
    · rw [if_neg c]
      have := hpl (oat pl ps - 1) (by have := oat_le (pl := pl) ps; omega)
      omega
  have h01 := cpd_01 (pl := pl) ps
  generalize onw pl ps = o at hb
  have key : ∀ b, b < 100 → (oI o = nI b ↔ o = b + 1) := fun b hb => by
    rw [oIn (by omega) (by omega)]
  unfold fX7_partOf pwI
  rw [wd_then, wd_else, wd_end, ec]
  simp (disch := omega) only [lit, s41, key, lzE]
  by_cases c1 : o = 41
  · rw [gi_pos c1, if_pos c1]
    by_cases d : tk i = 36
    · rw [gi_pos d, if_pos d, oI_s]
    · rw [gi_neg d, if_neg d]
      rfl
  · rw [gi_neg c1, if_neg c1]
    by_cases c2 : o = 42
    · rw [gi_pos c2, if_pos c2]
      by_cases d : tk i = 13
      · rw [isW_p h.1.2.2 (by omega) d, gi_neg (show ¬ nI 1 = nI 0 by decide), bdE]
        rcases h01 with z | z
        · rw [z, gi_pos rfl, if_neg (by omega)]
          rfl
        · rw [z, gi_neg (show ¬ nI 1 = nI 0 by decide), if_pos ⟨d, rfl⟩, oI_s]
      · rw [isW_n h.1.2.2 (by omega) d, gi_pos rfl, if_neg (fun q => d q.1)]
        rfl
    · rw [gi_neg c2, if_neg c2]
      by_cases c3 : o = 43
      · rw [gi_pos c3, if_pos c3]
        by_cases d : tk i = 14
        · rw [isW_p h.1.2.2 (by omega) d, gi_neg (show ¬ nI 1 = nI 0 by decide), if_pos d, oI_s]
        · rw [isW_n h.1.2.2 (by omega) d, gi_pos rfl, if_neg d]
          rfl
      · rw [gi_neg c3, if_neg c3]
        by_cases c4 : o = 44
        · rw [gi_pos c4, if_pos c4]
          by_cases d : tk i = 15
          · rw [isW_p h.1.2.2 (by omega) d, gi_neg (show ¬ nI 1 = nI 0 by decide), if_pos d, oI_s]
          · rw [isW_n h.1.2.2 (by omega) d, gi_pos rfl, if_neg d]
            rfl
        · rw [gi_neg c4, if_neg c4]
          rfl
/-- the rest of the reference's reading of a sum -/
noncomputable def fnL (m : Nat) (M : gI) (J : gJ) : Option (Int32 × gI × gJ) := bd (fX7_summed_15 m M J) (sm (pr (fun (I27 : gI) (J28 : gJ) => bd (fX7_openNow I27) (fun (u30 : Int32) => gi (u30 < 0) (bd (fX7_settle (1 : Int32) I27) (fun (I34 : gI) => some ((0 : Int32), I34, J28))) (some ((1 : Int32), I27, J28))))) (pr (fun (u37 : Int32) => pr (fun (I38 : gI) (J39 : gJ) => some (u37, I38, J39)))))
def wpF (m : Nat) (M : gI) (J : gJ) (Q : Int32 → gI → gJ → Prop) : Prop := ∃ u Mf Jf, fnL m M J = some (u, Mf, Jf) ∧ Q u Mf Jf
/-- a fault may be told with what waits still on the pile -/
def RQ (t n : Nat) (Q : Int32 → gI → gJ → Prop) : Prop := ∀ M1 M2 J, M1 0 8 = M2 0 8 → KM t n M1 M2 → Q 1 M2 J → Q 1 M1 J
/-- behind an operand, settled or not: the same from there on -/
theorem behind_eq {M2 : gI} {pl2 : Nat → Nat} {ps2 n2 x2 : Nat} (h : PM tk tv tp ep B t law i n ps pl x 1 M J) (g : PM tk tv tp ep B t law i n2 ps2 pl2 x2 1 M2 J) (hp : ps < 160) (hpl : ∀ j, j < ps → pl j < 100) (hp2 : ps2 < 160) (hpl2 : ∀ j, j < ps2 → pl2 j < 100) (ho : onw pl2 ps2 = onw pl ps) (hc : bwI (tk i) (onw pl ps) (cpd pl2 ps2) = bwI (tk i) (onw pl ps) (cpd pl ps)) (hc2 : pwI (tk i) (onw pl ps) (cpd pl2 ps2) = pwI (tk i) (onw pl ps) (cpd pl ps)) (r0 : Nat) (hr0 : 1 ≤ r0) (hst : ∀ r, 0 < r → r ≤ r0 → fX7_settle (nI r) M = fX7_settle (nI r) M2) (hrk : ∀ u, bwI (tk i) (onw pl ps) (cpd pl ps) = u + 1 → (if rk u = 4 then 5 else rk u) ≤ r0 ∧ 0 < rk u) (m : Nat) {Q : Int32 → gI → gJ → Prop} (h8 : KM t n M M2) (hQ : RQ t n Q) : wpF m M2 J Q → wpF m M J Q := by
  have e1 := btw7 h hp hpl
  have e2 := btw7 g hp2 hpl2
  have o1 := onw7 h hp hpl
  have o2 := onw7 g hp2 hpl2
  have p1 := prt7 h hp hpl
  have p2 := prt7 g hp2 hpl2
  rw [ho] at e2 o2 p2
  rw [hc] at e2
  rw [hc2] at p2
  rintro ⟨u, Mf, Jf, ef, q⟩
  cases m with
  | zero => exact absurd ef (by unfold fnL; intro z; cases z)
  | succ m =>
    have w1 : M 0 18 = nI 1 := h.2.2.2.2.2.2.2.1
    have w2 : M2 0 18 = nI 1 := g.2.2.2.2.2.2.2.1
    unfold fnL at ef
    rw [sX7_summed_15, fX7_summed_15b, w2, gi_neg (show ¬ nI 1 = (0 : Int32) from one_ne)] at ef
    have hbwl := bwI_le (tk i) (onw pl ps) (cpd pl ps)
    have hpwl := pwI_le (tk i) (onw pl ps) (cpd pl ps)
    clear hc hc2
    generalize bwI (tk i) (onw pl ps) (cpd pl ps) = bw at e1 e2 hrk hbwl
    by_cases cb : bw = 0
    · subst cb
      generalize pwI (tk i) (onw pl ps) (cpd pl ps) = pw at p1 p2 hpwl
      by_cases cp : pw = 0
      · subst cp
        -- it stands still
        have s1 : fX7_behindOne M J = some (0, M, J) := by
          unfold fX7_behindOne
          rw [e1, bdE, gi_pos (show oI 0 < 0 by decide), o1, bdE, p1, bdE, gi_neg (show ¬ (0 : Int32) ≤ oI 0 by decide)]
        have s2 : fX7_behindOne M2 J = some (0, M2, J) := by
          unfold fX7_behindOne
          rw [e2, bdE, gi_pos (show oI 0 < 0 by decide), o2, bdE, p2, bdE, gi_neg (show ¬ (0 : Int32) ≤ oI 0 by decide)]
        rw [s2, bdE, prE, prE, gi_pos rfl, bdE, smL, prE, o2, bdE] at ef
        by_cases co : oI (onw pl ps) < 0
        · rw [gi_pos co] at ef
          refine ⟨u, Mf, Jf, ?_, q⟩
          unfold fnL
          rw [sX7_summed_15, fX7_summed_15b, w1, gi_neg (show ¬ nI 1 = (0 : Int32) from one_ne), s1, bdE, prE, prE, gi_pos rfl, bdE, smL, prE, o1, bdE, gi_pos co, show (1 : Int32) = nI 1 from rfl, hst 1 (by omega) hr0]
          exact ef
        · rw [gi_neg co] at ef
          have e3 := Option.some.inj ef
          obtain ⟨rfl, e4⟩ := Prod.mk.inj e3
          obtain ⟨rfl, rfl⟩ := Prod.mk.inj e4
          refine ⟨1, M, J, ?_, hQ M M2 J ?_ h8 q⟩
          · unfold fnL
            rw [sX7_summed_15, fX7_summed_15b, w1, gi_neg (show ¬ nI 1 = (0 : Int32) from one_ne), s1, bdE, prE, prE, gi_pos rfl, bdE, smL, prE, o1, bdE, gi_neg co]
          · rw [h.1.2.1, g.1.2.1]
      · have hnp : (0 : Int32) ≤ oI pw := by
          obtain ⟨b, rfl⟩ : ∃ b, pw = b + 1 := ⟨pw - 1, by omega⟩
          have hle : b < 100 := by omega
          rw [oI_s]
          exact (leN (a := 0) (b := b) (by omega) (by omega)).mpr (Nat.zero_le _)
        have s : fX7_behindOne M J = fX7_behindOne M2 J := by
          unfold fX7_behindOne
          rw [e1, e2, bdE, bdE, gi_pos (show oI 0 < 0 by decide), gi_pos (show oI 0 < 0 by decide), o1, o2, bdE, bdE, p1, p2, bdE, bdE, gi_pos hnp, gi_pos hnp, show (1 : Int32) = nI 1 from rfl, hst 1 (by omega) hr0]
        refine ⟨u, Mf, Jf, ?_, q⟩
        unfold fnL
        rw [sX7_summed_15, fX7_summed_15b, w1, gi_neg (show ¬ nI 1 = (0 : Int32) from one_ne), s]
        exact ef
    · obtain ⟨c, rfl⟩ : ∃ c, bw = c + 1 := ⟨bw - 1, by omega⟩
      obtain ⟨k1, k2⟩ := hrk c rfl
      have hle : c < 100 := by omega
      have hnn : ¬ oI (c + 1) < 0 := by
        rw [oI_s]
        exact nI_pos (by omega)
      have q7 := rank7 hle
      have hrl := rk_le c
      have s : fX7_behindOne M J = fX7_behindOne M2 J := by
        unfold fX7_behindOne
        rw [e1, e2, bdE, bdE, gi_neg hnn, gi_neg hnn, oI_s, lzE, lzE, q7]
        by_cases c4 : rk c = 4
        · rw [if_pos c4] at k1
          have c5 : nI (rk c) = 4 := by rw [c4]; rfl
          rw [gi_pos c5, gi_pos c5, show (5 : Int32) = nI 5 from rfl]
          dsimp only
          rw [hst 5 (by omega) k1]
        · rw [if_neg c4] at k1
          have c5 : ¬ nI (rk c) = 4 := fun z => c4 ((nI_eq (by omega) (by omega)).mp (show nI (rk c) = nI 4 from z))
          rw [gi_neg c5, gi_neg c5]
          dsimp only
          rw [hst (rk c) k2 k1]
      refine ⟨u, Mf, Jf, ?_, q⟩
      unfold fnL
      rw [sX7_summed_15, fX7_summed_15b, w1, gi_neg (show ¬ nI 1 = (0 : Int32) from one_ne), s]
      exact ef
end MT
