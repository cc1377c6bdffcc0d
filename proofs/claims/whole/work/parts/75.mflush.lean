-- 75: PURE PART: what waits on the pile may be laid at once (out of wip/whole/pure by pure.py)
theorem stl_ex {t r : Nat} (ht : t < 4) (hr : r < 100) : ∀ ps n M, M 0 16 = nI ps → M 0 12 = nI (681 * t) → M 0 13 = nI n → n + ps < 304 → ps ≤ 160 → (∀ j, j < ps → ∃ c, c < 100 ∧ M 5 j = nI c) → ∃ I, Stl ps r M I := by
  intro ps
  induction ps with
  | zero =>
    intro n M h16 _ _ _ _ _
    refine ⟨M, fun m hm => ?_⟩
    obtain ⟨m, rfl⟩ : ∃ a, m = a + 1 := ⟨m - 1, by omega⟩
    rw [sX7_settle_0, fX7_settle_0b]
    simp (disch := (first | assumption | trivial | omega)) only [h16, Nat.le_refl, lit, neg1, oI_s, addN, mulN, subN, clN, gdN, ltN, leN, eqN, nIo, oIn, oI_eq, divN, remN, giT, giF, lzE, prE, bdE, smL, smR, shlN, shrN, hasE, andN, orN, bit1, bit0, max7, min7, giTr, giFa, gdp, litL, i2l, addL, mulL, divL, remL, cmLe, cmGt, cmGe, cmEq, eqL]
  | succ ps ih =>
    intro n M h16 h12 h13 hn hp hc
    obtain ⟨c, hc1, hc2⟩ := hc ps (by omega)
    have q := rank7 hc1
    have hle := rk_le c
    have e1 := dec1' ps
    have c1 : ¬ ps + 1 ≤ 0 := by omega
    by_cases d : rk c < r
    · refine ⟨M, fun m hm => ?_⟩
      obtain ⟨m, rfl⟩ : ∃ a, m = a + 1 := ⟨m - 1, by omega⟩
      rw [sX7_settle_0, fX7_settle_0b]
      simp (disch := (first | assumption | trivial | omega)) only [h16, lit, leN, c1, giFa, e1, gdN, clN, hc2, q, ltN, d, giTr]
    · obtain ⟨A, hA⟩ : ∃ A, A = wI (wI (wI (wI M 0 16 (nI ps)) 3 (681 * t + 73 + 2 * n) (nI c)) 3 (681 * t + 73 + 2 * n + 1) (nI 0)) 0 13 (nI (n + 1)) := ⟨_, rfl⟩
      have emA : fX7_emit (nI c) (nI 0) (wI M 0 16 (nI ps)) = some A := by
        rw [hA]
        unfold fX7_emit
        simp (disch := (first | assumption | trivial | omega)) only [lit, addN, mulN, h12, h13, gdN, clN, lzE, wI_o, wI_ne]
      have a5 : ∀ j, A 5 j = M 5 j := fun j => by rw [hA]; simp (disch := omega) only [wI_o]
      have a16 : A 0 16 = nI ps := by rw [hA]; simp (disch := omega) only [wI_ne, wI_o, wI_eq]
      have a12 : A 0 12 = nI (681 * t) := by rw [hA]; simp (disch := omega) only [wI_ne, wI_o]; exact h12
      have a13 : A 0 13 = nI (n + 1) := by rw [hA, wI_eq]
      have a5p : A 5 ps = nI c := (a5 ps).trans hc2
      obtain ⟨I1, s1⟩ := ih (n + 1) A a16 a12 a13 (by omega) (by omega) (fun j hj => by
        obtain ⟨b, b1, b2⟩ := hc j (by omega)
        exact ⟨b, b1, (a5 j).trans b2⟩)
      obtain ⟨I2, s2⟩ := ih (n + 1) (wI A 0 17 ((A 0 17) - nI 1)) (by rw [wI_ne (by omega)]; exact a16) (by rw [wI_ne (by omega)]; exact a12) (by rw [wI_ne (by omega)]; exact a13) (by omega) (by omega) (fun j hj => by
        obtain ⟨b, b1, b2⟩ := hc j (by omega)
        exact ⟨b, b1, by rw [wI_o (by omega)]; exact (a5 j).trans b2⟩)
      have step : ∀ m, fX7_settle_0 (m + 1) (nI r) M = gi (rk c = 7) (fX7_settle_0 m (nI r) (wI A 0 17 ((A 0 17) - nI 1))) (gi (c = 20) (fX7_settle_0 m (nI r) (wI A 0 17 ((A 0 17) - nI 1))) (fX7_settle_0 m (nI r) A)) := by
        intro m
        rw [sX7_settle_0, fX7_settle_0b]
        simp (disch := (first | assumption | trivial | omega)) only [h16, lit, leN, c1, giFa, e1, gdN, clN, hc2, q, ltN, d, lzE, wI_eq, wI_o, emA, bdE, a16, a5p, eqN]
      by_cases c7 : rk c = 7
      · refine ⟨I2, fun m hm => ?_⟩
        obtain ⟨m, rfl⟩ : ∃ a, m = a + 1 := ⟨m - 1, by omega⟩
        rw [step, gi_pos c7]
        exact s2 m (by omega)
      · by_cases c20 : c = 20
        · refine ⟨I2, fun m hm => ?_⟩
          obtain ⟨m, rfl⟩ : ∃ a, m = a + 1 := ⟨m - 1, by omega⟩
          rw [step, gi_neg c7, gi_pos c20]
          exact s2 m (by omega)
        · refine ⟨I1, fun m hm => ?_⟩
          obtain ⟨m, rfl⟩ : ∃ a, m = a + 1 := ⟨m - 1, by omega⟩
          rw [step, gi_neg c7, gi_neg c20]
          exact s1 m (by omega)
section MF
variable {tk tv tp ep : Nat → Nat} {B : gI} {t law i n ps x : Nat} {pl : Nat → Nat} {M : gI} {J : gJ}
theorem PM_stl (h : PM tk tv tp ep B t law i n ps pl x 1 M J) (ht : t < 4) {r : Nat} (hr : r < 100) (hn : n + ps < 304) (hp : ps ≤ 160) (hpl : ∀ j, j < ps → pl j < 100) : ∃ I, Stl ps r M I :=
  stl_ex ht hr ps n M h.2.2.2.2.2.1 h.2.2.1 h.2.2.2.1 hn hp (fun j hj => ⟨pl j, hpl j hj, h.2.2.2.2.2.2.2.2 j hj⟩)
theorem onw_low {pl : Nat → Nat} {ps : Nat} (h : pl ps < 40) : onw pl (ps + 1) = onw pl ps := by
  have e : oat pl (ps + 1) = oat pl ps := if_neg (by omega)
  unfold onw
  rw [e]
theorem cpd_high {pl : Nat → Nat} {ps : Nat} (h : 4 < rk (pl ps)) : cpd pl (ps + 1) = cpd pl ps := if_neg (by omega)
/-- the settling by way of one that waits -/
theorem pop_eq (h : PM tk tv tp ep B t law i n (ps + 1) pl x 1 M J) (ht : t < 4) (hp : ps < 150) (hpl : ∀ j, j < ps + 1 → pl j < 100) (hc : pl ps < 40) (hn : n + ps < 302) (hx : (rk (pl ps) = 7 ∨ pl ps = 20) → 0 < x) : ∃ M', PM tk tv tp ep B t law i (n + 1) ps pl (if rk (pl ps) = 7 ∨ pl ps = 20 then x - 1 else x) 1 M' J ∧ KM t n M M' ∧ rC (M' 3) t n = nI (pl ps) ∧ ∀ r, 0 < r → r ≤ rk (pl ps) → fX7_settle (nI r) M = fX7_settle (nI r) M' := by
  obtain ⟨M', p', k', c', _, st⟩ := stl_pop h ht (by omega) hc (by omega) hx
  refine ⟨M', p', k', c', fun r h0 h1 => ?_⟩
  have hle := rk_le (pl ps)
  obtain ⟨I, s⟩ := PM_stl p' ht (r := r) (by omega) (by omega) (by omega) (fun j hj => hpl j (by omega))
  rw [stl_run s (by omega), stl_run (st r I h1 h0 s) (by omega)]
/-- + - * / that wait -/
theorem flush (h : PM tk tv tp ep B t law i n (ps + 1) pl x 1 M J) (ht : t < 4) (hp : ps < 150) (hpl : ∀ j, j < ps + 1 → pl j < 100) (hu : 6 ≤ pl ps ∧ pl ps < 10) (hn : n + ps < 302) (hla : pl ps < 8 → ¬ tk i = 33 ∧ ¬ tk i = 34) : ∃ M', PM tk tv tp ep B t law i (n + 1) ps pl x 1 M' J ∧ KM t n M M' ∧ rC (M' 3) t n = nI (pl ps) ∧ ∀ m Q, RQ t n Q → wpF m M' J Q → wpF m M J Q := by
  have hr : rk (pl ps) = if pl ps < 8 then 5 else 6 := by
    obtain ⟨a, b⟩ := hu
    have : pl ps = 6 ∨ pl ps = 7 ∨ pl ps = 8 ∨ pl ps = 9 := by omega
    rcases this with e | e | e | e <;> rw [e] <;> decide
  have hr7 : ¬ (rk (pl ps) = 7 ∨ pl ps = 20) := by
    rw [hr]
    by_cases c : pl ps < 8
    · rw [if_pos c]; omega
    · rw [if_neg c]; omega
  have hr4 : 4 < rk (pl ps) := by
    rw [hr]
    by_cases c : pl ps < 8
    · rw [if_pos c]; omega
    · rw [if_neg c]; omega
  obtain ⟨M', p', k', c', st⟩ := pop_eq h ht hp hpl (by omega) hn (fun z => absurd z hr7)
  rw [if_neg hr7] at p'
  refine ⟨M', p', k', c', fun m Q hQ => ?_⟩
  have ho := onw_low (pl := pl) (ps := ps) (by omega)
  have hc := cpd_high hr4
  refine behind_eq h p' (by omega) hpl (by omega) (fun j hj => hpl j (by omega)) ho.symm (by rw [hc]) (by rw [hc]) (rk (pl ps)) (by omega) (fun r a b => st r a b) (fun v hv => ?_) m k' hQ
  -- what may come next settles no deeper
  have hv23 := bwI_le (tk i) (onw pl (ps + 1)) (cpd pl (ps + 1))
  have hvv : v = 6 ∨ v = 7 ∨ (v = 8 ∧ tk i = 33) ∨ (v = 9 ∧ tk i = 34) ∨ (10 ≤ v ∧ v < 16) ∨ v = 21 ∨ v = 22 := by
    unfold bwI at hv
    by_cases c1 : tk i = 31
    · rw [if_pos c1] at hv; omega
    · rw [if_neg c1] at hv
      by_cases c2 : tk i = 32
      · rw [if_pos c2] at hv; omega
      · rw [if_neg c2] at hv
        by_cases c3 : tk i = 33
        · rw [if_pos c3] at hv; omega
        · rw [if_neg c3] at hv
          by_cases c4 : tk i = 34
          · rw [if_pos c4] at hv; omega
          · rw [if_neg c4] at hv
            by_cases c5 : onw pl (ps + 1) = 42
            · rw [if_pos c5] at hv
              by_cases c6 : cpd pl (ps + 1) = 0
              · rw [if_pos c6] at hv
                have : cmI (tk i) = 0 ∨ (11 ≤ cmI (tk i) ∧ cmI (tk i) ≤ 16) := by
                  unfold cmI
                  split
                  · omega
                  · split
                    · omega
                    · split
                      · omega
                      · split
                        · omega
                        · split
                          · omega
                          · split <;> omega
                omega
              · rw [if_neg c6] at hv
                by_cases c7 : tk i = 17
                · rw [if_pos c7] at hv; omega
                · rw [if_neg c7] at hv
                  by_cases c8 : tk i = 16
                  · rw [if_pos c8] at hv; omega
                  · rw [if_neg c8] at hv; omega
            · rw [if_neg c5] at hv; omega
  have k5 : rk 6 = 5 ∧ rk 7 = 5 ∧ rk 8 = 6 ∧ rk 9 = 6 ∧ rk 21 = 2 ∧ rk 22 = 1 := by decide
  have k4 : ∀ v, 10 ≤ v → v < 16 → rk v = 4 := by
    intro v a b
    have : v = 10 ∨ v = 11 ∨ v = 12 ∨ v = 13 ∨ v = 14 ∨ v = 15 := by omega
    rcases this with rfl | rfl | rfl | rfl | rfl | rfl <;> decide
  rcases hvv with rfl | rfl | ⟨rfl, e⟩ | ⟨rfl, e⟩ | ⟨a, b⟩ | rfl | rfl
  · rw [k5.1, if_neg (by decide)]; omega
  · rw [k5.2.1, if_neg (by decide)]; omega
  · have : ¬ pl ps < 8 := fun z => (hla z).1 e
    rw [k5.2.2.1, if_neg (by decide), hr, if_neg this]; omega
  · have : ¬ pl ps < 8 := fun z => (hla z).2 e
    rw [k5.2.2.2.1, if_neg (by decide), hr, if_neg this]; omega
  · rw [k4 v a b, if_pos rfl]; omega
  · rw [k5.2.2.2.2.1, if_neg (by decide)]; omega
  · rw [k5.2.2.2.2.2, if_neg (by decide)]; omega
/-- it stands still: a fault -/
theorem bh_stop (h : PM tk tv tp ep B t law i n ps pl x 1 M J) (hp : ps < 160) (hpl : ∀ j, j < ps → pl j < 100) (hb : bwI (tk i) (onw pl ps) (cpd pl ps) = 0) (hw : pwI (tk i) (onw pl ps) (cpd pl ps) = 0) (ho : 0 < onw pl ps) (m : Nat) {Q : Int32 → gI → gJ → Prop} (q : Q 1 M J) : wpF (m + 1) M J Q := by
  have e1 := btw7 h hp hpl
  rw [hb] at e1
  have o1 := onw7 h hp hpl
  have p1 := prt7 h hp hpl
  rw [hw] at p1
  obtain ⟨a, ha⟩ : ∃ a, onw pl ps = a + 1 := ⟨onw pl ps - 1, by omega⟩
  have hon : onw pl ps < 102 := by
    unfold onw
    by_cases c : oat pl ps = 0
    · rw [if_pos c]; omega
    · rw [if_neg c]
      have := hpl (oat pl ps - 1) (by have := oat_le (pl := pl) ps; omega)
      omega
  refine ⟨1, M, J, ?_, q⟩
  have s1 : fX7_behindOne M J = some (0, M, J) := by
    unfold fX7_behindOne
    rw [e1, bdE, gi_pos (show oI 0 < 0 by decide), o1, bdE, p1, bdE, gi_neg (show ¬ (0 : Int32) ≤ oI 0 by decide)]
  unfold fnL
  rw [turn1 h, s1, bdE, prE, prE, gi_pos rfl, bdE, smL, prE, o1, bdE, ha, oI_s, gi_neg (show ¬ nI a < 0 from nI_pos (by omega))]
end MF
