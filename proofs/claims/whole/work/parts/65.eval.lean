-- 65: PURE PART: both sides' codes work out alike (out of wip/whole/pure by pure.py)
theorem nb0 : nbool (nI 0) = nI 0 := by decide
theorem nb1 : nbool (nI 1) = nI 1 := by decide
section U7
variable {t c Q p u1 u2 : Nat} {M : gI} {J : gJ}
theorem u7num {n v : Nat} (ht : t < 4) (hc : c < 24) (hQ : M 3 (681 * t + 1 + 3 * c + 2) = nI Q) (hQ3 : Q ≤ 300) (hp : p < Q) (h1 : u1 < 330) (hy : M 3 (681 * t + 73 + 2 * p) = nI 0) (ho : M 3 (681 * t + 73 + 2 * p + 1) = nI v) (hv : v < 10000) : fX7_summedUp_38 (n + 1) (nI (681 * t + 1 + 3 * c)) (nI (681 * t + 73)) (nI u1) (nI u2) (nI p) M J = fX7_summedUp_38 n (nI (681 * t + 1 + 3 * c)) (nI (681 * t + 73)) (nI (u1 + 1)) (nI u2) (nI (p + 1)) M (wJ J 7 u1 (lN v)) := by
  rw [sX7_summedUp_38, fX7_summedUp_38b]
  simp (disch := (first | assumption | trivial | omega)) only [hQ, hy, ho, lit, neg1, oI_s, addN, mulN, subN, clN, gdN, ltN, leN, eqN, nIo, oIn, oI_eq, divN, remN, giT, giF, lzE, prE, bdE, smL, smR, shlN, shrN, hasE, andN, orN, bit1, bit0, max7, min7, giTr, giFa, gdp, litL, i2l, addL, mulL, divL, remL, cmLe, cmGt, cmGe, cmEq, eqL]
theorem u7name {n v x : Nat} (ht : t < 4) (hc : c < 24) (hQ : M 3 (681 * t + 1 + 3 * c + 2) = nI Q) (hQ3 : Q ≤ 300) (hp : p < Q) (h1 : u1 < 330) (hy : M 3 (681 * t + 73 + 2 * p) = nI 1) (ho : M 3 (681 * t + 73 + 2 * p + 1) = nI v) (hv : v < 8) (hx : M 6 v = nI x) (hx2 : x ≤ 10000) : fX7_summedUp_38 (n + 1) (nI (681 * t + 1 + 3 * c)) (nI (681 * t + 73)) (nI u1) (nI u2) (nI p) M J = fX7_summedUp_38 n (nI (681 * t + 1 + 3 * c)) (nI (681 * t + 73)) (nI (u1 + 1)) (nI u2) (nI (p + 1)) M (wJ J 7 u1 (lN x)) := by
  rw [sX7_summedUp_38, fX7_summedUp_38b]
  simp (disch := (first | assumption | trivial | omega)) only [hQ, hy, ho, hx, lit, neg1, oI_s, addN, mulN, subN, clN, gdN, ltN, leN, eqN, nIo, oIn, oI_eq, divN, remN, giT, giF, lzE, prE, bdE, smL, smR, shlN, shrN, hasE, andN, orN, bit1, bit0, max7, min7, giTr, giFa, gdp, litL, i2l, addL, mulL, divL, remL, cmLe, cmGt, cmGe, cmEq, eqL]
theorem u7one {n y : Nat} {x : Int64} (ht : t < 4) (hc : c < 24) (hQ : M 3 (681 * t + 1 + 3 * c + 2) = nI Q) (hQ3 : Q ≤ 300) (hp : p < Q) (h1 : u1 < 330) (hyy : y = 2 ∨ y = 4 ∨ y = 5) (hy : M 3 (681 * t + 73 + 2 * p) = nI y) (hx : fX7_ofOne (nI y) (J 7 u1) M = some x) : fX7_summedUp_38 (n + 1) (nI (681 * t + 1 + 3 * c)) (nI (681 * t + 73)) (nI (u1 + 1)) (nI u2) (nI p) M J = fX7_summedUp_38 n (nI (681 * t + 1 + 3 * c)) (nI (681 * t + 73)) (nI (u1 + 1)) (nI u2) (nI (p + 1)) M (wJ J 7 u1 x) := by
  rw [sX7_summedUp_38, fX7_summedUp_38b]
  rcases hyy with rfl | rfl | rfl <;> simp (disch := (first | assumption | trivial | omega)) only [hQ, hy, Nat.add_sub_cancel, hx, lit, neg1, oI_s, addN, mulN, subN, clN, gdN, ltN, leN, eqN, nIo, oIn, oI_eq, divN, remN, giT, giF, lzE, prE, bdE, smL, smR, shlN, shrN, hasE, andN, orN, bit1, bit0, max7, min7, giTr, giFa, gdp, litL, i2l, addL, mulL, divL, remL, cmLe, cmGt, cmGe, cmEq, eqL]
theorem u7two {n y : Nat} {x : Int64} (ht : t < 4) (hc : c < 24) (hQ : M 3 (681 * t + 1 + 3 * c + 2) = nI Q) (hQ3 : Q ≤ 300) (hp : p < Q) (h1 : u1 + 1 < 330) (hyy : y = 6 ∨ y = 7 ∨ y = 8 ∨ y = 9) (hy : M 3 (681 * t + 73 + 2 * p) = nI y) (hx : fX7_two (nI y) (J 7 u1) (J 7 (u1 + 1)) = some x) : fX7_summedUp_38 (n + 1) (nI (681 * t + 1 + 3 * c)) (nI (681 * t + 73)) (nI (u1 + 2)) (nI u2) (nI p) M J = fX7_summedUp_38 n (nI (681 * t + 1 + 3 * c)) (nI (681 * t + 73)) (nI (u1 + 1)) (nI u2) (nI (p + 1)) M (wJ J 7 u1 x) := by
  have e1 := dec1 (u1 + 1)
  have e2 := dec1' u1
  rw [sX7_summedUp_38, fX7_summedUp_38b]
  rcases hyy with rfl | rfl | rfl | rfl <;> simp (disch := (first | assumption | trivial | omega)) only [e1, e2, hQ, hy, hx, lit, leN, ltN, eqN, giT, giF, giTr, giFa, gdN, clN, lzE, bdE, addN, mulN]
theorem u7cmp {n y : Nat} {x : Int32} (ht : t < 4) (hc : c < 24) (hQ : M 3 (681 * t + 1 + 3 * c + 2) = nI Q) (hQ3 : Q ≤ 300) (hp : p < Q) (h1 : u1 + 1 < 330) (h2 : u2 < 330) (hyy : y = 10 ∨ y = 11 ∨ y = 12 ∨ y = 13 ∨ y = 14 ∨ y = 15) (hy : M 3 (681 * t + 73 + 2 * p) = nI y) (hx : nbool (fX7_isAsked (nI y) (J 7 u1) (J 7 (u1 + 1))) = x) : fX7_summedUp_38 (n + 1) (nI (681 * t + 1 + 3 * c)) (nI (681 * t + 73)) (nI (u1 + 2)) (nI u2) (nI p) M J = fX7_summedUp_38 n (nI (681 * t + 1 + 3 * c)) (nI (681 * t + 73)) (nI u1) (nI (u2 + 1)) (nI (p + 1)) (wI M 8 u2 x) J := by
  have e1 := dec2 u1
  subst hx
  rw [sX7_summedUp_38, fX7_summedUp_38b]
  rcases hyy with rfl | rfl | rfl | rfl | rfl | rfl <;> simp (disch := (first | assumption | trivial | omega)) only [e1, hQ, hy, lit, leN, ltN, eqN, giT, giF, giTr, giFa, gdN, clN, lzE, bdE, addN, mulN]
theorem u7join {n y : Nat} {x : Int32} (ht : t < 4) (hc : c < 24) (hQ : M 3 (681 * t + 1 + 3 * c + 2) = nI Q) (hQ3 : Q ≤ 300) (hp : p < Q) (h2 : u2 + 1 < 330) (hyy : y = 21 ∨ y = 22) (hy : M 3 (681 * t + 73 + 2 * p) = nI y) (hx : nbool (fX7_joined (nI y) (M 8 u2) (M 8 (u2 + 1))) = x) : fX7_summedUp_38 (n + 1) (nI (681 * t + 1 + 3 * c)) (nI (681 * t + 73)) (nI u1) (nI (u2 + 2)) (nI p) M J = fX7_summedUp_38 n (nI (681 * t + 1 + 3 * c)) (nI (681 * t + 73)) (nI u1) (nI (u2 + 1)) (nI (p + 1)) (wI M 8 u2 x) J := by
  have e1 := dec1 (u2 + 1)
  have e2 := dec1' u2
  subst hx
  rw [sX7_summedUp_38, fX7_summedUp_38b]
  rcases hyy with rfl | rfl <;> simp (disch := (first | assumption | trivial | omega)) only [e1, e2, hQ, hy, lit, leN, ltN, eqN, giT, giF, giTr, giFa, gdN, clN, lzE, bdE, addN, mulN]
theorem u7not {n : Nat} (ht : t < 4) (hc : c < 24) (hQ : M 3 (681 * t + 1 + 3 * c + 2) = nI Q) (hQ3 : Q ≤ 300) (hp : p < Q) (h2 : u2 < 330) (hy : M 3 (681 * t + 73 + 2 * p) = nI 20) {x : Int32} (hm : M 8 u2 = x) : fX7_summedUp_38 (n + 1) (nI (681 * t + 1 + 3 * c)) (nI (681 * t + 73)) (nI u1) (nI (u2 + 1)) (nI p) M J = fX7_summedUp_38 n (nI (681 * t + 1 + 3 * c)) (nI (681 * t + 73)) (nI u1) (nI (u2 + 1)) (nI (p + 1)) (wI M 8 u2 (gi (x = nI 0) (nI 1) (nI 0))) J := by
  have e2 := dec1' u2
  rw [sX7_summedUp_38, fX7_summedUp_38b]
  by_cases cx : x = nI 0
  · rw [gi_pos cx]
    simp (disch := (first | assumption | trivial | omega)) only [e2, hQ, hy, hm, cx, lit, leN, ltN, eqN, giT, giF, giTr, giFa, gdN, clN, lzE, bdE, addN, mulN, nb1]
  · rw [gi_neg cx]
    simp (disch := (first | assumption | trivial | omega)) only [e2, hQ, hy, hm, cx, lit, leN, ltN, eqN, giT, giF, giTr, giFa, gdN, clN, lzE, bdE, addN, mulN, nb0]
theorem u7sel {n : Nat} (ht : t < 4) (hc : c < 24) (hQ : M 3 (681 * t + 1 + 3 * c + 2) = nI Q) (hQ3 : Q ≤ 300) (hp : p < Q) (h1 : u1 + 1 < 330) (h2 : u2 < 330) (hy : M 3 (681 * t + 73 + 2 * p) = nI 3) {x : Int32} (hm : M 8 u2 = x) : fX7_summedUp_38 (n + 1) (nI (681 * t + 1 + 3 * c)) (nI (681 * t + 73)) (nI (u1 + 2)) (nI (u2 + 1)) (nI p) M J = fX7_summedUp_38 n (nI (681 * t + 1 + 3 * c)) (nI (681 * t + 73)) (nI (u1 + 1)) (nI u2) (nI (p + 1)) M (gi (x = nI 0) (wJ J 7 u1 (J 7 (u1 + 1))) J) := by
  have e1 := dec1 (u1 + 1)
  have e2 := dec1' u1
  have e3 := dec1 u2
  rw [sX7_summedUp_38, fX7_summedUp_38b]
  by_cases cx : x = nI 0
  · rw [gi_pos cx]
    simp (disch := (first | assumption | trivial | omega)) only [e1, e2, e3, hQ, hy, hm, cx, lit, leN, ltN, eqN, giT, giF, giTr, giFa, gdN, clN, lzE, bdE, addN, mulN]
  · rw [gi_neg cx]
    simp (disch := (first | assumption | trivial | omega)) only [e1, e2, e3, hQ, hy, hm, cx, lit, leN, ltN, eqN, giT, giF, giTr, giFa, gdN, clN, lzE, bdE, addN, mulN]
end U7
/-! one step's values, both sides -/
theorem un67 {S : Nat → Nat → Nat} (hnb : S 0 0 ≤ 6) {a c : Nat} (h : unP a c) {x : Int32} (hx : bdd x) : ∃ x', bdd x' ∧ ∀ w C M, sv S (fw w C) M → fX2_ofOne w (nI a) x C = some x' ∧ fX7_ofOne (nI c) x.toInt64 M = some x'.toInt64 := by
  rcases h with ⟨rfl, rfl⟩ | ⟨rfl, rfl⟩ | ⟨rfl, rfl⟩
  · obtain ⟨v, hv, e⟩ := wo67 (S := S) x
    refine ⟨nI v, bdd_nI (by omega), fun w C M g => ?_⟩
    rw [i2l (by omega)]
    exact e S rfl w C M g
  · obtain ⟨v, hv, e⟩ := pu67 (S := S) hnb x
    refine ⟨nI v, bdd_nI (by omega), fun w C M g => ?_⟩
    rw [i2l (by omega)]
    exact e S rfl w C M g
  · have hne : x ≠ -2147483648 := by
      intro e
      subst e
      have : (-2147483648 : Int32).toInt = -2147483648 := by decide
      unfold bdd at hx
      omega
    have e := Int32.toInt64_neg_of_ne hne
    refine ⟨-x, ?_, fun w C M g => ⟨?_, ?_⟩⟩
    · unfold bdd at hx ⊢
      rw [Int32.toInt_neg]
      rw [show (2 : Nat) ^ 32 = 4294967296 from rfl]
      unfold Int.bmod
      simp only []
      split <;> omega
    · unfold fX2_ofOne
      rw [gi_neg (show ¬ nI 38 = (10 : Int32) by decide), gi_neg (show ¬ nI 38 = (11 : Int32) by decide), gi_neg (show ¬ nI 38 = (18 : Int32) by decide), gi_pos (show nI 38 = (38 : Int32) from rfl)]
    · unfold fX7_ofOne
      rw [gi_pos (show nI 5 = (5 : Int32) from rfl), e]
theorem bi67 {a c : Nat} (h : biP a c) (x y : Int32) : ∃ z x', bdd x' ∧ fX2_ofTwo (nI a) x.toInt64 y.toInt64 = some z ∧ fX2_limited z = x' ∧ fX7_two (nI c) x.toInt64 y.toInt64 = some x'.toInt64 := by
  rcases h with ⟨rfl, rfl⟩ | ⟨rfl, rfl⟩ | ⟨rfl, rfl⟩ | ⟨rfl, rfl⟩
  · obtain ⟨l1, l2⟩ := limC (x.toInt64 + y.toInt64)
    refine ⟨_, _, l2, ?_, rfl, ?_⟩
    · unfold fX2_ofTwo
      simp (disch := (first | assumption | trivial | omega)) only [lit, neg1, oI_s, addN, mulN, subN, clN, gdN, ltN, leN, eqN, nIo, oIn, oI_eq, divN, remN, giT, giF, lzE, prE, bdE, smL, smR, shlN, shrN, hasE, andN, orN, bit1, bit0, max7, min7, giTr, giFa, gdp, litL, i2l, addL, mulL, divL, remL, cmLe, cmGt, cmGe, cmEq, eqL]
    · unfold fX7_two
      rw [l1]
      simp (disch := (first | assumption | trivial | omega)) only [lit, neg1, oI_s, addN, mulN, subN, clN, gdN, ltN, leN, eqN, nIo, oIn, oI_eq, divN, remN, giT, giF, lzE, prE, bdE, smL, smR, shlN, shrN, hasE, andN, orN, bit1, bit0, max7, min7, giTr, giFa, gdp, litL, i2l, addL, mulL, divL, remL, cmLe, cmGt, cmGe, cmEq, eqL]
  · obtain ⟨l1, l2⟩ := limC (x.toInt64 - y.toInt64)
    refine ⟨_, _, l2, ?_, rfl, ?_⟩
    · unfold fX2_ofTwo
      simp (disch := (first | assumption | trivial | omega)) only [lit, neg1, oI_s, addN, mulN, subN, clN, gdN, ltN, leN, eqN, nIo, oIn, oI_eq, divN, remN, giT, giF, lzE, prE, bdE, smL, smR, shlN, shrN, hasE, andN, orN, bit1, bit0, max7, min7, giTr, giFa, gdp, litL, i2l, addL, mulL, divL, remL, cmLe, cmGt, cmGe, cmEq, eqL]
    · unfold fX7_two
      rw [l1]
      simp (disch := (first | assumption | trivial | omega)) only [lit, neg1, oI_s, addN, mulN, subN, clN, gdN, ltN, leN, eqN, nIo, oIn, oI_eq, divN, remN, giT, giF, lzE, prE, bdE, smL, smR, shlN, shrN, hasE, andN, orN, bit1, bit0, max7, min7, giTr, giFa, gdp, litL, i2l, addL, mulL, divL, remL, cmLe, cmGt, cmGe, cmEq, eqL]
  · obtain ⟨l1, l2⟩ := limC (x.toInt64 * y.toInt64)
    refine ⟨_, _, l2, ?_, rfl, ?_⟩
    · unfold fX2_ofTwo
      simp (disch := (first | assumption | trivial | omega)) only [lit, neg1, oI_s, addN, mulN, subN, clN, gdN, ltN, leN, eqN, nIo, oIn, oI_eq, divN, remN, giT, giF, lzE, prE, bdE, smL, smR, shlN, shrN, hasE, andN, orN, bit1, bit0, max7, min7, giTr, giFa, gdp, litL, i2l, addL, mulL, divL, remL, cmLe, cmGt, cmGe, cmEq, eqL]
    · unfold fX7_two
      rw [l1]
      simp (disch := (first | assumption | trivial | omega)) only [lit, neg1, oI_s, addN, mulN, subN, clN, gdN, ltN, leN, eqN, nIo, oIn, oI_eq, divN, remN, giT, giF, lzE, prE, bdE, smL, smR, shlN, shrN, hasE, andN, orN, bit1, bit0, max7, min7, giTr, giFa, gdp, litL, i2l, addL, mulL, divL, remL, cmLe, cmGt, cmGe, cmEq, eqL]
  · by_cases cz : lg_cmp y.toInt64 (lN 0) = nI 0
    · refine ⟨lN 0, nI 0, bdd_nI (by omega), ?_, lim01.1, ?_⟩
      · unfold fX2_ofTwo
        simp (disch := (first | assumption | trivial | omega)) only [cz, lit, eqN, giF, giTr, giT, litL]
      · unfold fX7_two
        simp (disch := (first | assumption | trivial | omega)) only [cz, lit, eqN, giF, giTr, giT, litL, i2l]
    · have hy : ¬ y.toInt64 = 0 := fun e => cz (by rw [e]; exact (lg_cmp_eq _ _).mpr rfl)
      obtain ⟨l1, l2⟩ := limC (x.toInt64 / y.toInt64)
      refine ⟨_, _, l2, ?_, rfl, ?_⟩
      · unfold fX2_ofTwo
        rw [gd_pos hy]
        simp (disch := (first | assumption | trivial | omega)) only [cz, lit, litL, eqN, giF, giTr, giT, giFa]
      · unfold fX7_two
        rw [l1, gd_pos hy]
        simp (disch := (first | assumption | trivial | omega)) only [cz, lit, litL, eqN, giF, giTr, giT, giFa]
theorem cm67 {a c : Nat} (h : cmP a c) (x y : Int64) : ∃ z x', (x' = nI 0 ∨ x' = nI 1) ∧ fX2_ofTwo (nI a) x y = some z ∧ fX2_limited z = x' ∧ nbool (fX7_isAsked (nI c) x y) = x' := by
  rcases h with ⟨rfl, rfl⟩ | ⟨rfl, rfl⟩ | ⟨rfl, rfl⟩ | ⟨rfl, rfl⟩ | ⟨rfl, rfl⟩ | ⟨rfl, rfl⟩
  · by_cases cz : nI 0 ≤ lg_cmp x y
    · refine ⟨lN 0, nI 0, Or.inl rfl, ?_, lim01.1, ?_⟩
      · unfold fX2_ofTwo
        simp (disch := (first | assumption | trivial | omega)) only [cz, lit, eqN, giF, giTr, giT, giFa, litL]
      · unfold fX7_isAsked
        simp (disch := (first | assumption | trivial | omega)) only [cz, lit, eqN, giF, giTr, giT, giFa, nb0]
    · refine ⟨lN 1, nI 1, Or.inr rfl, ?_, lim01.2, ?_⟩
      · unfold fX2_ofTwo
        simp (disch := (first | assumption | trivial | omega)) only [cz, lit, eqN, giF, giTr, giT, giFa, litL]
      · unfold fX7_isAsked
        simp (disch := (first | assumption | trivial | omega)) only [cz, lit, eqN, giF, giTr, giT, giFa, nb1]
  · by_cases cz : nI 0 < lg_cmp x y
    · refine ⟨lN 0, nI 0, Or.inl rfl, ?_, lim01.1, ?_⟩
      · unfold fX2_ofTwo
        simp (disch := (first | assumption | trivial | omega)) only [cz, lit, eqN, giF, giTr, giT, giFa, litL]
      · unfold fX7_isAsked
        simp (disch := (first | assumption | trivial | omega)) only [cz, lit, eqN, giF, giTr, giT, giFa, nb0]
    · refine ⟨lN 1, nI 1, Or.inr rfl, ?_, lim01.2, ?_⟩
      · unfold fX2_ofTwo
        simp (disch := (first | assumption | trivial | omega)) only [cz, lit, eqN, giF, giTr, giT, giFa, litL]
      · unfold fX7_isAsked
        simp (disch := (first | assumption | trivial | omega)) only [cz, lit, eqN, giF, giTr, giT, giFa, nb1]
  · by_cases cz : lg_cmp x y ≤ nI 0
    · refine ⟨lN 0, nI 0, Or.inl rfl, ?_, lim01.1, ?_⟩
      · unfold fX2_ofTwo
        simp (disch := (first | assumption | trivial | omega)) only [cz, lit, eqN, giF, giTr, giT, giFa, litL]
      · unfold fX7_isAsked
        simp (disch := (first | assumption | trivial | omega)) only [cz, lit, eqN, giF, giTr, giT, giFa, nb0]
    · refine ⟨lN 1, nI 1, Or.inr rfl, ?_, lim01.2, ?_⟩
      · unfold fX2_ofTwo
        simp (disch := (first | assumption | trivial | omega)) only [cz, lit, eqN, giF, giTr, giT, giFa, litL]
      · unfold fX7_isAsked
        simp (disch := (first | assumption | trivial | omega)) only [cz, lit, eqN, giF, giTr, giT, giFa, nb1]
  · by_cases cz : lg_cmp x y < nI 0
    · refine ⟨lN 0, nI 0, Or.inl rfl, ?_, lim01.1, ?_⟩
      · unfold fX2_ofTwo
        simp (disch := (first | assumption | trivial | omega)) only [cz, lit, eqN, giF, giTr, giT, giFa, litL]
      · unfold fX7_isAsked
        simp (disch := (first | assumption | trivial | omega)) only [cz, lit, eqN, giF, giTr, giT, giFa, nb0]
    · refine ⟨lN 1, nI 1, Or.inr rfl, ?_, lim01.2, ?_⟩
      · unfold fX2_ofTwo
        simp (disch := (first | assumption | trivial | omega)) only [cz, lit, eqN, giF, giTr, giT, giFa, litL]
      · unfold fX7_isAsked
        simp (disch := (first | assumption | trivial | omega)) only [cz, lit, eqN, giF, giTr, giT, giFa, nb1]
  · by_cases cz : lg_cmp x y = nI 0
    · refine ⟨lN 1, nI 1, Or.inr rfl, ?_, lim01.2, ?_⟩
      · unfold fX2_ofTwo
        simp (disch := (first | assumption | trivial | omega)) only [cz, lit, eqN, giF, giTr, giT, giFa, litL]
      · unfold fX7_isAsked
        simp (disch := (first | assumption | trivial | omega)) only [cz, lit, eqN, giF, giTr, giT, giFa, nb1]
    · refine ⟨lN 0, nI 0, Or.inl rfl, ?_, lim01.1, ?_⟩
      · unfold fX2_ofTwo
        simp (disch := (first | assumption | trivial | omega)) only [cz, lit, eqN, giF, giTr, giT, giFa, litL]
      · unfold fX7_isAsked
        simp (disch := (first | assumption | trivial | omega)) only [cz, lit, eqN, giF, giTr, giT, giFa, nb0]
  · by_cases cz : lg_cmp x y = nI 0
    · refine ⟨lN 0, nI 0, Or.inl rfl, ?_, lim01.1, ?_⟩
      · unfold fX2_ofTwo
        simp (disch := (first | assumption | trivial | omega)) only [cz, lit, eqN, giF, giTr, giT, giFa, litL]
      · unfold fX7_isAsked
        simp (disch := (first | assumption | trivial | omega)) only [cz, lit, eqN, giF, giTr, giT, giFa, nb0]
    · refine ⟨lN 1, nI 1, Or.inr rfl, ?_, lim01.2, ?_⟩
      · unfold fX2_ofTwo
        simp (disch := (first | assumption | trivial | omega)) only [cz, lit, eqN, giF, giTr, giT, giFa, litL]
      · unfold fX7_isAsked
        simp (disch := (first | assumption | trivial | omega)) only [cz, lit, eqN, giF, giTr, giT, giFa, nb1]
theorem jo67 {a c : Nat} (h : joP a c) {x y : Int32} (hx : x = nI 0 ∨ x = nI 1) (hy : y = nI 0 ∨ y = nI 1) : ∃ z x', (x' = nI 0 ∨ x' = nI 1) ∧ fX2_ofTwo (nI a) x.toInt64 y.toInt64 = some z ∧ fX2_limited z = x' ∧ nbool (fX7_joined (nI c) x y) = x' := by
  have o00 : (nI 0).toInt64 ||| (nI 0).toInt64 = lN 0 := by decide
  have o01 : (nI 0).toInt64 ||| (nI 1).toInt64 = lN 1 := by decide
  have o10 : (nI 1).toInt64 ||| (nI 0).toInt64 = lN 1 := by decide
  have o11 : (nI 1).toInt64 ||| (nI 1).toInt64 = lN 1 := by decide
  have a00 : (nI 0).toInt64 &&& (nI 0).toInt64 = lN 0 := by decide
  have a01 : (nI 0).toInt64 &&& (nI 1).toInt64 = lN 0 := by decide
  have a10 : (nI 1).toInt64 &&& (nI 0).toInt64 = lN 0 := by decide
  have a11 : (nI 1).toInt64 &&& (nI 1).toInt64 = lN 1 := by decide
  rcases h with ⟨rfl, rfl⟩ | ⟨rfl, rfl⟩
  · rcases hx with rfl | rfl <;> rcases hy with rfl | rfl
    · refine ⟨lN 0, nI 0, Or.inl rfl, ?_, lim01.1, ?_⟩
      · unfold fX2_ofTwo
        rw [a00]
        simp (disch := (first | assumption | trivial | omega)) only [lit, eqN, giF, giTr, giT, giFa]
      · unfold fX7_joined
        simp (disch := (first | assumption | trivial | omega)) only [lit, eqN, giF, giTr, giT, giFa, lzE, nb0]
    · refine ⟨lN 0, nI 0, Or.inl rfl, ?_, lim01.1, ?_⟩
      · unfold fX2_ofTwo
        rw [a01]
        simp (disch := (first | assumption | trivial | omega)) only [lit, eqN, giF, giTr, giT, giFa]
      · unfold fX7_joined
        simp (disch := (first | assumption | trivial | omega)) only [lit, eqN, giF, giTr, giT, giFa, lzE, nb0]
    · refine ⟨lN 0, nI 0, Or.inl rfl, ?_, lim01.1, ?_⟩
      · unfold fX2_ofTwo
        rw [a10]
        simp (disch := (first | assumption | trivial | omega)) only [lit, eqN, giF, giTr, giT, giFa]
      · unfold fX7_joined
        simp (disch := (first | assumption | trivial | omega)) only [lit, eqN, giF, giTr, giT, giFa, lzE, nb0]
    · refine ⟨lN 1, nI 1, Or.inr rfl, ?_, lim01.2, ?_⟩
      · unfold fX2_ofTwo
        rw [a11]
        simp (disch := (first | assumption | trivial | omega)) only [lit, eqN, giF, giTr, giT, giFa]
      · unfold fX7_joined
        simp (disch := (first | assumption | trivial | omega)) only [lit, eqN, giF, giTr, giT, giFa, lzE, nb1]
  · rcases hx with rfl | rfl <;> rcases hy with rfl | rfl
    · refine ⟨lN 0, nI 0, Or.inl rfl, ?_, lim01.1, ?_⟩
      · unfold fX2_ofTwo
        rw [o00]
        simp (disch := (first | assumption | trivial | omega)) only [lit, eqN, giF, giTr, giT, giFa]
      · unfold fX7_joined
        simp (disch := (first | assumption | trivial | omega)) only [lit, eqN, giF, giTr, giT, giFa, lzE, nb0]
    · refine ⟨lN 1, nI 1, Or.inr rfl, ?_, lim01.2, ?_⟩
      · unfold fX2_ofTwo
        rw [o01]
        simp (disch := (first | assumption | trivial | omega)) only [lit, eqN, giF, giTr, giT, giFa]
      · unfold fX7_joined
        simp (disch := (first | assumption | trivial | omega)) only [lit, eqN, giF, giTr, giT, giFa, lzE, nb1]
    · refine ⟨lN 1, nI 1, Or.inr rfl, ?_, lim01.2, ?_⟩
      · unfold fX2_ofTwo
        rw [o10]
        simp (disch := (first | assumption | trivial | omega)) only [lit, eqN, giF, giTr, giT, giFa]
      · unfold fX7_joined
        simp (disch := (first | assumption | trivial | omega)) only [lit, eqN, giF, giTr, giT, giFa, lzE, nb1]
    · refine ⟨lN 1, nI 1, Or.inr rfl, ?_, lim01.2, ?_⟩
      · unfold fX2_ofTwo
        rw [o11]
        simp (disch := (first | assumption | trivial | omega)) only [lit, eqN, giF, giTr, giT, giFa]
      · unfold fX7_joined
        simp (disch := (first | assumption | trivial | omega)) only [lit, eqN, giF, giTr, giT, giFa, lzE, nb1]
