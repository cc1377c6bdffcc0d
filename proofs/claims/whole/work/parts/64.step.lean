-- 64: PURE PART: what a text's codes do, step by step (out of wip/whole/pure by pure.py)
theorem wJ_e {J : gJ} {o k : Nat} {v : Int64} : wJ J o k v o k = v := wJ_self
theorem wJ_n {J : gJ} {o k k' : Nat} {v : Int64} (h : k' ≠ k) : wJ J o k v o k' = J o k' := wJ_k h
theorem dec2 (m : Nat) : (nI (m + 2) + -(nI 2) : Int32) = nI m := by
  rw [← Int32.sub_eq_add_neg, subN (by omega), Nat.add_sub_cancel]
theorem dec1 (m : Nat) : (nI (m + 1) + -(nI 1) : Int32) = nI m := decO (m + 1)
theorem dec1' (m : Nat) : (nI (m + 1) - nI 1 : Int32) = nI m := by
  rw [subN (by omega), Nat.add_sub_cancel]
def bdd (x : Int32) : Prop := -1000000 ≤ x.toInt ∧ x.toInt ≤ 1000000
theorem bdd_nI {n : Nat} (h : n ≤ 1000000) : bdd (nI n) := by
  unfold bdd
  rw [nI_toInt (by omega)]
  omega
theorem i64_in {z : Int64} (h1 : -1000000 ≤ z.toInt) (h2 : z.toInt ≤ 1000000) : z.toInt32.toInt64 = z ∧ z.toInt32.toInt = z.toInt := by
  have e : z.toInt32.toInt = z.toInt := by
    rw [Int64.toInt_toInt32]
    rw [show (2 : Nat) ^ 32 = 4294967296 from rfl]
    unfold Int.bmod
    simp only []
    split <;> omega
  refine ⟨?_, e⟩
  apply Int64.toInt_inj.mp
  rw [Int32.toInt_toInt64, e]
theorem limC (z : Int64) : (fX2_limited z).toInt64 = fX7_clip z ∧ bdd (fX2_limited z) := by
  have e1 : (1000000 : Int64).toInt = 1000000 := by decide
  have e2 : (-1000000 : Int64).toInt = -1000000 := by decide
  have f1 : (1000000 : Int32).toInt = 1000000 := by decide
  have f2 : (-1000000 : Int32).toInt = -1000000 := by decide
  unfold fX2_limited fX7_clip
  by_cases c1 : lg_cmp z (1000000 : Int64) ≤ 0
  · rw [gi_pos c1, gi_pos c1]
    have d1 := (lg_cmp_le _ _).mp c1
    rw [Int64.le_iff_toInt_le, e1] at d1
    by_cases c2 : 0 ≤ lg_cmp z (-1000000 : Int64)
    · rw [gi_pos c2, gi_pos c2]
      have d2 := (lg_cmp_ge _ _).mp c2
      rw [Int64.le_iff_toInt_le, e2] at d2
      obtain ⟨g1, g2⟩ := i64_in d2 d1
      exact ⟨g1, by unfold bdd; rw [g2]; exact ⟨d2, d1⟩⟩
    · rw [gi_neg c2, gi_neg c2]
      exact ⟨by decide, by unfold bdd; rw [f2]; decide⟩
  · rw [gi_neg c1, gi_neg c1]
    exact ⟨by decide, by unfold bdd; rw [f1]; decide⟩
theorem lim01 : fX2_limited (lN 0) = nI 0 ∧ fX2_limited (lN 1) = nI 1 := by
  constructor
  · unfold fX2_limited
    rw [gi_pos ((lg_cmp_le _ _).mpr (by decide)), gi_pos ((lg_cmp_ge _ _).mpr (by decide))]
    exact l2i 0
  · unfold fX2_limited
    rw [gi_pos ((lg_cmp_le _ _).mpr (by decide)), gi_pos ((lg_cmp_ge _ _).mpr (by decide))]
    exact l2i 1
/-- the values of the names -/
def nvS (S : Nat → Nat → Nat) (b s v : Nat) : Nat := match v with
  | 0 => S 10 0
  | 1 => b
  | 2 => s
  | 3 => S 5 b - S 4 b + 1
  | 4 => S 13 b
  | 5 => pc (S 10 5)
  | 6 => S 3 b / 2 ^ s &&& 1
  | _ => pc (S 12 b)
section NM
variable {S : Nat → Nat → Nat} {w b s t v : Nat} {C M : gI}
theorem v8 {v : Nat} (h : v < 8) : v = 0 ∨ v = 1 ∨ v = 2 ∨ v = 3 ∨ v = 4 ∨ v = 5 ∨ v = 6 ∨ v = 7 := by omega
theorem nvS_le (g : sv S (fw w C) M) (hb : b < 6) (hs : s < 5) : nvS S b s v ≤ 10000 := by
  have bw := b_w g
  have bb := b_bu g hb
  have bp := b_pu g hb
  have p1 := pc_le (S 10 5)
  have p2 := pc_le (S 12 b)
  have p3 : S 3 b / 2 ^ s &&& 1 ≤ 1 := Nat.and_le_right
  unfold nvS
  split <;> omega
theorem nm6 (g : sv S (fw w C) M) (hb : b < 6) (hs : s < 5) (hv : v < 8) : fX2_named w (nI (nmC v)) (nI b) (nI s) C = some (nI (nvS S b s v)) := by
  have bw := b_w g
  have bb := b_bu g hb
  have bo := b_ow g hb
  have c7 : C w 7 = nI (S 10 0) := by have z := v_da6 g; exact z
  have c4 : C w 4 = nI (S 10 5) := by have z := v_f6 g; exact z
  have cp : C (w + 1) b = nI (S 13 b) := by have z := v_pu6 g hb; exact z
  have co : C (w + 2) b = nI (S 12 b) := by have z := v_ow6 g hb; exact z
  have cw : C 4 b = nI (S 3 b) := by have z := v_wa6 g hb; exact z
  have c5 : C 5 b = nI (S 4 b) := by have z := v_fr6 g hb; exact z
  have c6 : C 6 b = nI (S 5 b) := by have z := v_to6 g hb; exact z
  have k1 := bitCount6 (S 10 5) bw.2.2.2.2.2
  have k2 := bitCount6 (S 12 b) bo.1
  have hs32 : s < 32 := by omega
  unfold fX2_named
  rcases v8 hv with rfl | rfl | rfl | rfl | rfl | rfl | rfl | rfl
  · simp only [nmC, nvS]
    simp (disch := (first | assumption | trivial | omega)) only [c7, lit, neg1, oI_s, addN, mulN, subN, clN, gdN, ltN, leN, eqN, nIo, oIn, oI_eq, divN, remN, giT, giF, lzE, prE, bdE, smL, smR, shlN, shrN, hasE, andN, orN, bit1, bit0, max7, min7, giTr, giFa, gdp, litL, i2l, addL, mulL, divL, remL, cmLe, cmGt, cmGe, cmEq, eqL]
  · simp only [nmC, nvS]
    simp (disch := (first | assumption | trivial | omega)) only [lit, neg1, oI_s, addN, mulN, subN, clN, gdN, ltN, leN, eqN, nIo, oIn, oI_eq, divN, remN, giT, giF, lzE, prE, bdE, smL, smR, shlN, shrN, hasE, andN, orN, bit1, bit0, max7, min7, giTr, giFa, gdp, litL, i2l, addL, mulL, divL, remL, cmLe, cmGt, cmGe, cmEq, eqL]
  · simp only [nmC, nvS]
    simp (disch := (first | assumption | trivial | omega)) only [lit, neg1, oI_s, addN, mulN, subN, clN, gdN, ltN, leN, eqN, nIo, oIn, oI_eq, divN, remN, giT, giF, lzE, prE, bdE, smL, smR, shlN, shrN, hasE, andN, orN, bit1, bit0, max7, min7, giTr, giFa, gdp, litL, i2l, addL, mulL, divL, remL, cmLe, cmGt, cmGe, cmEq, eqL]
  · simp only [nmC, nvS]
    unfold fX0_longOf
    simp (disch := (first | assumption | trivial | omega)) only [c5, c6, lit, neg1, oI_s, addN, mulN, subN, clN, gdN, ltN, leN, eqN, nIo, oIn, oI_eq, divN, remN, giT, giF, lzE, prE, bdE, smL, smR, shlN, shrN, hasE, andN, orN, bit1, bit0, max7, min7, giTr, giFa, gdp, litL, i2l, addL, mulL, divL, remL, cmLe, cmGt, cmGe, cmEq, eqL]
  · simp only [nmC, nvS]
    simp (disch := (first | assumption | trivial | omega)) only [cp, lit, neg1, oI_s, addN, mulN, subN, clN, gdN, ltN, leN, eqN, nIo, oIn, oI_eq, divN, remN, giT, giF, lzE, prE, bdE, smL, smR, shlN, shrN, hasE, andN, orN, bit1, bit0, max7, min7, giTr, giFa, gdp, litL, i2l, addL, mulL, divL, remL, cmLe, cmGt, cmGe, cmEq, eqL]
  · simp only [nmC, nvS]
    simp (disch := (first | assumption | trivial | omega)) only [c4, k1, lit, neg1, oI_s, addN, mulN, subN, clN, gdN, ltN, leN, eqN, nIo, oIn, oI_eq, divN, remN, giT, giF, lzE, prE, bdE, smL, smR, shlN, shrN, hasE, andN, orN, bit1, bit0, max7, min7, giTr, giFa, gdp, litL, i2l, addL, mulL, divL, remL, cmLe, cmGt, cmGe, cmEq, eqL]
  · simp only [nmC, nvS]
    simp (disch := (first | assumption | trivial | omega)) only [cw, lit, neg1, oI_s, addN, mulN, subN, clN, gdN, ltN, leN, eqN, nIo, oIn, oI_eq, divN, remN, giT, giF, lzE, prE, bdE, smL, smR, shlN, shrN, hasE, andN, orN, bit1, bit0, max7, min7, giTr, giFa, gdp, litL, i2l, addL, mulL, divL, remL, cmLe, cmGt, cmGe, cmEq, eqL]
  · simp only [nmC, nvS]
    simp (disch := (first | assumption | trivial | omega)) only [co, k2, lit, neg1, oI_s, addN, mulN, subN, clN, gdN, ltN, leN, eqN, nIo, oIn, oI_eq, divN, remN, giT, giF, lzE, prE, bdE, smL, smR, shlN, shrN, hasE, andN, orN, bit1, bit0, max7, min7, giTr, giFa, gdp, litL, i2l, addL, mulL, divL, remL, cmLe, cmGt, cmGe, cmEq, eqL]
theorem wo67 (x : Int32) : ∃ v, v < 1000 ∧ ∀ S' : Nat → Nat → Nat, S' = S → ∀ w C M, sv S' (fw w C) M → fX2_ofOne w (nI 10) x C = some (nI v) ∧ fX7_ofOne (nI 2) x.toInt64 M = some (lN v) := by
  by_cases c : inR x 5
  · obtain ⟨k, hk, rfl⟩ := c
    by_cases hlt : S 2 k < 1000
    · refine ⟨S 2 k, hlt, fun S' e w C M g => ?_⟩
      subst e
      have c3 : C 3 k = nI (S' 2 k) := by have z := v_wo6 g hk; exact z
      have m3 := v_wo7 g hk
      constructor
      · unfold fX2_ofOne
        have h0 : ¬ k < 0 := by omega
        simp (disch := (first | assumption | trivial | omega)) only [c3, lit, neg1, oI_s, addN, mulN, subN, clN, gdN, ltN, leN, eqN, nIo, oIn, oI_eq, divN, remN, giT, giF, lzE, prE, bdE, smL, smR, shlN, shrN, hasE, andN, orN, bit1, bit0, max7, min7, giTr, giFa, gdp, litL, i2l, addL, mulL, divL, remL, cmLe, cmGt, cmGe, cmEq, eqL]
      · unfold fX7_ofOne
        have n0 : ¬ lg_cmp (lN k) (lN 0) < nI 0 := fun q => by
          have := (lg_cmp_lt _ _).mp q
          have h2 := (pk_lLT (a := k) (b := 0) (by omega) (by omega)).mp this
          omega
        simp (disch := (first | assumption | trivial | omega)) only [n0, l2i, m3, lit, neg1, oI_s, addN, mulN, subN, clN, gdN, ltN, leN, eqN, nIo, oIn, oI_eq, divN, remN, giT, giF, lzE, prE, bdE, smL, smR, shlN, shrN, hasE, andN, orN, bit1, bit0, max7, min7, giTr, giFa, gdp, litL, i2l, addL, mulL, divL, remL, cmLe, cmGt, cmGe, cmEq, eqL]
    · exact ⟨0, by decide, fun S' e w C M g => absurd (b_od g hk).2 (by rw [e]; omega)⟩
  · refine ⟨0, by decide, fun S' e w C M g => ?_⟩
    constructor
    · unfold fX2_ofOne
      rw [gi_pos (show nI 10 = (10 : Int32) from rfl)]
      by_cases h0 : x < 0
      · rw [gi_pos h0]
        rfl
      · rw [gi_neg h0, gi_pos (show (5 : Int32) ≤ x from not_in (n := 5) (by omega) c h0)]
        rfl
    · unfold fX7_ofOne
      rw [gi_neg (show ¬ nI 2 = (5 : Int32) by decide), gi_pos (show nI 2 = (2 : Int32) from rfl)]
      by_cases h0 : x < 0
      · rw [gi_pos]
        · rfl
        · apply (lg_cmp_lt _ _).mpr
          rw [Int64.lt_iff_toInt_lt, Int32.toInt_toInt64]
          rw [lt_toInt] at h0
          exact h0
      · rw [gi_neg, gi_pos]
        · rfl
        · apply (lg_cmp_ge _ _).mpr
          rw [Int64.le_iff_toInt_le, Int32.toInt_toInt64]
          have := not_in (n := 5) (by omega) c h0
          rw [le_toInt] at this
          exact this
        · intro q
          have := (lg_cmp_lt _ _).mp q
          rw [Int64.lt_iff_toInt_lt, Int32.toInt_toInt64] at this
          apply h0
          rw [lt_toInt]
          exact this
theorem pu67 (hnb : S 0 0 ≤ 6) (x : Int32) : ∃ v, v < 1000 ∧ ∀ S' : Nat → Nat → Nat, S' = S → ∀ w C M, sv S' (fw w C) M → fX2_ofOne w (nI 11) x C = some (nI v) ∧ fX7_ofOne (nI 4) x.toInt64 M = some (lN v) := by
  by_cases c : inR x (S 0 0)
  · obtain ⟨k, hk, rfl⟩ := c
    have hk6 : k < 6 := by omega
    by_cases hlt : S 13 k < 1000
    · refine ⟨S 13 k, hlt, fun S' e w C M g => ?_⟩
      subst e
      have c3 : C (w + 1) k = nI (S' 13 k) := by have z := v_pu6 g hk6; exact z
      have c12 : C 1 12 = nI (S' 0 0) := by have z := v_nb6 g; exact z
      have m3 := v_pu7 g hk6
      have m0 := v_nb7 g
      constructor
      · unfold fX2_ofOne
        have h0 : ¬ k < 0 := by omega
        simp (disch := (first | assumption | trivial | omega)) only [c3, c12, lit, neg1, oI_s, addN, mulN, subN, clN, gdN, ltN, leN, eqN, nIo, oIn, oI_eq, divN, remN, giT, giF, lzE, prE, bdE, smL, smR, shlN, shrN, hasE, andN, orN, bit1, bit0, max7, min7, giTr, giFa, gdp, litL, i2l, addL, mulL, divL, remL, cmLe, cmGt, cmGe, cmEq, eqL]
      · unfold fX7_ofOne
        have n0 : ¬ lg_cmp (lN k) (lN 0) < nI 0 := fun q => by
          have := (lg_cmp_lt _ _).mp q
          have h2 := (pk_lLT (a := k) (b := 0) (by omega) (by omega)).mp this
          omega
        simp (disch := (first | assumption | trivial | omega)) only [n0, l2i, m3, m0, lit, neg1, oI_s, addN, mulN, subN, clN, gdN, ltN, leN, eqN, nIo, oIn, oI_eq, divN, remN, giT, giF, lzE, prE, bdE, smL, smR, shlN, shrN, hasE, andN, orN, bit1, bit0, max7, min7, giTr, giFa, gdp, litL, i2l, addL, mulL, divL, remL, cmLe, cmGt, cmGe, cmEq, eqL]
    · exact ⟨0, by decide, fun S' e w C M g => absurd (b_pu g hk6) (by rw [e]; omega)⟩
  · refine ⟨0, by decide, fun S' e w C M g => ?_⟩
    subst e
    have c12 : C 1 12 = nI (S' 0 0) := by have z := v_nb6 g; exact z
    have m0 := v_nb7 g
    constructor
    · unfold fX2_ofOne
      rw [gi_neg (show ¬ nI 11 = (10 : Int32) by decide), gi_pos (show nI 11 = (11 : Int32) from rfl)]
      by_cases h0 : x < 0
      · rw [gi_pos h0]
        rfl
      · rw [gi_neg h0, c12, gi_pos (not_in (by omega) c h0)]
        rfl
    · unfold fX7_ofOne
      rw [gi_neg (show ¬ nI 4 = (5 : Int32) by decide), gi_neg (show ¬ nI 4 = (2 : Int32) by decide), m0]
      by_cases h0 : x < 0
      · rw [gi_pos]
        · rfl
        · apply (lg_cmp_lt _ _).mpr
          rw [Int64.lt_iff_toInt_lt, Int32.toInt_toInt64]
          rw [lt_toInt] at h0
          exact h0
      · rw [gi_neg, gi_pos]
        · rfl
        · apply (lg_cmp_ge _ _).mpr
          rw [Int64.le_iff_toInt_le, Int32.toInt_toInt64, Int32.toInt_toInt64]
          have := not_in (by omega) c h0
          rw [le_toInt] at this
          exact this
        · intro q
          have := (lg_cmp_lt _ _).mp q
          rw [Int64.lt_iff_toInt_lt, Int32.toInt_toInt64] at this
          apply h0
          rw [lt_toInt]
          exact this
end NM
section W6
variable {t w law b s sp q st E : Nat} {C : gI}
/-- a code that lays a number down -/
theorem w6num {n v : Nat} (hl : law < 2) (hE : C (296 + 8 * t + 7) law = nI E) (hE3 : E ≤ 300) (hq : q < E) (hst : st < 300) (hsp : sp < 64) (hc : C (296 + 8 * t + 4) q = nI 24) (ho : C (296 + 8 * t + 5) q = nI v) : fX2_worked_14 (296 + 8 * t) w (n + 1) (nI law) (nI b) (nI s) (nI sp) (nI q) (nI st) C = fX2_worked_14 (296 + 8 * t) w n (nI law) (nI b) (nI s) (nI (sp + 1)) (nI (q + 1)) (nI (st + 1)) (wI C 288 sp (nI v)) := by
  rw [sX2_worked_14, fX2_worked_14b]
  simp (disch := (first | assumption | trivial | omega)) only [hE, hc, ho, fX2_isLink, fX2_isOnOne, lit, neg1, oI_s, addN, mulN, subN, clN, gdN, ltN, leN, eqN, nIo, oIn, oI_eq, divN, remN, giT, giF, lzE, prE, bdE, smL, smR, shlN, shrN, hasE, andN, orN, bit1, bit0, max7, min7, giTr, giFa, gdp, litL, i2l, addL, mulL, divL, remL, cmLe, cmGt, cmGe, cmEq, eqL]
theorem w6name {n v x : Nat} (hl : law < 2) (hE : C (296 + 8 * t + 7) law = nI E) (hE3 : E ≤ 300) (hq : q < E) (hst : st < 300) (hsp : sp < 64) (hv : v < 8) (hc : C (296 + 8 * t + 4) q = nI (nmC v)) (hx : fX2_named w (nI (nmC v)) (nI b) (nI s) C = some (nI x)) : fX2_worked_14 (296 + 8 * t) w (n + 1) (nI law) (nI b) (nI s) (nI sp) (nI q) (nI st) C = fX2_worked_14 (296 + 8 * t) w n (nI law) (nI b) (nI s) (nI (sp + 1)) (nI (q + 1)) (nI (st + 1)) (wI C 288 sp (nI x)) := by
  rw [sX2_worked_14, fX2_worked_14b]
  rcases v8 hv with rfl | rfl | rfl | rfl | rfl | rfl | rfl | rfl <;> simp only [nmC] at hc hx <;> simp (disch := (first | assumption | trivial | omega)) only [hE, hc, hx, fX2_isLink, fX2_isOnOne, lit, neg1, oI_s, addN, mulN, subN, clN, gdN, ltN, leN, eqN, nIo, oIn, oI_eq, divN, remN, giT, giF, lzE, prE, bdE, smL, smR, shlN, shrN, hasE, andN, orN, bit1, bit0, max7, min7, giTr, giFa, gdp, litL, i2l, addL, mulL, divL, remL, cmLe, cmGt, cmGe, cmEq, eqL]
/-- a code on one number -/
theorem w6one {n y : Nat} {x : Int32} (hl : law < 2) (hE : C (296 + 8 * t + 7) law = nI E) (hE3 : E ≤ 300) (hq : q < E) (hst : st < 300) (hsp : sp < 64) (hy : y = 10 ∨ y = 11 ∨ y = 38 ∨ y = 18) (hc : C (296 + 8 * t + 4) q = nI y) (hx : fX2_ofOne w (nI y) (C 288 sp) C = some x) : fX2_worked_14 (296 + 8 * t) w (n + 1) (nI law) (nI b) (nI s) (nI (sp + 1)) (nI q) (nI st) C = fX2_worked_14 (296 + 8 * t) w n (nI law) (nI b) (nI s) (nI (sp + 1)) (nI (q + 1)) (nI (st + 1)) (wI C 288 sp x) := by
  rw [sX2_worked_14, fX2_worked_14b]
  rcases hy with rfl | rfl | rfl | rfl <;> simp (disch := (first | assumption | trivial | omega)) only [hE, hc, Nat.add_sub_cancel, hx, fX2_isLink, fX2_isOnOne, lit, neg1, oI_s, addN, mulN, subN, clN, gdN, ltN, leN, eqN, nIo, oIn, oI_eq, divN, remN, giT, giF, lzE, prE, bdE, smL, smR, shlN, shrN, hasE, andN, orN, bit1, bit0, max7, min7, giTr, giFa, gdp, litL, i2l, addL, mulL, divL, remL, cmLe, cmGt, cmGe, cmEq, eqL]
/-- a code on two -/
theorem w6two {n y : Nat} {x : Int64} (hl : law < 2) (hE : C (296 + 8 * t + 7) law = nI E) (hE3 : E ≤ 300) (hq : q < E) (hst : st < 300) (hsp : sp + 1 < 64) (hy : y = 16 ∨ y = 17 ∨ y = 25 ∨ y = 26 ∨ y = 27 ∨ y = 28 ∨ y = 29 ∨ y = 30 ∨ y = 31 ∨ y = 32 ∨ y = 33 ∨ y = 34) (hc : C (296 + 8 * t + 4) q = nI y) (hx : fX2_ofTwo (nI y) (C 288 sp).toInt64 (C 288 (sp + 1)).toInt64 = some x) : fX2_worked_14 (296 + 8 * t) w (n + 1) (nI law) (nI b) (nI s) (nI (sp + 2)) (nI q) (nI st) C = fX2_worked_14 (296 + 8 * t) w n (nI law) (nI b) (nI s) (nI (sp + 1)) (nI (q + 1)) (nI (st + 1)) (wI C 288 sp (fX2_limited x)) := by
  have e1 := dec1 (sp + 1)
  have e2 := dec1' sp
  rw [sX2_worked_14, fX2_worked_14b]
  rcases hy with rfl | rfl | rfl | rfl | rfl | rfl | rfl | rfl | rfl | rfl | rfl | rfl <;> simp (disch := (first | assumption | trivial | omega)) only [e1, e2, hE, hc, hx, fX2_isLink, fX2_isOnOne, lit, leN, ltN, eqN, giT, giF, giTr, giFa, gdN, clN, lzE, bdE, addN]
/-- then -/
theorem w6then {n o : Nat} {x : Int32} (hl : law < 2) (hE : C (296 + 8 * t + 7) law = nI E) (hE3 : E ≤ 300) (hq : q < E) (hst : st < 300) (hsp : sp < 64) (hc : C (296 + 8 * t + 4) q = nI 13) (ho : C (296 + 8 * t + 5) q = nI o) (hx : C 288 sp = x) : fX2_worked_14 (296 + 8 * t) w (n + 1) (nI law) (nI b) (nI s) (nI (sp + 1)) (nI q) (nI st) C = gi (x = nI 0) (fX2_worked_14 (296 + 8 * t) w n (nI law) (nI b) (nI s) (nI sp) (nI o) (nI (st + 1)) C) (fX2_worked_14 (296 + 8 * t) w n (nI law) (nI b) (nI s) (nI sp) (nI (q + 1)) (nI (st + 1)) C) := by
  have e2 := dec1' sp
  rw [sX2_worked_14, fX2_worked_14b]
  simp (disch := (first | assumption | trivial | omega)) only [e2, hE, hc, ho, hx, lit, leN, ltN, eqN, giT, giF, giTr, giFa, gdN, clN, lzE, bdE, addN, max7, Nat.zero_max]
/-- else -/
theorem w6else {n o : Nat} (hl : law < 2) (hE : C (296 + 8 * t + 7) law = nI E) (hE3 : E ≤ 300) (hq : q < E) (hst : st < 300) (hc : C (296 + 8 * t + 4) q = nI 14) (ho : C (296 + 8 * t + 5) q = nI o) : fX2_worked_14 (296 + 8 * t) w (n + 1) (nI law) (nI b) (nI s) (nI sp) (nI q) (nI st) C = fX2_worked_14 (296 + 8 * t) w n (nI law) (nI b) (nI s) (nI sp) (nI o) (nI (st + 1)) C := by
  rw [sX2_worked_14, fX2_worked_14b]
  simp (disch := (first | assumption | trivial | omega)) only [hE, hc, ho, lit, leN, ltN, eqN, giT, giF, giTr, giFa, gdN, clN, lzE, bdE, addN]
end W6
