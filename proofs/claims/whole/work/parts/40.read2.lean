-- 40: PURE PART: what is read off: room, at, the book, crowds (out of wip/whole/pure by pure.py)
theorem lp_2 {σ ρ6 ρ7 : Type} (L6 : Nat → Nat → σ → Option ρ6) (L7 : Nat → Nat → σ → Option ρ7) (N : Nat) (P : Nat → σ → Prop) (Q : ρ6 → ρ7 → Prop) (h0 : ∀ n a, P N a → ∃ r6 r7, L6 (n + 1) N a = some r6 ∧ L7 (n + 1) N a = some r7 ∧ Q r6 r7) (h1 : ∀ n k a, k < N → P k a → (∃ r6 r7, L6 (n + 1) k a = some r6 ∧ L7 (n + 1) k a = some r7 ∧ Q r6 r7) ∨ (∃ a', L6 (n + 1) k a = L6 n (k + 1) a' ∧ L7 (n + 1) k a = L7 n (k + 1) a' ∧ P (k + 1) a')) : ∀ j k a n, k + j = N → P k a → j < n → ∃ r6 r7, L6 n k a = some r6 ∧ L7 n k a = some r7 ∧ Q r6 r7 := by
  intro j
  induction j with
  | zero =>
    intro k a n hk hp hn
    obtain ⟨m, rfl⟩ : ∃ m, n = m + 1 := ⟨n - 1, by omega⟩
    have : k = N := by omega
    subst this
    exact h0 m a hp
  | succ j ih =>
    intro k a n hk hp hn
    obtain ⟨m, rfl⟩ : ∃ m, n = m + 1 := ⟨n - 1, by omega⟩
    rcases h1 m k a (by omega) hp with h | ⟨a', e, e', hp'⟩
    · exact h
    · rw [e, e']
      exact ih (k + 1) a' m (by omega) hp' (by omega)
theorem itr_pr {σ τ : Type} (f : Nat → σ → σ) (g : Nat → τ → τ) : ∀ j k a b, itr (fun k (x : σ × τ) => (f k x.1, g k x.2)) k j (a, b) = (itr f k j a, itr g k j b) := by
  intro j
  induction j with
  | zero => intro k a b; rfl
  | succ j ih => intro k a b; exact ih (k + 1) _ _
theorem isIn1 (x : Int32) (n : Nat) (hn : n < 2147483647) : (∃ k, 1 ≤ k ∧ k ≤ n ∧ x = nI k ∧ fX7_isIn x 1 (nI n) = nI 1) ∨ fX7_isIn x 1 (nI n) = nI 0 := by
  by_cases h : inR x (n + 1)
  · obtain ⟨k, hk, rfl⟩ := h
    by_cases h0 : k = 0
    · right; subst h0; unfold fX7_isIn; simp (disch := (first | assumption | trivial | omega)) only [lit, neg1, oI_s, addN, mulN, subN, clN, gdN, ltN, leN, eqN, nIo, oIn, oI_eq, divN, remN, giT, giF, lzE, prE, bdE, smL, smR, shlN, shrN, hasE, andN, orN, bit1, bit0, max7, min7, giTr, giFa, gdp, litL, i2l, addL, mulL, divL, remL, cmLe, cmGt, cmGe, cmEq, eqL]
    · left
      refine ⟨k, by omega, by omega, rfl, ?_⟩
      unfold fX7_isIn; simp (disch := (first | assumption | trivial | omega)) only [lit, neg1, oI_s, addN, mulN, subN, clN, gdN, ltN, leN, eqN, nIo, oIn, oI_eq, divN, remN, giT, giF, lzE, prE, bdE, smL, smR, shlN, shrN, hasE, andN, orN, bit1, bit0, max7, min7, giTr, giFa, gdp, litL, i2l, addL, mulL, divL, remL, cmLe, cmGt, cmGe, cmEq, eqL]
  · right
    unfold fX7_isIn
    by_cases h1 : x < 1
    · exact gi_pos h1
    · rw [gi_neg h1]
      apply gi_pos
      rw [lt_toInt] at h1 ⊢
      rw [inR_toInt (by omega)] at h
      rw [nI_toInt (by omega)]
      have e1 : (1 : Int32).toInt = 1 := by decide
      omega
theorem andn_z {r f : Nat} (hr : r < 4096) (hf : f < 4096) : andn r f = 0 ↔ f &&& r = r := by
  have hl : andn r f < 2 ^ 12 := Nat.lt_of_le_of_lt andn_le hr
  have hl2 : f &&& r < 2 ^ 12 := Nat.lt_of_le_of_lt Nat.and_le_right hr
  rw [bit_z hl]
  constructor
  · intro h
    refine bits_eq hl2 hr (fun i hi => ?_)
    have := h i hi
    rw [andn_bit (by omega) (by omega)] at this
    rw [Nat.testBit_and]
    simp only [Bool.and_eq_true]
    constructor
    · exact fun x => x.2
    · intro x
      refine ⟨?_, x⟩
      apply Classical.byContradiction
      exact fun y => this ⟨x, y⟩
  · intro h i hi
    rw [andn_bit (by omega) (by omega)]
    rintro ⟨x, y⟩
    rw [← h, Nat.testBit_and] at x
    simp only [Bool.and_eq_true] at x
    exact y x.1
theorem case_51 : st_51 V0 := by
  intro a1 IC IM JM hV
  obtain ⟨S, h⟩ := view hV
  have hw := b_w h
  rcases isIn1 a1 12 (by decide) with ⟨n, h1, h2, rfl, hi⟩ | hi
  · have hp := p2le n (by omega)
    have hp0 := Nat.two_pow_pos n
    obtain ⟨r6, r7, e6, e7, hq⟩ := lp_2 (fun m k (a : Unit) => fX6_room_14 m (nI n) (nI k) IC) (fun m k (a : Unit) => fX7_room_14 m (nI n) (nI k) IM) (13 - n) (fun _ _ => True) (fun x y => x = y)
      (fun m a _ => by
        refine ⟨.inr (), .inr (), ?_, ?_, rfl⟩
        · rw [sX6_room_14, fX6_room_14b]
          simp (disch := (first | assumption | trivial | omega)) only [lit, neg1, oI_s, addN, mulN, subN, clN, gdN, ltN, leN, eqN, nIo, oIn, oI_eq, divN, remN, giT, giF, lzE, prE, bdE, smL, smR, shlN, shrN, hasE, andN, orN, bit1, bit0, max7, min7, giTr, giFa, gdp, litL, i2l, addL, mulL, divL, remL, cmLe, cmGt, cmGe, cmEq, eqL]
        · rw [sX7_room_14, fX7_room_14b]
          simp (disch := (first | assumption | trivial | omega)) only [lit, neg1, oI_s, addN, mulN, subN, clN, gdN, ltN, leN, eqN, nIo, oIn, oI_eq, divN, remN, giT, giF, lzE, prE, bdE, smL, smR, shlN, shrN, hasE, andN, orN, bit1, bit0, max7, min7, giTr, giFa, gdp, litL, i2l, addL, mulL, divL, remL, cmLe, cmGt, cmGe, cmEq, eqL])
      (fun m k a hk _ => by
        have q1 : (2 ^ n - 1) * 2 ^ k < 4096 := by
          have a1 : 2 ^ n * 2 ^ k ≤ 4096 := by rw [← Nat.pow_add]; exact p2le _ (by omega)
          have a2 := Nat.two_pow_pos k
          rw [Nat.sub_mul]
          omega
        have q2 : S 10 5 &&& (2 ^ n - 1) * 2 ^ k ≤ S 10 5 := Nat.and_le_left
        have q3 : andn ((2 ^ n - 1) * 2 ^ k) (S 10 5) ≤ _ := andn_le
        try dsimp only
        by_cases c : S 10 5 &&& (2 ^ n - 1) * 2 ^ k = (2 ^ n - 1) * 2 ^ k
        · left
          have c' := (andn_z q1 hw.2.2.2.2.2).mpr c
          refine ⟨.inl (nI k), .inl (nI k), ?_, ?_, rfl⟩
          · rw [sX6_room_14, fX6_room_14b]
            simp (disch := (first | assumption | trivial | omega)) only [v_f6 h, Nat.one_mul, lit, neg1, oI_s, addN, mulN, subN, clN, gdN, ltN, leN, eqN, nIo, oIn, oI_eq, divN, remN, giT, giF, lzE, prE, bdE, smL, smR, shlN, shrN, hasE, andN, orN, bit1, bit0, max7, min7, giTr, giFa, gdp, litL, i2l, addL, mulL, divL, remL, cmLe, cmGt, cmGe, cmEq, eqL]
          · rw [sX7_room_14, fX7_room_14b]
            unfold andn at c' q3
            simp (disch := (first | assumption | trivial | omega)) only [fn7 h, Nat.one_mul, notN', lit, neg1, oI_s, addN, mulN, subN, clN, gdN, ltN, leN, eqN, nIo, oIn, oI_eq, divN, remN, giT, giF, lzE, prE, bdE, smL, smR, shlN, shrN, hasE, andN, orN, bit1, bit0, max7, min7, giTr, giFa, gdp, litL, i2l, addL, mulL, divL, remL, cmLe, cmGt, cmGe, cmEq, eqL]
        · right
          have c' : ¬ andn ((2 ^ n - 1) * 2 ^ k) (S 10 5) = 0 := fun x => c ((andn_z q1 hw.2.2.2.2.2).mp x)
          refine ⟨(), ?_, ?_, trivial⟩
          · rw [sX6_room_14, fX6_room_14b]
            simp (disch := (first | assumption | trivial | omega)) only [v_f6 h, Nat.one_mul, lit, neg1, oI_s, addN, mulN, subN, clN, gdN, ltN, leN, eqN, nIo, oIn, oI_eq, divN, remN, giT, giF, lzE, prE, bdE, smL, smR, shlN, shrN, hasE, andN, orN, bit1, bit0, max7, min7, giTr, giFa, gdp, litL, i2l, addL, mulL, divL, remL, cmLe, cmGt, cmGe, cmEq, eqL]
          · rw [sX7_room_14, fX7_room_14b]
            unfold andn at c' q3
            simp (disch := (first | assumption | trivial | omega)) only [fn7 h, Nat.one_mul, notN', lit, neg1, oI_s, addN, mulN, subN, clN, gdN, ltN, leN, eqN, nIo, oIn, oI_eq, divN, remN, giT, giF, lzE, prE, bdE, smL, smR, shlN, shrN, hasE, andN, orN, bit1, bit0, max7, min7, giTr, giFa, gdp, litL, i2l, addL, mulL, divL, remL, cmLe, cmGt, cmGe, cmEq, eqL]) (13 - n) 0 () FU (by omega) trivial (by show _ < 5000; omega)
    subst hq
    try dsimp only at e6 e7
    refine ⟨r6.elim id (fun _ => oI 0), ?_, ?_, hV⟩
    · unfold fX6_room
      rw [show fX6_within (nI n) 1 12 = nI 1 from hi]
      simp (disch := (first | assumption | trivial | omega)) only [e6, lit, neg1, oI_s, addN, mulN, subN, clN, gdN, ltN, leN, eqN, nIo, oIn, oI_eq, divN, remN, giT, giF, lzE, prE, bdE, smL, smR, shlN, shrN, hasE, andN, orN, bit1, bit0, max7, min7, giTr, giFa, gdp, litL, i2l, addL, mulL, divL, remL, cmLe, cmGt, cmGe, cmEq, eqL]
      cases r6 <;> rfl
    · unfold fX7_room
      rw [show fX7_isIn (nI n) 1 12 = nI 1 from hi]
      simp (disch := (first | assumption | trivial | omega)) only [e7, lit, neg1, oI_s, addN, mulN, subN, clN, gdN, ltN, leN, eqN, nIo, oIn, oI_eq, divN, remN, giT, giF, lzE, prE, bdE, smL, smR, shlN, shrN, hasE, andN, orN, bit1, bit0, max7, min7, giTr, giFa, gdp, litL, i2l, addL, mulL, divL, remL, cmLe, cmGt, cmGe, cmEq, eqL]
      cases r6 <;> rfl
  · refine ⟨-1, ?_, ?_, hV⟩
    · unfold fX6_room
      rw [show fX6_within a1 1 12 = nI 0 from hi]
      simp (disch := (first | assumption | trivial | omega)) only [lit, neg1, oI_s, addN, mulN, subN, clN, gdN, ltN, leN, eqN, nIo, oIn, oI_eq, divN, remN, giT, giF, lzE, prE, bdE, smL, smR, shlN, shrN, hasE, andN, orN, bit1, bit0, max7, min7, giTr, giFa, gdp, litL, i2l, addL, mulL, divL, remL, cmLe, cmGt, cmGe, cmEq, eqL]
    · unfold fX7_room
      rw [show fX7_isIn a1 1 12 = nI 0 from hi]
      simp (disch := (first | assumption | trivial | omega)) only [lit, neg1, oI_s, addN, mulN, subN, clN, gdN, ltN, leN, eqN, nIo, oIn, oI_eq, divN, remN, giT, giF, lzE, prE, bdE, smL, smR, shlN, shrN, hasE, andN, orN, bit1, bit0, max7, min7, giTr, giFa, gdp, litL, i2l, addL, mulL, divL, remL, cmLe, cmGt, cmGe, cmEq, eqL]
theorem case_17 : st_17 V0 := by
  intro a1 IC IM JM hV
  obtain ⟨S, h⟩ := view hV
  have hw := b_w h
  have hn := b_nb h
  by_cases c : inR a1 12
  · obtain ⟨s, hs, rfl⟩ := id c
    have hb := b_sl h hs
    refine ⟨oI (S 11 s), ?_, ?_, hV⟩
    · unfold fX6_at fX6_isFree
      by_cases c0 : S 11 s = 0
      · have c1 := hb.2.mpr c0
        rw [c0]
        simp (disch := (first | assumption | trivial | omega)) only [isSlice6_pos c, v_f6 h, lit, neg1, oI_s, addN, mulN, subN, clN, gdN, ltN, leN, eqN, nIo, oIn, oI_eq, divN, remN, giT, giF, lzE, prE, bdE, smL, smR, shlN, shrN, hasE, andN, orN, bit1, bit0, max7, min7, giTr, giFa, gdp, litL, i2l, addL, mulL, divL, remL, cmLe, cmGt, cmGe, cmEq, eqL]
      · have c1 : ¬ (S 10 5).testBit s = true := fun x => c0 (hb.2.mp x)
        obtain ⟨r, e, hr⟩ := lp_ex (fun n k (a : Unit) => fX6_at_22 n (nI s) (nI k) IC) (S 0 0) (fun k _ => ∀ j, j < k → ¬ S 11 s = j + 1) (fun r => r.elim id (fun _ => nI 6) = oI (S 11 s))
          (fun n a hP => by
            refine ⟨.inr (), ?_, ?_⟩
            · rw [sX6_at_22, fX6_at_22b]
              simp (disch := (first | assumption | trivial | omega)) only [v_nb6 h, lit, neg1, oI_s, addN, mulN, subN, clN, gdN, ltN, leN, eqN, nIo, oIn, oI_eq, divN, remN, giT, giF, lzE, prE, bdE, smL, smR, shlN, shrN, hasE, andN, orN, bit1, bit0, max7, min7, giTr, giFa, gdp, litL, i2l, addL, mulL, divL, remL, cmLe, cmGt, cmGe, cmEq, eqL]
            · have : S 11 s = 6 + 1 := by
                rcases hb.1 with x | x
                · exact absurd (by omega) (hP (S 11 s - 1) (by omega))
                · exact x
              rw [this]; rfl)
          (fun n k a hk hP => by
            have how := b_ow h (b := k) (by omega)
            by_cases ck : S 11 s = k + 1
            · left
              have cb := (how.2 s hs).mpr ck
              refine ⟨.inl (nI k), ?_, by rw [ck]; rfl⟩
              rw [sX6_at_22, fX6_at_22b]
              simp (disch := (first | assumption | trivial | omega)) only [v_nb6 h, v_ow6 h, lit, neg1, oI_s, addN, mulN, subN, clN, gdN, ltN, leN, eqN, nIo, oIn, oI_eq, divN, remN, giT, giF, lzE, prE, bdE, smL, smR, shlN, shrN, hasE, andN, orN, bit1, bit0, max7, min7, giTr, giFa, gdp, litL, i2l, addL, mulL, divL, remL, cmLe, cmGt, cmGe, cmEq, eqL]
            · right
              have cb : ¬ (S 12 k).testBit s = true := fun x => ck ((how.2 s hs).mp x)
              refine ⟨(), ?_, ?_⟩
              · rw [sX6_at_22, fX6_at_22b]
                simp (disch := (first | assumption | trivial | omega)) only [v_nb6 h, v_ow6 h, lit, neg1, oI_s, addN, mulN, subN, clN, gdN, ltN, leN, eqN, nIo, oIn, oI_eq, divN, remN, giT, giF, lzE, prE, bdE, smL, smR, shlN, shrN, hasE, andN, orN, bit1, bit0, max7, min7, giTr, giFa, gdp, litL, i2l, addL, mulL, divL, remL, cmLe, cmGt, cmGe, cmEq, eqL]
              · intro j hj
                by_cases e : j = k
                · subst e; exact ck
                · exact hP j (by omega)) (S 0 0) 0 () FU (by omega) (fun j hj => absurd hj (by omega)) (by show _ < 5000; omega)
        try dsimp only at e
        simp (disch := (first | assumption | trivial | omega)) only [isSlice6_pos c, v_f6 h, e, lit, neg1, oI_s, addN, mulN, subN, clN, gdN, ltN, leN, eqN, nIo, oIn, oI_eq, divN, remN, giT, giF, lzE, prE, bdE, smL, smR, shlN, shrN, hasE, andN, orN, bit1, bit0, max7, min7, giTr, giFa, gdp, litL, i2l, addL, mulL, divL, remL, cmLe, cmGt, cmGe, cmEq, eqL]
        rw [← hr]
        cases r <;> rfl
    · unfold fX7_at
      simp (disch := (first | assumption | trivial | omega)) only [isSlice7_pos c, v_sl7 h, lit, neg1, oI_s, addN, mulN, subN, clN, gdN, ltN, leN, eqN, nIo, oIn, oI_eq, divN, remN, giT, giF, lzE, prE, bdE, smL, smR, shlN, shrN, hasE, andN, orN, bit1, bit0, max7, min7, giTr, giFa, gdp, litL, i2l, addL, mulL, divL, remL, cmLe, cmGt, cmGe, cmEq, eqL]
  · refine ⟨-2, ?_, ?_, hV⟩
    · unfold fX6_at
      simp (disch := (first | assumption | trivial | omega)) only [isSlice6_neg c, lit, neg1, oI_s, addN, mulN, subN, clN, gdN, ltN, leN, eqN, nIo, oIn, oI_eq, divN, remN, giT, giF, lzE, prE, bdE, smL, smR, shlN, shrN, hasE, andN, orN, bit1, bit0, max7, min7, giTr, giFa, gdp, litL, i2l, addL, mulL, divL, remL, cmLe, cmGt, cmGe, cmEq, eqL]
    · unfold fX7_at
      simp (disch := (first | assumption | trivial | omega)) only [isSlice7_neg c, lit, neg1, oI_s, addN, mulN, subN, clN, gdN, ltN, leN, eqN, nIo, oIn, oI_eq, divN, remN, giT, giF, lzE, prE, bdE, smL, smR, shlN, shrN, hasE, andN, orN, bit1, bit0, max7, min7, giTr, giFa, gdp, litL, i2l, addL, mulL, divL, remL, cmLe, cmGt, cmGe, cmEq, eqL]
theorem and7 (x : Nat) : x &&& 7 = x % 8 := Nat.and_two_pow_sub_one_eq_mod x 3
theorem and15 (x : Nat) : x &&& 15 = x % 16 := Nat.and_two_pow_sub_one_eq_mod x 4
theorem and127 (x : Nat) : x &&& 127 = x % 128 := Nat.and_two_pow_sub_one_eq_mod x 7
/-- a line of both books, in numbers: day, kind, whom, price -/
def lnF (c m : Int32) (x : Nat × Nat × Nat × Nat) : Prop := (x.1 < 10000 ∧ x.2.1 < 5 ∧ x.2.2.1 < 12 ∧ x.2.2.2 < 100) ∧ (fX5_dayOf c = nI x.1 ∧ fX5_kindOf c = nI x.2.1 ∧ fX5_whomOf c = nI x.2.2.1 ∧ fX5_priceOf c = nI x.2.2.2) ∧ (m / nI 6000 = nI x.1 ∧ jrem (m / nI 1200) (nI 5) = nI x.2.1 ∧ jrem (m / nI 100) (nI 12) = nI x.2.2.1 ∧ jrem m (nI 100) = nI x.2.2.2)
theorem lnF_of {c m : Int32} (h : rLine c m) : ∃ x, lnF c m x := by
  obtain ⟨d, k, w, q, hd, hk, hw, hq, rfl, rfl⟩ := h
  refine ⟨(d, k, w, q), ⟨hd, hk, hw, hq⟩, ⟨?_, ?_, ?_, ?_⟩, ⟨?_, ?_, ?_, ?_⟩⟩
  · unfold fX5_dayOf
    simp (disch := (first | assumption | trivial | omega)) only [Nat.reducePow, lit, neg1, oI_s, addN, mulN, subN, clN, gdN, ltN, leN, eqN, nIo, oIn, oI_eq, divN, remN, giT, giF, lzE, prE, bdE, smL, smR, shlN, shrN, hasE, andN, orN, bit1, bit0, max7, min7, giTr, giFa, gdp, litL, i2l, addL, mulL, divL, remL, cmLe, cmGt, cmGe, cmEq, eqL]
    omega
  · unfold fX5_kindOf
    simp (disch := (first | assumption | trivial | omega)) only [Nat.reducePow, and7, lit, neg1, oI_s, addN, mulN, subN, clN, gdN, ltN, leN, eqN, nIo, oIn, oI_eq, divN, remN, giT, giF, lzE, prE, bdE, smL, smR, shlN, shrN, hasE, andN, orN, bit1, bit0, max7, min7, giTr, giFa, gdp, litL, i2l, addL, mulL, divL, remL, cmLe, cmGt, cmGe, cmEq, eqL]
    omega
  · unfold fX5_whomOf
    simp (disch := (first | assumption | trivial | omega)) only [Nat.reducePow, and15, lit, neg1, oI_s, addN, mulN, subN, clN, gdN, ltN, leN, eqN, nIo, oIn, oI_eq, divN, remN, giT, giF, lzE, prE, bdE, smL, smR, shlN, shrN, hasE, andN, orN, bit1, bit0, max7, min7, giTr, giFa, gdp, litL, i2l, addL, mulL, divL, remL, cmLe, cmGt, cmGe, cmEq, eqL]
    omega
  · unfold fX5_priceOf
    simp (disch := (first | assumption | trivial | omega)) only [Nat.reducePow, and127, lit, neg1, oI_s, addN, mulN, subN, clN, gdN, ltN, leN, eqN, nIo, oIn, oI_eq, divN, remN, giT, giF, lzE, prE, bdE, smL, smR, shlN, shrN, hasE, andN, orN, bit1, bit0, max7, min7, giTr, giFa, gdp, litL, i2l, addL, mulL, divL, remL, cmLe, cmGt, cmGe, cmEq, eqL]
    omega
  · simp (disch := (first | assumption | trivial | omega)) only [lit, neg1, oI_s, addN, mulN, subN, clN, gdN, ltN, leN, eqN, nIo, oIn, oI_eq, divN, remN, giT, giF, lzE, prE, bdE, smL, smR, shlN, shrN, hasE, andN, orN, bit1, bit0, max7, min7, giTr, giFa, gdp, litL, i2l, addL, mulL, divL, remL, cmLe, cmGt, cmGe, cmEq, eqL]
    omega
  · simp (disch := (first | assumption | trivial | omega)) only [lit, neg1, oI_s, addN, mulN, subN, clN, gdN, ltN, leN, eqN, nIo, oIn, oI_eq, divN, remN, giT, giF, lzE, prE, bdE, smL, smR, shlN, shrN, hasE, andN, orN, bit1, bit0, max7, min7, giTr, giFa, gdp, litL, i2l, addL, mulL, divL, remL, cmLe, cmGt, cmGe, cmEq, eqL]
    omega
  · simp (disch := (first | assumption | trivial | omega)) only [lit, neg1, oI_s, addN, mulN, subN, clN, gdN, ltN, leN, eqN, nIo, oIn, oI_eq, divN, remN, giT, giF, lzE, prE, bdE, smL, smR, shlN, shrN, hasE, andN, orN, bit1, bit0, max7, min7, giTr, giFa, gdp, litL, i2l, addL, mulL, divL, remL, cmLe, cmGt, cmGe, cmEq, eqL]
    omega
  · simp (disch := (first | assumption | trivial | omega)) only [lit, neg1, oI_s, addN, mulN, subN, clN, gdN, ltN, leN, eqN, nIo, oIn, oI_eq, divN, remN, giT, giF, lzE, prE, bdE, smL, smR, shlN, shrN, hasE, andN, orN, bit1, bit0, max7, min7, giTr, giFa, gdp, litL, i2l, addL, mulL, divL, remL, cmLe, cmGt, cmGe, cmEq, eqL]
    omega
theorem lines {S : Nat → Nat → Nat} {IC IM : gI} (h : sv S IC IM) : ∃ x : Nat → Nat × Nat × Nat × Nat, ∀ i, i < S 10 4 → lnF (IC 14 i) (IM 1 (1567 + i)) (x i) := by
  have : ∀ i, ∃ x, i < S 10 4 → lnF (IC 14 i) (IM 1 (1567 + i)) x := by
    intro i
    by_cases hi : i < S 10 4
    · obtain ⟨x, hx⟩ := lnF_of (b_bk h hi)
      exact ⟨x, fun _ => hx⟩
    · exact ⟨(0, 0, 0, 0), fun x => absurd x hi⟩
  obtain ⟨f, hf⟩ := Classical.axiomOfChoice this
  exact ⟨f, hf⟩
section LN
variable {S : Nat → Nat → Nat} {IC IM : gI} {JM : gJ} {i : Nat} {x : Nat → Nat × Nat × Nat × Nat}
theorem lo70 (h : sv S IC IM) (hx : ∀ i, i < S 10 4 → lnF (IC 14 i) (IM 1 (1567 + i)) (x i)) (hi : i < S 10 4) : fX7_lineOf (nI i) (nI 0) IM = some (nI (x i).1) := by
  have := b_w h
  obtain ⟨_, _, e0, e1, e2, e3⟩ := hx i hi
  unfold fX7_lineOf
  simp (disch := (first | assumption | trivial | omega)) only [e0, lit, neg1, oI_s, addN, mulN, subN, clN, gdN, ltN, leN, eqN, nIo, oIn, oI_eq, divN, remN, giT, giF, lzE, prE, bdE, smL, smR, shlN, shrN, hasE, andN, orN, bit1, bit0, max7, min7, giTr, giFa, gdp, litL, i2l, addL, mulL, divL, remL, cmLe, cmGt, cmGe, cmEq, eqL]
theorem lo71 (h : sv S IC IM) (hx : ∀ i, i < S 10 4 → lnF (IC 14 i) (IM 1 (1567 + i)) (x i)) (hi : i < S 10 4) : fX7_lineOf (nI i) (nI 1) IM = some (nI (x i).2.1) := by
  have := b_w h
  obtain ⟨_, _, e0, e1, e2, e3⟩ := hx i hi
  unfold fX7_lineOf
  simp (disch := (first | assumption | trivial | omega)) only [e1, lit, neg1, oI_s, addN, mulN, subN, clN, gdN, ltN, leN, eqN, nIo, oIn, oI_eq, divN, remN, giT, giF, lzE, prE, bdE, smL, smR, shlN, shrN, hasE, andN, orN, bit1, bit0, max7, min7, giTr, giFa, gdp, litL, i2l, addL, mulL, divL, remL, cmLe, cmGt, cmGe, cmEq, eqL]
theorem lo72 (h : sv S IC IM) (hx : ∀ i, i < S 10 4 → lnF (IC 14 i) (IM 1 (1567 + i)) (x i)) (hi : i < S 10 4) : fX7_lineOf (nI i) (nI 2) IM = some (nI (x i).2.2.1) := by
  have := b_w h
  obtain ⟨_, _, e0, e1, e2, e3⟩ := hx i hi
  unfold fX7_lineOf
  simp (disch := (first | assumption | trivial | omega)) only [e2, lit, neg1, oI_s, addN, mulN, subN, clN, gdN, ltN, leN, eqN, nIo, oIn, oI_eq, divN, remN, giT, giF, lzE, prE, bdE, smL, smR, shlN, shrN, hasE, andN, orN, bit1, bit0, max7, min7, giTr, giFa, gdp, litL, i2l, addL, mulL, divL, remL, cmLe, cmGt, cmGe, cmEq, eqL]
theorem lo73 (h : sv S IC IM) (hx : ∀ i, i < S 10 4 → lnF (IC 14 i) (IM 1 (1567 + i)) (x i)) (hi : i < S 10 4) : fX7_lineOf (nI i) (nI 3) IM = some (nI (x i).2.2.2) := by
  have := b_w h
  obtain ⟨_, _, e0, e1, e2, e3⟩ := hx i hi
  unfold fX7_lineOf
  simp (disch := (first | assumption | trivial | omega)) only [e3, lit, neg1, oI_s, addN, mulN, subN, clN, gdN, ltN, leN, eqN, nIo, oIn, oI_eq, divN, remN, giT, giF, lzE, prE, bdE, smL, smR, shlN, shrN, hasE, andN, orN, bit1, bit0, max7, min7, giTr, giFa, gdp, litL, i2l, addL, mulL, divL, remL, cmLe, cmGt, cmGe, cmEq, eqL]
end LN
theorem case_19 : st_19 V0 := by
  intro a1 a2 IC IM JM hV
  obtain ⟨S, h⟩ := view hV
  have hw := b_w h
  obtain ⟨x, hx⟩ := lines h
  by_cases c0 : a1 = -1
  · refine ⟨nI (S 10 4), ?_, ?_, hV⟩
    · unfold fX6_book
      rw [gi_pos c0, v_ln6 h]
    · unfold fX7_book
      rw [gi_pos c0, v_ln7 h]
  · rcases rng7 (x := a1) (n := S 10 4) (by omega) with ⟨c, e⟩ | ⟨c, e⟩
    · obtain ⟨i, hi, rfl⟩ := c
      have e' : fX6_within (nI i) 0 (nI (S 10 4) - 1) = nI 1 := e
      obtain ⟨_, ⟨d0, d1, d2, d3⟩, _⟩ := hx i hi
      by_cases c2 : inR a2 4
      · have i2 : fX7_isIn a2 0 3 = 1 := isIn_pos (lo := 0) (hi := 3) (n := 3) (by decide) rfl rfl c2
        obtain ⟨k, hk, rfl⟩ := c2
        have hk2 : k = 0 ∨ k = 1 ∨ k = 2 ∨ k = 3 := by omega
        rcases hk2 with rfl | rfl | rfl | rfl
        · refine ⟨nI (x i).1, ?_, ?_, hV⟩
          · unfold fX6_book
            rw [gi_neg c0, v_ln6 h, e', gi_neg (show ¬ nI 1 = (0 : Int32) from one_ne)]
            simp (disch := (first | assumption | trivial | omega)) only [d0, lit, neg1, oI_s, addN, mulN, subN, clN, gdN, ltN, leN, eqN, nIo, oIn, oI_eq, divN, remN, giT, giF, lzE, prE, bdE, smL, smR, shlN, shrN, hasE, andN, orN, bit1, bit0, max7, min7, giTr, giFa, gdp, litL, i2l, addL, mulL, divL, remL, cmLe, cmGt, cmGe, cmEq, eqL]
          · unfold fX7_book
            rw [gi_neg c0, v_ln7 h, e, gi_neg (show ¬ nI 1 = (0 : Int32) from one_ne), i2]
            simp (disch := (first | assumption | trivial | omega)) only [lo70 h hx, lit, neg1, oI_s, addN, mulN, subN, clN, gdN, ltN, leN, eqN, nIo, oIn, oI_eq, divN, remN, giT, giF, lzE, prE, bdE, smL, smR, shlN, shrN, hasE, andN, orN, bit1, bit0, max7, min7, giTr, giFa, gdp, litL, i2l, addL, mulL, divL, remL, cmLe, cmGt, cmGe, cmEq, eqL]
        · refine ⟨nI (x i).2.1, ?_, ?_, hV⟩
          · unfold fX6_book
            rw [gi_neg c0, v_ln6 h, e', gi_neg (show ¬ nI 1 = (0 : Int32) from one_ne)]
            simp (disch := (first | assumption | trivial | omega)) only [d1, lit, neg1, oI_s, addN, mulN, subN, clN, gdN, ltN, leN, eqN, nIo, oIn, oI_eq, divN, remN, giT, giF, lzE, prE, bdE, smL, smR, shlN, shrN, hasE, andN, orN, bit1, bit0, max7, min7, giTr, giFa, gdp, litL, i2l, addL, mulL, divL, remL, cmLe, cmGt, cmGe, cmEq, eqL]
          · unfold fX7_book
            rw [gi_neg c0, v_ln7 h, e, gi_neg (show ¬ nI 1 = (0 : Int32) from one_ne), i2]
            simp (disch := (first | assumption | trivial | omega)) only [lo71 h hx, lit, neg1, oI_s, addN, mulN, subN, clN, gdN, ltN, leN, eqN, nIo, oIn, oI_eq, divN, remN, giT, giF, lzE, prE, bdE, smL, smR, shlN, shrN, hasE, andN, orN, bit1, bit0, max7, min7, giTr, giFa, gdp, litL, i2l, addL, mulL, divL, remL, cmLe, cmGt, cmGe, cmEq, eqL]
        · refine ⟨nI (x i).2.2.1, ?_, ?_, hV⟩
          · unfold fX6_book
            rw [gi_neg c0, v_ln6 h, e', gi_neg (show ¬ nI 1 = (0 : Int32) from one_ne)]
            simp (disch := (first | assumption | trivial | omega)) only [d2, lit, neg1, oI_s, addN, mulN, subN, clN, gdN, ltN, leN, eqN, nIo, oIn, oI_eq, divN, remN, giT, giF, lzE, prE, bdE, smL, smR, shlN, shrN, hasE, andN, orN, bit1, bit0, max7, min7, giTr, giFa, gdp, litL, i2l, addL, mulL, divL, remL, cmLe, cmGt, cmGe, cmEq, eqL]
          · unfold fX7_book
            rw [gi_neg c0, v_ln7 h, e, gi_neg (show ¬ nI 1 = (0 : Int32) from one_ne), i2]
            simp (disch := (first | assumption | trivial | omega)) only [lo72 h hx, lit, neg1, oI_s, addN, mulN, subN, clN, gdN, ltN, leN, eqN, nIo, oIn, oI_eq, divN, remN, giT, giF, lzE, prE, bdE, smL, smR, shlN, shrN, hasE, andN, orN, bit1, bit0, max7, min7, giTr, giFa, gdp, litL, i2l, addL, mulL, divL, remL, cmLe, cmGt, cmGe, cmEq, eqL]
        · refine ⟨nI (x i).2.2.2, ?_, ?_, hV⟩
          · unfold fX6_book
            rw [gi_neg c0, v_ln6 h, e', gi_neg (show ¬ nI 1 = (0 : Int32) from one_ne)]
            simp (disch := (first | assumption | trivial | omega)) only [d3, lit, neg1, oI_s, addN, mulN, subN, clN, gdN, ltN, leN, eqN, nIo, oIn, oI_eq, divN, remN, giT, giF, lzE, prE, bdE, smL, smR, shlN, shrN, hasE, andN, orN, bit1, bit0, max7, min7, giTr, giFa, gdp, litL, i2l, addL, mulL, divL, remL, cmLe, cmGt, cmGe, cmEq, eqL]
          · unfold fX7_book
            rw [gi_neg c0, v_ln7 h, e, gi_neg (show ¬ nI 1 = (0 : Int32) from one_ne), i2]
            simp (disch := (first | assumption | trivial | omega)) only [lo73 h hx, lit, neg1, oI_s, addN, mulN, subN, clN, gdN, ltN, leN, eqN, nIo, oIn, oI_eq, divN, remN, giT, giF, lzE, prE, bdE, smL, smR, shlN, shrN, hasE, andN, orN, bit1, bit0, max7, min7, giTr, giFa, gdp, litL, i2l, addL, mulL, divL, remL, cmLe, cmGt, cmGe, cmEq, eqL]
      · have i2 : fX7_isIn a2 0 3 = 0 := isIn_neg (lo := 0) (hi := 3) (n := 3) (by decide) rfl rfl c2
        refine ⟨-2, ?_, ?_, hV⟩
        · unfold fX6_book
          rw [gi_neg c0, v_ln6 h, e', gi_neg (show ¬ nI 1 = (0 : Int32) from one_ne), gdN (by omega) (by decide), lzE]
          rw [gi_neg (c := a2 = 0) (fun e => c2 ⟨0, by decide, e⟩), gi_neg (c := a2 = 1) (fun e => c2 ⟨1, by decide, e⟩), gi_neg (c := a2 = 2) (fun e => c2 ⟨2, by decide, e⟩), gi_neg (c := a2 = 3) (fun e => c2 ⟨3, by decide, e⟩)]
        · unfold fX7_book
          rw [gi_neg c0, v_ln7 h, e, gi_neg (show ¬ nI 1 = (0 : Int32) from one_ne), i2, gi_pos rfl]
    · have e' : fX6_within a1 0 (nI (S 10 4) - 1) = nI 0 := e
      refine ⟨-2, ?_, ?_, hV⟩
      · unfold fX6_book
        rw [gi_neg c0, v_ln6 h, e', gi_pos (show nI 0 = (0 : Int32) from rfl)]
      · unfold fX7_book
        rw [gi_neg c0, v_ln7 h, e, gi_pos (show nI 0 = (0 : Int32) from rfl)]
/-- how many lines of a kind, in the class -/
theorem lno6 {S : Nat → Nat → Nat} {IC IM : gI} (h : sv S IC IM) {x : Nat → Nat × Nat × Nat × Nat} (hx : ∀ i, i < S 10 4 → lnF (IC 14 i) (IM 1 (1567 + i)) (x i)) {q : Nat} (hq : q < 5) : fX6_linesOf (nI q) IC = some (nI (itr (fun k a => if (x k).2.1 = q then a + 1 else a) 0 (S 10 4) 0)) := by
  have hw := b_w h
  have R6 := lp_run (fun n k (a : Nat) => fX6_linesOf_4 n (nI q) (nI a) (nI k) IC) (S 10 4) (fun k a => if (x k).2.1 = q then a + 1 else a) (nI) (fun k a => a ≤ k) 0 (by first | decide | omega) (by omega)
      (fun n a hP => by
        try dsimp only
        rw [sX6_linesOf_4, fX6_linesOf_4b]
        simp (disch := (first | assumption | trivial | omega)) only [v_ln6 h, lit, neg1, oI_s, addN, mulN, subN, clN, gdN, ltN, leN, eqN, nIo, oIn, oI_eq, divN, remN, giT, giF, lzE, prE, bdE, smL, smR, shlN, shrN, hasE, andN, orN, bit1, bit0, max7, min7, giTr, giFa, gdp, litL, i2l, addL, mulL, divL, remL, cmLe, cmGt, cmGe, cmEq, eqL])
      (fun n k a hk hP => by
        try dsimp only at hP ⊢
        have d1 := (hx k hk).2.1.2.1
        have d0 := (hx k hk).1
        rw [sX6_linesOf_4, fX6_linesOf_4b]
        by_cases c : (x k).2.1 = q
        · refine ⟨?_, ?_⟩
          · simp (disch := (first | assumption | trivial | omega)) only [if_pos c, v_ln6 h, d1, lit, neg1, oI_s, addN, mulN, subN, clN, gdN, ltN, leN, eqN, nIo, oIn, oI_eq, divN, remN, giT, giF, lzE, prE, bdE, smL, smR, shlN, shrN, hasE, andN, orN, bit1, bit0, max7, min7, giTr, giFa, gdp, litL, i2l, addL, mulL, divL, remL, cmLe, cmGt, cmGe, cmEq, eqL]
          · first | trivial | omega | (simp only [if_pos c]; first | trivial | omega)
        · refine ⟨?_, ?_⟩
          · simp (disch := (first | assumption | trivial | omega)) only [if_neg c, v_ln6 h, d1, lit, neg1, oI_s, addN, mulN, subN, clN, gdN, ltN, leN, eqN, nIo, oIn, oI_eq, divN, remN, giT, giF, lzE, prE, bdE, smL, smR, shlN, shrN, hasE, andN, orN, bit1, bit0, max7, min7, giTr, giFa, gdp, litL, i2l, addL, mulL, divL, remL, cmLe, cmGt, cmGe, cmEq, eqL]
          · first | trivial | omega | (simp only [if_neg c]; first | trivial | omega))
  unfold fX6_linesOf
  simp (disch := (first | assumption | trivial | omega)) only [R6.1, lit, neg1, oI_s, addN, mulN, subN, clN, gdN, ltN, leN, eqN, nIo, oIn, oI_eq, divN, remN, giT, giF, lzE, prE, bdE, smL, smR, shlN, shrN, hasE, andN, orN, bit1, bit0, max7, min7, giTr, giFa, gdp, litL, i2l, addL, mulL, divL, remL, cmLe, cmGt, cmGe, cmEq, eqL]
theorem case_53 : st_53 V0 := by
  intro a1 IC IM JM hV
  obtain ⟨S, h⟩ := view hV
  have hw := b_w h
  obtain ⟨x, hx⟩ := lines h
  by_cases c : inR a1 5
  · have i2 : fX7_isIn a1 0 4 = 1 := isIn_pos (lo := 0) (hi := 4) (n := 4) (by decide) rfl rfl c
    have i3 : fX6_within a1 0 4 = 1 := i2
    obtain ⟨q, hq, rfl⟩ := c
    have R7 := lp_run (fun n k (a : Nat) => fX7_ledger_16 n (nI q) (nI a) (nI k) IM) (S 10 4) (fun k a => if (x k).2.1 = q then a + 1 else a) (nI) (fun k a => a ≤ k) 0 (by first | decide | omega) (by omega)
        (fun n a hP => by
          try dsimp only
          rw [sX7_ledger_16, fX7_ledger_16b]
          simp (disch := (first | assumption | trivial | omega)) only [v_ln7 h, lit, neg1, oI_s, addN, mulN, subN, clN, gdN, ltN, leN, eqN, nIo, oIn, oI_eq, divN, remN, giT, giF, lzE, prE, bdE, smL, smR, shlN, shrN, hasE, andN, orN, bit1, bit0, max7, min7, giTr, giFa, gdp, litL, i2l, addL, mulL, divL, remL, cmLe, cmGt, cmGe, cmEq, eqL])
        (fun n k a hk hP => by
          try dsimp only at hP ⊢
          have d0 := (hx k hk).1
          rw [sX7_ledger_16, fX7_ledger_16b]
          by_cases c : (x k).2.1 = q
          · refine ⟨?_, ?_⟩
            · simp (disch := (first | assumption | trivial | omega)) only [if_pos c, v_ln7 h, lo71 h hx, lit, neg1, oI_s, addN, mulN, subN, clN, gdN, ltN, leN, eqN, nIo, oIn, oI_eq, divN, remN, giT, giF, lzE, prE, bdE, smL, smR, shlN, shrN, hasE, andN, orN, bit1, bit0, max7, min7, giTr, giFa, gdp, litL, i2l, addL, mulL, divL, remL, cmLe, cmGt, cmGe, cmEq, eqL]
            · first | trivial | omega | (simp only [if_pos c]; first | trivial | omega)
          · refine ⟨?_, ?_⟩
            · simp (disch := (first | assumption | trivial | omega)) only [if_neg c, v_ln7 h, lo71 h hx, Nat.add_zero, lit, neg1, oI_s, addN, mulN, subN, clN, gdN, ltN, leN, eqN, nIo, oIn, oI_eq, divN, remN, giT, giF, lzE, prE, bdE, smL, smR, shlN, shrN, hasE, andN, orN, bit1, bit0, max7, min7, giTr, giFa, gdp, litL, i2l, addL, mulL, divL, remL, cmLe, cmGt, cmGe, cmEq, eqL]
            · first | trivial | omega | (simp only [if_neg c]; first | trivial | omega))
    refine ⟨(nI (itr (fun k a => if (x k).2.1 = q then a + 1 else a) 0 (S 10 4) 0)), ?_, ?_, hV⟩
    · unfold fX6_ledger
      rw [i3]
      simp (disch := (first | assumption | trivial | omega)) only [lno6 h hx hq, lit, neg1, oI_s, addN, mulN, subN, clN, gdN, ltN, leN, eqN, nIo, oIn, oI_eq, divN, remN, giT, giF, lzE, prE, bdE, smL, smR, shlN, shrN, hasE, andN, orN, bit1, bit0, max7, min7, giTr, giFa, gdp, litL, i2l, addL, mulL, divL, remL, cmLe, cmGt, cmGe, cmEq, eqL]
    · unfold fX7_ledger
      rw [i2]
      simp (disch := (first | assumption | trivial | omega)) only [R7.1, lit, neg1, oI_s, addN, mulN, subN, clN, gdN, ltN, leN, eqN, nIo, oIn, oI_eq, divN, remN, giT, giF, lzE, prE, bdE, smL, smR, shlN, shrN, hasE, andN, orN, bit1, bit0, max7, min7, giTr, giFa, gdp, litL, i2l, addL, mulL, divL, remL, cmLe, cmGt, cmGe, cmEq, eqL]
  · have i2 : fX7_isIn a1 0 4 = 0 := isIn_neg (lo := 0) (hi := 4) (n := 4) (by decide) rfl rfl c
    have i3 : fX6_within a1 0 4 = 0 := i2
    refine ⟨-2, ?_, ?_, hV⟩
    · unfold fX6_ledger
      rw [i3, gi_pos rfl]
    · unfold fX7_ledger
      rw [i2, gi_pos rfl]
theorem isD6p {c m : Int32} {y : Nat × Nat × Nat × Nat} {s : Nat} (hs : s < 5) (h : lnF c m y) (h1 : y.2.1 = 3 ∧ y.2.2.1 = s) : fX6_isDawnOf c (nI s) = nI 1 := by
  obtain ⟨h0, ⟨d0, d1, d2, d3⟩, _⟩ := h
  obtain ⟨e1, e2⟩ := h1
  unfold fX6_isDawnOf
  simp (disch := (first | assumption | trivial | omega)) only [d1, d2, lit, neg1, oI_s, addN, mulN, subN, clN, gdN, ltN, leN, eqN, nIo, oIn, oI_eq, divN, remN, giT, giF, lzE, prE, bdE, smL, smR, shlN, shrN, hasE, andN, orN, bit1, bit0, max7, min7, giTr, giFa, gdp, litL, i2l, addL, mulL, divL, remL, cmLe, cmGt, cmGe, cmEq, eqL]
theorem isD6n {c m : Int32} {y : Nat × Nat × Nat × Nat} {s : Nat} (hs : s < 5) (h : lnF c m y) (h1 : ¬ (y.2.1 = 3 ∧ y.2.2.1 = s)) : fX6_isDawnOf c (nI s) = nI 0 := by
  obtain ⟨h0, ⟨d0, d1, d2, d3⟩, _⟩ := h
  unfold fX6_isDawnOf
  by_cases e1 : y.2.1 = 3
  · have e2 : ¬ y.2.2.1 = s := fun x => h1 ⟨e1, x⟩
    simp (disch := (first | assumption | trivial | omega)) only [d1, d2, lit, neg1, oI_s, addN, mulN, subN, clN, gdN, ltN, leN, eqN, nIo, oIn, oI_eq, divN, remN, giT, giF, lzE, prE, bdE, smL, smR, shlN, shrN, hasE, andN, orN, bit1, bit0, max7, min7, giTr, giFa, gdp, litL, i2l, addL, mulL, divL, remL, cmLe, cmGt, cmGe, cmEq, eqL]
  · simp (disch := (first | assumption | trivial | omega)) only [d1, d2, lit, neg1, oI_s, addN, mulN, subN, clN, gdN, ltN, leN, eqN, nIo, oIn, oI_eq, divN, remN, giT, giF, lzE, prE, bdE, smL, smR, shlN, shrN, hasE, andN, orN, bit1, bit0, max7, min7, giTr, giFa, gdp, litL, i2l, addL, mulL, divL, remL, cmLe, cmGt, cmGe, cmEq, eqL]
theorem case_45 : st_45 V0 := by
  intro a1 a2 IC IM JM hV
  obtain ⟨S, h⟩ := view hV
  have hw := b_w h
  obtain ⟨x, hx⟩ := lines h
  by_cases c : inR a1 5
  · obtain ⟨s, hs, rfl⟩ := id c
    have R6 := lp_run (fun n k (a : Nat) => fX6_learnt_16 n (nI s) (bz a2) (nI a) (nI k) IC) (S 10 4) (fun k a => if (x k).2.1 = 3 ∧ (x k).2.2.1 = s then a + 1 else a) (nI) (fun k a => a ≤ k) 0 (by first | decide | omega) (by omega)
        (fun n a hP => by
          try dsimp only
          rw [sX6_learnt_16, fX6_learnt_16b]
          simp (disch := (first | assumption | trivial | omega)) only [v_ln6 h, lit, neg1, oI_s, addN, mulN, subN, clN, gdN, ltN, leN, eqN, nIo, oIn, oI_eq, divN, remN, giT, giF, lzE, prE, bdE, smL, smR, shlN, shrN, hasE, andN, orN, bit1, bit0, max7, min7, giTr, giFa, gdp, litL, i2l, addL, mulL, divL, remL, cmLe, cmGt, cmGe, cmEq, eqL])
        (fun n k a hk hP => by
          try dsimp only at hP ⊢
          have d1 := hx k hk
          rw [sX6_learnt_16, fX6_learnt_16b]
          by_cases c : (x k).2.1 = 3 ∧ (x k).2.2.1 = s
          · refine ⟨?_, ?_⟩
            · simp (disch := (first | assumption | trivial | omega)) only [if_pos c, v_ln6 h, isD6p hs d1, lit, neg1, oI_s, addN, mulN, subN, clN, gdN, ltN, leN, eqN, nIo, oIn, oI_eq, divN, remN, giT, giF, lzE, prE, bdE, smL, smR, shlN, shrN, hasE, andN, orN, bit1, bit0, max7, min7, giTr, giFa, gdp, litL, i2l, addL, mulL, divL, remL, cmLe, cmGt, cmGe, cmEq, eqL]
            · first | trivial | omega | (simp only [if_pos c]; first | trivial | omega)
          · refine ⟨?_, ?_⟩
            · simp (disch := (first | assumption | trivial | omega)) only [if_neg c, v_ln6 h, isD6n hs d1, lit, neg1, oI_s, addN, mulN, subN, clN, gdN, ltN, leN, eqN, nIo, oIn, oI_eq, divN, remN, giT, giF, lzE, prE, bdE, smL, smR, shlN, shrN, hasE, andN, orN, bit1, bit0, max7, min7, giTr, giFa, gdp, litL, i2l, addL, mulL, divL, remL, cmLe, cmGt, cmGe, cmEq, eqL]
            · first | trivial | omega | (simp only [if_neg c]; first | trivial | omega))
    have R7 := lp_run (fun n k (a : Nat × Nat) => fX7_learnt_19 n (nI s) (bz a2) (nI (a.1 + 1)) (nI (a.2 + 5)) (nI k) IM) (S 10 4) (fun k a => (if (x k).2.1 = 3 ∧ (x k).2.2.1 = s then a.1 + 1 else a.1, if (x k).2.1 = 3 then a.2 + 1 else a.2)) ((fun (a : Nat × Nat) => (nI (a.1 + 1), nI (a.2 + 5)))) (fun _ _ => True) (0, 0) (by first | decide | omega) (trivial)
        (fun n a hP => by
          try dsimp only
          rw [sX7_learnt_19, fX7_learnt_19b]
          simp (disch := (first | assumption | trivial | omega)) only [v_ln7 h, lit, neg1, oI_s, addN, mulN, subN, clN, gdN, ltN, leN, eqN, nIo, oIn, oI_eq, divN, remN, giT, giF, lzE, prE, bdE, smL, smR, shlN, shrN, hasE, andN, orN, bit1, bit0, max7, min7, giTr, giFa, gdp, litL, i2l, addL, mulL, divL, remL, cmLe, cmGt, cmGe, cmEq, eqL])
        (fun n k a hk hP => by
          try dsimp only at hP ⊢
          have d1 := (hx k hk).1
          refine ⟨?_, trivial⟩
          rw [sX7_learnt_19, fX7_learnt_19b]
          by_cases e1 : (x k).2.1 = 3
          · by_cases e2 : (x k).2.2.1 = s
            · rw [if_pos ⟨e1, e2⟩, if_pos e1]
              simp (disch := (first | assumption | trivial | omega)) only [v_ln7 h, lo71 h hx, lo72 h hx, lit, neg1, oI_s, addN, mulN, subN, clN, gdN, ltN, leN, eqN, nIo, oIn, oI_eq, divN, remN, giT, giF, lzE, prE, bdE, smL, smR, shlN, shrN, hasE, andN, orN, bit1, bit0, max7, min7, giTr, giFa, gdp, litL, i2l, addL, mulL, divL, remL, cmLe, cmGt, cmGe, cmEq, eqL]
            · rw [if_neg (fun z => e2 z.2), if_pos e1]
              simp (disch := (first | assumption | trivial | omega)) only [v_ln7 h, lo71 h hx, lo72 h hx, Nat.add_zero, lit, neg1, oI_s, addN, mulN, subN, clN, gdN, ltN, leN, eqN, nIo, oIn, oI_eq, divN, remN, giT, giF, lzE, prE, bdE, smL, smR, shlN, shrN, hasE, andN, orN, bit1, bit0, max7, min7, giTr, giFa, gdp, litL, i2l, addL, mulL, divL, remL, cmLe, cmGt, cmGe, cmEq, eqL]
          · rw [if_neg (fun z => e1 z.1), if_neg e1]
            simp (disch := (first | assumption | trivial | omega)) only [v_ln7 h, lo71 h hx, lo72 h hx, lit, neg1, oI_s, addN, mulN, subN, clN, gdN, ltN, leN, eqN, nIo, oIn, oI_eq, divN, remN, giT, giF, lzE, prE, bdE, smL, smR, shlN, shrN, hasE, andN, orN, bit1, bit0, max7, min7, giTr, giFa, gdp, litL, i2l, addL, mulL, divL, remL, cmLe, cmGt, cmGe, cmEq, eqL])
    have b6 := R6.2
    have b3 := itr_P (fun k a => if (x k).2.1 = 3 then a + 1 else a) (fun k a => a ≤ k) (S 10 4) (fun k a _ hP => by
      by_cases z : (x k).2.1 = 3
      · simp only [if_pos z]; omega
      · simp only [if_neg z]; omega) (S 10 4) 0 0 (by omega) (by omega)
    have e7 := R7.1
    rw [itr_pr (fun k (a : Nat) => if (x k).2.1 = 3 ∧ (x k).2.2.1 = s then a + 1 else a) (fun k (a : Nat) => if (x k).2.1 = 3 then a + 1 else a)] at e7
    try dsimp only at e7 b6 b3
    have e6 := R6.1
    have e63 := lno6 h hx (q := 3) (by decide)
    generalize itr (fun k (a : Nat) => if (x k).2.1 = 3 ∧ (x k).2.2.1 = s then a + 1 else a) 0 (S 10 4) 0 = u at e6 e7 b6
    generalize itr (fun k (a : Nat) => if (x k).2.1 = 3 then a + 1 else a) 0 (S 10 4) 0 = v at e63 e7 b3
    obtain ⟨r, r6, r7⟩ := low67 (up := u + 1) (down := v + 5) (bz a2) (by omega) (by omega) (by omega)
    refine ⟨r, ?_, ?_, hV⟩
    · unfold fX6_learnt
      simp (disch := (first | assumption | trivial | omega)) only [isSort6_pos c, e6, e63, r6, lit, neg1, oI_s, addN, mulN, subN, clN, gdN, ltN, leN, eqN, nIo, oIn, oI_eq, divN, remN, giT, giF, lzE, prE, bdE, smL, smR, shlN, shrN, hasE, andN, orN, bit1, bit0, max7, min7, giTr, giFa, gdp, litL, i2l, addL, mulL, divL, remL, cmLe, cmGt, cmGe, cmEq, eqL]
    · unfold fX7_learnt
      rw [isSort7_pos c, gi_neg one_ne, show fX7_learnt_19 FU (nI s) (bz a2) 1 5 0 IM = _ from e7]
      simp (disch := (first | assumption | trivial | omega)) only [r7, lit, neg1, oI_s, addN, mulN, subN, clN, gdN, ltN, leN, eqN, nIo, oIn, oI_eq, divN, remN, giT, giF, lzE, prE, bdE, smL, smR, shlN, shrN, hasE, andN, orN, bit1, bit0, max7, min7, giTr, giFa, gdp, litL, i2l, addL, mulL, divL, remL, cmLe, cmGt, cmGe, cmEq, eqL]
  · refine ⟨-1, ?_, ?_, hV⟩
    · unfold fX6_learnt
      simp (disch := (first | assumption | trivial | omega)) only [isSort6_neg c, lit, neg1, oI_s, addN, mulN, subN, clN, gdN, ltN, leN, eqN, nIo, oIn, oI_eq, divN, remN, giT, giF, lzE, prE, bdE, smL, smR, shlN, shrN, hasE, andN, orN, bit1, bit0, max7, min7, giTr, giFa, gdp, litL, i2l, addL, mulL, divL, remL, cmLe, cmGt, cmGe, cmEq, eqL]
    · unfold fX7_learnt
      simp (disch := (first | assumption | trivial | omega)) only [isSort7_neg c, lit, neg1, oI_s, addN, mulN, subN, clN, gdN, ltN, leN, eqN, nIo, oIn, oI_eq, divN, remN, giT, giF, lzE, prE, bdE, smL, smR, shlN, shrN, hasE, andN, orN, bit1, bit0, max7, min7, giTr, giFa, gdp, litL, i2l, addL, mulL, divL, remL, cmLe, cmGt, cmGe, cmEq, eqL]
theorem oIlt {a : Nat} (ha : a < 2147483648) : (oI a < nI 0) = (a = 0) := by
  cases a with
  | zero => exact propext ⟨fun _ => rfl, fun _ => by decide⟩
  | succ a => rw [oI_s, ltN (by omega) (by decide)]; exact propext ⟨fun x => absurd x (by omega), fun x => absurd x (by omega)⟩
theorem decO (m : Nat) : nI m + oI 0 = oI m := by
  cases m with
  | zero => rfl
  | succ m =>
    rw [oI_s]
    have : nI (m + 1) + oI 0 = nI (m + 1) - nI 1 := by rw [← neg1, Int32.sub_eq_add_neg]
    rw [this, subN (by omega)]
    rfl
theorem subO (m : Nat) : nI m - nI 1 = oI m := by
  rw [← decO, ← neg1, Int32.sub_eq_add_neg]
theorem oIp {a : Nat} (h : 0 < a) : nI (a - 1) = oI a := by
  obtain ⟨m, rfl⟩ : ∃ m, a = m + 1 := ⟨a - 1, by omega⟩
  rfl
theorem case_48 : st_48 V0 := by
  intro a1 IC IM JM hV
  obtain ⟨S, h⟩ := view hV
  have hw := b_w h
  obtain ⟨x, hx⟩ := lines h
  by_cases c : inR a1 5
  · obtain ⟨s, hs, rfl⟩ := id c
    obtain ⟨r6, r7, e6, e7, hq⟩ := lp_2 (fun m k (a : Unit) => fX6_since_22 m (nI s) (oI (S 10 4 - k)) IC) (fun m k (a : Unit) => fX7_since_19 m (nI s) (oI (S 10 4 - k)) IM) (S 10 4) (fun _ _ => True) (fun y z => (y = .inr () ∧ z = .inr ()) ∨ ∃ i, i < S 10 4 ∧ y = .inl (IC 14 i) ∧ z = .inl (nI i))
      (fun m a _ => by
        refine ⟨.inr (), .inr (), ?_, ?_, Or.inl ⟨rfl, rfl⟩⟩
        · rw [sX6_since_22, fX6_since_22b, Nat.sub_self]
          simp (disch := (first | assumption | trivial | omega)) only [oIlt, lit, neg1, oI_s, addN, mulN, subN, clN, gdN, ltN, leN, eqN, nIo, oIn, oI_eq, divN, remN, giT, giF, lzE, prE, bdE, smL, smR, shlN, shrN, hasE, andN, orN, bit1, bit0, max7, min7, giTr, giFa, gdp, litL, i2l, addL, mulL, divL, remL, cmLe, cmGt, cmGe, cmEq, eqL]
        · rw [sX7_since_19, fX7_since_19b, Nat.sub_self]
          simp (disch := (first | assumption | trivial | omega)) only [oIlt, lit, neg1, oI_s, addN, mulN, subN, clN, gdN, ltN, leN, eqN, nIo, oIn, oI_eq, divN, remN, giT, giF, lzE, prE, bdE, smL, smR, shlN, shrN, hasE, andN, orN, bit1, bit0, max7, min7, giTr, giFa, gdp, litL, i2l, addL, mulL, divL, remL, cmLe, cmGt, cmGe, cmEq, eqL])
      (fun m k a hk _ => by
        try dsimp only
        obtain ⟨i, hi⟩ : ∃ i, S 10 4 - k = i + 1 := ⟨S 10 4 - k - 1, by omega⟩
        have hil : i < S 10 4 := by omega
        have hi2 : S 10 4 - (k + 1) = i := by omega
        have d1 := hx i hil
        have d0 := d1.1
        rw [hi, hi2]
        by_cases cc : (x i).2.1 = 3 ∧ (x i).2.2.1 = s
        · left
          refine ⟨.inl (IC 14 i), .inl (nI i), ?_, ?_, Or.inr ⟨i, hil, rfl, rfl⟩⟩
          · rw [sX6_since_22, fX6_since_22b]
            simp (disch := (first | assumption | trivial | omega)) only [isD6p hs d1, lit, neg1, oI_s, addN, mulN, subN, clN, gdN, ltN, leN, eqN, nIo, oIn, oI_eq, divN, remN, giT, giF, lzE, prE, bdE, smL, smR, shlN, shrN, hasE, andN, orN, bit1, bit0, max7, min7, giTr, giFa, gdp, litL, i2l, addL, mulL, divL, remL, cmLe, cmGt, cmGe, cmEq, eqL]
          · rw [sX7_since_19, fX7_since_19b]
            obtain ⟨c1, c2⟩ := cc
            simp (disch := (first | assumption | trivial | omega)) only [lo71 h hx, lo72 h hx, lit, neg1, oI_s, addN, mulN, subN, clN, gdN, ltN, leN, eqN, nIo, oIn, oI_eq, divN, remN, giT, giF, lzE, prE, bdE, smL, smR, shlN, shrN, hasE, andN, orN, bit1, bit0, max7, min7, giTr, giFa, gdp, litL, i2l, addL, mulL, divL, remL, cmLe, cmGt, cmGe, cmEq, eqL]
        · right
          refine ⟨(), ?_, ?_, trivial⟩
          · rw [sX6_since_22, fX6_since_22b]
            simp (disch := (first | assumption | trivial | omega)) only [isD6n hs d1, decO, lit, neg1, oI_s, addN, mulN, subN, clN, gdN, ltN, leN, eqN, nIo, oIn, oI_eq, divN, remN, giT, giF, lzE, prE, bdE, smL, smR, shlN, shrN, hasE, andN, orN, bit1, bit0, max7, min7, giTr, giFa, gdp, litL, i2l, addL, mulL, divL, remL, cmLe, cmGt, cmGe, cmEq, eqL]
          · rw [sX7_since_19, fX7_since_19b]
            by_cases c1 : (x i).2.1 = 3
            · have c2 : ¬ (x i).2.2.1 = s := fun z => cc ⟨c1, z⟩
              simp (disch := (first | assumption | trivial | omega)) only [lo71 h hx, lo72 h hx, decO, lit, neg1, oI_s, addN, mulN, subN, clN, gdN, ltN, leN, eqN, nIo, oIn, oI_eq, divN, remN, giT, giF, lzE, prE, bdE, smL, smR, shlN, shrN, hasE, andN, orN, bit1, bit0, max7, min7, giTr, giFa, gdp, litL, i2l, addL, mulL, divL, remL, cmLe, cmGt, cmGe, cmEq, eqL]
            · simp (disch := (first | assumption | trivial | omega)) only [lo71 h hx, lo72 h hx, decO, lit, neg1, oI_s, addN, mulN, subN, clN, gdN, ltN, leN, eqN, nIo, oIn, oI_eq, divN, remN, giT, giF, lzE, prE, bdE, smL, smR, shlN, shrN, hasE, andN, orN, bit1, bit0, max7, min7, giTr, giFa, gdp, litL, i2l, addL, mulL, divL, remL, cmLe, cmGt, cmGe, cmEq, eqL]) (S 10 4) 0 () FU (by omega) trivial (by show _ < 5000; omega)
    try dsimp only at e6 e7
    rw [Nat.sub_zero] at e6 e7
    rcases hq with ⟨q6, q7⟩ | ⟨i, hi, q6, q7⟩
    · subst q6; subst q7
      refine ⟨-1, ?_, ?_, hV⟩
      · unfold fX6_since
        simp (disch := (first | assumption | trivial | omega)) only [isSort6_pos c, v_ln6 h, subO, e6, lit, neg1, oI_s, addN, mulN, subN, clN, gdN, ltN, leN, eqN, nIo, oIn, oI_eq, divN, remN, giT, giF, lzE, prE, bdE, smL, smR, shlN, shrN, hasE, andN, orN, bit1, bit0, max7, min7, giTr, giFa, gdp, litL, i2l, addL, mulL, divL, remL, cmLe, cmGt, cmGe, cmEq, eqL]
      · unfold fX7_since
        simp (disch := (first | assumption | trivial | omega)) only [isSort7_pos c, v_ln7 h, subO, e7, lit, neg1, oI_s, addN, mulN, subN, clN, gdN, ltN, leN, eqN, nIo, oIn, oI_eq, divN, remN, giT, giF, lzE, prE, bdE, smL, smR, shlN, shrN, hasE, andN, orN, bit1, bit0, max7, min7, giTr, giFa, gdp, litL, i2l, addL, mulL, divL, remL, cmLe, cmGt, cmGe, cmEq, eqL]
    · subst q6; subst q7
      have d1 := hx i hi
      refine ⟨nI (S 10 0) - nI (x i).1, ?_, ?_, hV⟩
      · unfold fX6_since
        simp (disch := (first | assumption | trivial | omega)) only [isSort6_pos c, v_ln6 h, v_da6 h, subO, oIp, e6, d1.2.1.1, lit, neg1, oI_s, addN, mulN, subN, clN, gdN, ltN, leN, eqN, nIo, oIn, oI_eq, divN, remN, giT, giF, lzE, prE, bdE, smL, smR, shlN, shrN, hasE, andN, orN, bit1, bit0, max7, min7, giTr, giFa, gdp, litL, i2l, addL, mulL, divL, remL, cmLe, cmGt, cmGe, cmEq, eqL]
      · unfold fX7_since
        simp (disch := (first | assumption | trivial | omega)) only [isSort7_pos c, v_ln7 h, v_da7 h, subO, oIp, e7, lo70 h hx, lit, neg1, oI_s, addN, mulN, subN, clN, gdN, ltN, leN, eqN, nIo, oIn, oI_eq, divN, remN, giT, giF, lzE, prE, bdE, smL, smR, shlN, shrN, hasE, andN, orN, bit1, bit0, max7, min7, giTr, giFa, gdp, litL, i2l, addL, mulL, divL, remL, cmLe, cmGt, cmGe, cmEq, eqL]
  · refine ⟨-1, ?_, ?_, hV⟩
    · unfold fX6_since
      simp (disch := (first | assumption | trivial | omega)) only [isSort6_neg c, lit, neg1, oI_s, addN, mulN, subN, clN, gdN, ltN, leN, eqN, nIo, oIn, oI_eq, divN, remN, giT, giF, lzE, prE, bdE, smL, smR, shlN, shrN, hasE, andN, orN, bit1, bit0, max7, min7, giTr, giFa, gdp, litL, i2l, addL, mulL, divL, remL, cmLe, cmGt, cmGe, cmEq, eqL]
    · unfold fX7_since
      simp (disch := (first | assumption | trivial | omega)) only [isSort7_neg c, lit, neg1, oI_s, addN, mulN, subN, clN, gdN, ltN, leN, eqN, nIo, oIn, oI_eq, divN, remN, giT, giF, lzE, prE, bdE, smL, smR, shlN, shrN, hasE, andN, orN, bit1, bit0, max7, min7, giTr, giFa, gdp, litL, i2l, addL, mulL, divL, remL, cmLe, cmGt, cmGe, cmEq, eqL]
