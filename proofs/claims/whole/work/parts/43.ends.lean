-- 43: PURE PART: the best run, the game by both ends (out of wip/whole/pure by pure.py)
theorem itr_s {σ : Type} (st : Nat → σ → σ) : ∀ j k a, itr st k (j + 1) a = st (k + j) (itr st k j a) := by
  intro j
  induction j with
  | zero => intro k a; rfl
  | succ j ih =>
    intro k a
    have := ih (k + 1) (st k a)
    rw [show k + (j + 1) = k + 1 + j by omega]
    exact this
/-- a run's values together, from i to below j -/
def rn (S : Nat → Nat → Nat) (i j : Nat) : Int32 := itr (fun s a => a + (nI (S 7 s) - nI 50)) i (j - i) (nI 0)
theorem rn_s {S : Nat → Nat → Nat} {i k : Nat} (h : i ≤ k) : rn S i k + (nI (S 7 k) - nI 50) = rn S i (k + 1) := by
  unfold rn
  rw [show k + 1 - i = (k - i) + 1 by omega, itr_s, show i + (k - i) = k by omega]
theorem rn_0 {S : Nat → Nat → Nat} {i : Nat} : rn S i i = nI 0 := by
  unfold rn
  rw [Nat.sub_self]
  rfl
def bst2 (S : Nat → Nat → Nat) (i j : Nat) (a : Nat × Nat) : Nat × Nat := if rn S a.1 (a.2 + 1) < rn S i (j + 1) then (i, j) else a
section BE
variable {S : Nat → Nat → Nat} {IC IM : gI} {JM : gJ} {s b k i f t : Nat} {x : Int32}
theorem ro7 (h : sv S IC IM) (hf : f ≤ t) (ht : t < 12) : fX7_runOf (nI f) (nI t) IM = some (rn S f (t + 1)) := by
  have R7 := lp_gen (fun n k (a : Unit) => fX7_runOf_5 n (nI t) (rn S f k) (nI k) IM) (t + 1) (fun _ _ => ()) (fun _ => rn S f (t + 1)) (fun k _ => f ≤ k)
    (fun n a hP => by
      try dsimp only
      rw [sX7_runOf_5, fX7_runOf_5b]
      simp (disch := (first | assumption | trivial | omega)) only [lit, neg1, oI_s, addN, mulN, subN, clN, gdN, ltN, leN, eqN, nIo, oIn, oI_eq, divN, remN, giT, giF, lzE, prE, bdE, smL, smR, shlN, shrN, hasE, andN, orN, bit1, bit0, max7, min7, giTr, giFa, gdp, litL, i2l, addL, mulL, divL, remL, cmLe, cmGt, cmGe, cmEq, eqL])
    (fun n k a hk hP => by
      try dsimp only at hP ⊢
      refine ⟨?_, by omega⟩
      rw [sX7_runOf_5, fX7_runOf_5b]
      simp (disch := (first | assumption | trivial | omega)) only [v_vl7 h, rn_s hP, lit, neg1, oI_s, addN, mulN, subN, clN, gdN, ltN, leN, eqN, nIo, oIn, oI_eq, divN, remN, giT, giF, lzE, prE, bdE, smL, smR, shlN, shrN, hasE, andN, orN, bit1, bit0, max7, min7, giTr, giFa, gdp, litL, i2l, addL, mulL, divL, remL, cmLe, cmGt, cmGe, cmEq, eqL]) (t + 1 - f) f () FU (by omega) (Nat.le_refl f) (by show _ < 5000; omega)
  obtain ⟨e, _⟩ := R7
  try dsimp only at e
  rw [rn_0] at e
  unfold fX7_runOf
  simp (disch := (first | assumption | trivial | omega)) only [e, lit, neg1, oI_s, addN, mulN, subN, clN, gdN, ltN, leN, eqN, nIo, oIn, oI_eq, divN, remN, giT, giF, lzE, prE, bdE, smL, smR, shlN, shrN, hasE, andN, orN, bit1, bit0, max7, min7, giTr, giFa, gdp, litL, i2l, addL, mulL, divL, remL, cmLe, cmGt, cmGe, cmEq, eqL]
theorem in7 (h : sv S IC IM) (hf : i ≤ t) (ht : t < 12) {a : Nat × Nat} (ha : a.1 ≤ a.2 ∧ a.2 < 12) : fX7_best_40 FU (nI t) x (nI a.1) (nI a.2) (nI i) (nI i) IM = some (nI (itr (bst2 S i) i (t + 1 - i) a).1, nI (itr (bst2 S i) i (t + 1 - i) a).2) ∧ (itr (bst2 S i) i (t + 1 - i) a).1 ≤ (itr (bst2 S i) i (t + 1 - i) a).2 ∧ (itr (bst2 S i) i (t + 1 - i) a).2 < 12 := by
  have R7 := lp_gen (fun n k (a : Nat × Nat) => fX7_best_40 n (nI t) x (nI a.1) (nI a.2) (nI i) (nI k) IM) (t + 1) (bst2 S i) (fun a => (nI a.1, nI a.2)) (fun k a => i ≤ k ∧ a.1 ≤ a.2 ∧ a.2 < 12)
    (fun n a hP => by
      try dsimp only
      rw [sX7_best_40, fX7_best_40b]
      simp (disch := (first | assumption | trivial | omega)) only [lit, neg1, oI_s, addN, mulN, subN, clN, gdN, ltN, leN, eqN, nIo, oIn, oI_eq, divN, remN, giT, giF, lzE, prE, bdE, smL, smR, shlN, shrN, hasE, andN, orN, bit1, bit0, max7, min7, giTr, giFa, gdp, litL, i2l, addL, mulL, divL, remL, cmLe, cmGt, cmGe, cmEq, eqL])
    (fun n k a hk hP => by
      try dsimp only at hP ⊢
      obtain ⟨hP, h1, h2⟩ := hP
      rw [sX7_best_40, fX7_best_40b]
      by_cases c : rn S a.1 (a.2 + 1) < rn S i (k + 1)
      · rw [show bst2 S i k a = (i, k) from if_pos c]
        refine ⟨?_, by omega, by omega, by omega⟩
        simp (disch := (first | assumption | trivial | omega)) only [ro7 h, lit, neg1, oI_s, addN, mulN, subN, clN, gdN, ltN, leN, eqN, nIo, oIn, oI_eq, divN, remN, giT, giF, lzE, prE, bdE, smL, smR, shlN, shrN, hasE, andN, orN, bit1, bit0, max7, min7, giTr, giFa, gdp, litL, i2l, addL, mulL, divL, remL, cmLe, cmGt, cmGe, cmEq, eqL]
      · rw [show bst2 S i k a = a from if_neg c]
        refine ⟨?_, by omega, by omega, by omega⟩
        simp (disch := (first | assumption | trivial | omega)) only [ro7 h, lit, neg1, oI_s, addN, mulN, subN, clN, gdN, ltN, leN, eqN, nIo, oIn, oI_eq, divN, remN, giT, giF, lzE, prE, bdE, smL, smR, shlN, shrN, hasE, andN, orN, bit1, bit0, max7, min7, giTr, giFa, gdp, litL, i2l, addL, mulL, divL, remL, cmLe, cmGt, cmGe, cmEq, eqL]) (t + 1 - i) i a FU (by omega) ⟨Nat.le_refl i, ha⟩ (by show _ < 5000; omega)
  exact ⟨R7.1, R7.2.2⟩
theorem in6 (h : sv S IC IM) (hf : i ≤ t) (ht : t < 12) {a : Nat × Nat} (ha : a.1 ≤ a.2 ∧ a.2 < 12) : fX6_best_57 FU (nI t) x (rn S a.1 (a.2 + 1)) (nI a.1) (nI a.2) (nI i) (nI 0) (nI i) IC = some (rn S (itr (bst2 S i) i (t + 1 - i) a).1 ((itr (bst2 S i) i (t + 1 - i) a).2 + 1), nI (itr (bst2 S i) i (t + 1 - i) a).1, nI (itr (bst2 S i) i (t + 1 - i) a).2) := by
  have R6 := lp_gen (fun n k (a : Nat × Nat) => fX6_best_57 n (nI t) x (rn S a.1 (a.2 + 1)) (nI a.1) (nI a.2) (nI i) (rn S i k) (nI k) IC) (t + 1) (bst2 S i) (fun a => (rn S a.1 (a.2 + 1), nI a.1, nI a.2)) (fun k a => i ≤ k ∧ a.1 ≤ a.2 ∧ a.2 < 12)
    (fun n a hP => by
      try dsimp only
      rw [sX6_best_57, fX6_best_57b]
      simp (disch := (first | assumption | trivial | omega)) only [lit, neg1, oI_s, addN, mulN, subN, clN, gdN, ltN, leN, eqN, nIo, oIn, oI_eq, divN, remN, giT, giF, lzE, prE, bdE, smL, smR, shlN, shrN, hasE, andN, orN, bit1, bit0, max7, min7, giTr, giFa, gdp, litL, i2l, addL, mulL, divL, remL, cmLe, cmGt, cmGe, cmEq, eqL])
    (fun n k a hk hP => by
      try dsimp only at hP ⊢
      obtain ⟨hP, h1, h2⟩ := hP
      rw [sX6_best_57, fX6_best_57b]
      by_cases c : rn S a.1 (a.2 + 1) < rn S i (k + 1)
      · have c' : ¬ rn S i (k + 1) ≤ rn S a.1 (a.2 + 1) := Int32.not_le.mpr c
        rw [show bst2 S i k a = (i, k) from if_pos c]
        refine ⟨?_, by omega, by omega, by omega⟩
        simp (disch := (first | assumption | trivial | omega)) only [v_vl6 h, rn_s hP, lit, neg1, oI_s, addN, mulN, subN, clN, gdN, ltN, leN, eqN, nIo, oIn, oI_eq, divN, remN, giT, giF, lzE, prE, bdE, smL, smR, shlN, shrN, hasE, andN, orN, bit1, bit0, max7, min7, giTr, giFa, gdp, litL, i2l, addL, mulL, divL, remL, cmLe, cmGt, cmGe, cmEq, eqL]
      · have c' : rn S i (k + 1) ≤ rn S a.1 (a.2 + 1) := Int32.not_lt.mp c
        rw [show bst2 S i k a = a from if_neg c]
        refine ⟨?_, by omega, by omega, by omega⟩
        simp (disch := (first | assumption | trivial | omega)) only [v_vl6 h, rn_s hP, lit, neg1, oI_s, addN, mulN, subN, clN, gdN, ltN, leN, eqN, nIo, oIn, oI_eq, divN, remN, giT, giF, lzE, prE, bdE, smL, smR, shlN, shrN, hasE, andN, orN, bit1, bit0, max7, min7, giTr, giFa, gdp, litL, i2l, addL, mulL, divL, remL, cmLe, cmGt, cmGe, cmEq, eqL]) (t + 1 - i) i a FU (by omega) ⟨Nat.le_refl i, ha⟩ (by show _ < 5000; omega)
  obtain ⟨e, _⟩ := R6
  try dsimp only at e
  rw [rn_0] at e
  exact e
end BE
theorem case_40 : st_40 V0 := by
  intro a1 a2 a3 IC IM JM hV
  obtain ⟨S, h⟩ := view hV
  by_cases c : ∃ f t, f ≤ t ∧ t < 12 ∧ a1 = nI f ∧ a2 = nI t
  · obtain ⟨f, t, hf, ht, rfl, rfl⟩ := c
    obtain ⟨r7, r6⟩ := isRun7p hf ht
    by_cases c3 : inR a3 3
    · have i2 : fX7_isIn a3 0 2 = 1 := isIn_pos (lo := 0) (hi := 2) (n := 2) (by decide) rfl rfl c3
      have i3 : fX6_within a3 0 2 = 1 := i2
      have R7 := lp_gen (fun n k (a : Nat × Nat) => fX7_best_30 n (nI t) a3 (nI a.1) (nI a.2) (nI k) IM) (t + 1) (fun i a => itr (bst2 S i) i (t + 1 - i) a) (fun a => (nI a.1, nI a.2)) (fun k a => a.1 ≤ a.2 ∧ a.2 < 12)
        (fun n a hP => by
          try dsimp only
          rw [sX7_best_30, fX7_best_30b]
          simp (disch := (first | assumption | trivial | omega)) only [lit, neg1, oI_s, addN, mulN, subN, clN, gdN, ltN, leN, eqN, nIo, oIn, oI_eq, divN, remN, giT, giF, lzE, prE, bdE, smL, smR, shlN, shrN, hasE, andN, orN, bit1, bit0, max7, min7, giTr, giFa, gdp, litL, i2l, addL, mulL, divL, remL, cmLe, cmGt, cmGe, cmEq, eqL])
        (fun n k a hk hP => by
          try dsimp only at hP ⊢
          have q := in7 (x := a3) h (i := k) (by omega) ht hP
          rw [sX7_best_30, fX7_best_30b]
          refine ⟨?_, q.2⟩
          simp (disch := (first | assumption | trivial | omega)) only [q.1, lit, neg1, oI_s, addN, mulN, subN, clN, gdN, ltN, leN, eqN, nIo, oIn, oI_eq, divN, remN, giT, giF, lzE, prE, bdE, smL, smR, shlN, shrN, hasE, andN, orN, bit1, bit0, max7, min7, giTr, giFa, gdp, litL, i2l, addL, mulL, divL, remL, cmLe, cmGt, cmGe, cmEq, eqL]) (t + 1 - f) f (f, f) FU (by omega) (by dsimp only; omega) (by show _ < 5000; omega)
      have R6 := lp_gen (fun n k (a : Nat × Nat) => fX6_best_44 n (nI t) a3 (rn S a.1 (a.2 + 1)) (nI a.1) (nI a.2) (nI k) IC) (t + 1) (fun i a => itr (bst2 S i) i (t + 1 - i) a) (fun a => (rn S a.1 (a.2 + 1), nI a.1, nI a.2)) (fun k a => a.1 ≤ a.2 ∧ a.2 < 12)
        (fun n a hP => by
          try dsimp only
          rw [sX6_best_44, fX6_best_44b]
          simp (disch := (first | assumption | trivial | omega)) only [lit, neg1, oI_s, addN, mulN, subN, clN, gdN, ltN, leN, eqN, nIo, oIn, oI_eq, divN, remN, giT, giF, lzE, prE, bdE, smL, smR, shlN, shrN, hasE, andN, orN, bit1, bit0, max7, min7, giTr, giFa, gdp, litL, i2l, addL, mulL, divL, remL, cmLe, cmGt, cmGe, cmEq, eqL])
        (fun n k a hk hP => by
          try dsimp only at hP ⊢
          have q := in7 (x := a3) h (i := k) (by omega) ht hP
          have q6 := in6 (x := a3) h (i := k) (by omega) ht hP
          rw [sX6_best_44, fX6_best_44b]
          refine ⟨?_, q.2⟩
          simp (disch := (first | assumption | trivial | omega)) only [q6, lit, neg1, oI_s, addN, mulN, subN, clN, gdN, ltN, leN, eqN, nIo, oIn, oI_eq, divN, remN, giT, giF, lzE, prE, bdE, smL, smR, shlN, shrN, hasE, andN, orN, bit1, bit0, max7, min7, giTr, giFa, gdp, litL, i2l, addL, mulL, divL, remL, cmLe, cmGt, cmGe, cmEq, eqL]) (t + 1 - f) f (f, f) FU (by omega) (by dsimp only; omega) (by show _ < 5000; omega)
      obtain ⟨e7, f7⟩ := R7
      have e6 := R6.1
      try dsimp only at e6 e7 f7
      generalize itr (fun i (a : Nat × Nat) => itr (bst2 S i) i (t + 1 - i) a) f (t + 1 - f) (f, f) = v at e6 e7 f7
      have e0 : rn S f (f + 1) = nI (S 7 f) - nI 50 := by
        rw [← rn_s (Nat.le_refl f), rn_0]
        exact Int32.zero_add _
      rw [e0] at e6
      have er := ro7 h f7.1 f7.2
      obtain ⟨k, hk, rfl⟩ := c3
      have hk3 : k = 0 ∨ k = 1 ∨ k = 2 := by omega
      have g6 : fX6_best (nI f) (nI t) (nI k) IC = gi (nI k = nI 0) (some (rn S v.1 (v.2 + 1))) (gi (nI k = nI 1) (some (nI v.1)) (some (nI v.2))) := by
        unfold fX6_best
        rw [r6, i3]
        simp (disch := (first | assumption | trivial | omega)) only [v_vl6 h, e6, lit, neg1, oI_s, addN, mulN, subN, clN, gdN, ltN, leN, eqN, nIo, oIn, oI_eq, divN, remN, giT, giF, lzE, prE, bdE, smL, smR, shlN, shrN, hasE, andN, orN, bit1, bit0, max7, min7, giTr, giFa, gdp, litL, i2l, addL, mulL, divL, remL, cmLe, cmGt, cmGe, cmEq, eqL]
      have g7 : fX7_best (nI f) (nI t) (nI k) IM = gi (nI k = nI 0) (some (rn S v.1 (v.2 + 1))) (gi (nI k = nI 1) (some (nI v.1)) (some (nI v.2))) := by
        unfold fX7_best
        rw [r7, i2]
        simp (disch := (first | assumption | trivial | omega)) only [e7, er, lit, neg1, oI_s, addN, mulN, subN, clN, gdN, ltN, leN, eqN, nIo, oIn, oI_eq, divN, remN, giT, giF, lzE, prE, bdE, smL, smR, shlN, shrN, hasE, andN, orN, bit1, bit0, max7, min7, giTr, giFa, gdp, litL, i2l, addL, mulL, divL, remL, cmLe, cmGt, cmGe, cmEq, eqL]
      rcases hk3 with rfl | rfl | rfl
      · exact ⟨rn S v.1 (v.2 + 1), by rw [g6]; simp (disch := (first | assumption | trivial | omega)) only [lit, neg1, oI_s, addN, mulN, subN, clN, gdN, ltN, leN, eqN, nIo, oIn, oI_eq, divN, remN, giT, giF, lzE, prE, bdE, smL, smR, shlN, shrN, hasE, andN, orN, bit1, bit0, max7, min7, giTr, giFa, gdp, litL, i2l, addL, mulL, divL, remL, cmLe, cmGt, cmGe, cmEq, eqL], by rw [g7]; simp (disch := (first | assumption | trivial | omega)) only [lit, neg1, oI_s, addN, mulN, subN, clN, gdN, ltN, leN, eqN, nIo, oIn, oI_eq, divN, remN, giT, giF, lzE, prE, bdE, smL, smR, shlN, shrN, hasE, andN, orN, bit1, bit0, max7, min7, giTr, giFa, gdp, litL, i2l, addL, mulL, divL, remL, cmLe, cmGt, cmGe, cmEq, eqL], hV⟩
      · exact ⟨nI v.1, by rw [g6]; simp (disch := (first | assumption | trivial | omega)) only [lit, neg1, oI_s, addN, mulN, subN, clN, gdN, ltN, leN, eqN, nIo, oIn, oI_eq, divN, remN, giT, giF, lzE, prE, bdE, smL, smR, shlN, shrN, hasE, andN, orN, bit1, bit0, max7, min7, giTr, giFa, gdp, litL, i2l, addL, mulL, divL, remL, cmLe, cmGt, cmGe, cmEq, eqL], by rw [g7]; simp (disch := (first | assumption | trivial | omega)) only [lit, neg1, oI_s, addN, mulN, subN, clN, gdN, ltN, leN, eqN, nIo, oIn, oI_eq, divN, remN, giT, giF, lzE, prE, bdE, smL, smR, shlN, shrN, hasE, andN, orN, bit1, bit0, max7, min7, giTr, giFa, gdp, litL, i2l, addL, mulL, divL, remL, cmLe, cmGt, cmGe, cmEq, eqL], hV⟩
      · exact ⟨nI v.2, by rw [g6]; simp (disch := (first | assumption | trivial | omega)) only [lit, neg1, oI_s, addN, mulN, subN, clN, gdN, ltN, leN, eqN, nIo, oIn, oI_eq, divN, remN, giT, giF, lzE, prE, bdE, smL, smR, shlN, shrN, hasE, andN, orN, bit1, bit0, max7, min7, giTr, giFa, gdp, litL, i2l, addL, mulL, divL, remL, cmLe, cmGt, cmGe, cmEq, eqL], by rw [g7]; simp (disch := (first | assumption | trivial | omega)) only [lit, neg1, oI_s, addN, mulN, subN, clN, gdN, ltN, leN, eqN, nIo, oIn, oI_eq, divN, remN, giT, giF, lzE, prE, bdE, smL, smR, shlN, shrN, hasE, andN, orN, bit1, bit0, max7, min7, giTr, giFa, gdp, litL, i2l, addL, mulL, divL, remL, cmLe, cmGt, cmGe, cmEq, eqL], hV⟩
    · have i2 : fX7_isIn a3 0 2 = 0 := isIn_neg (lo := 0) (hi := 2) (n := 2) (by decide) rfl rfl c3
      have i3 : fX6_within a3 0 2 = 0 := i2
      refine ⟨-1000, ?_, ?_, hV⟩
      · unfold fX6_best
        rw [r6, i3]
        simp (disch := (first | assumption | trivial | omega)) only [lit, neg1, oI_s, addN, mulN, subN, clN, gdN, ltN, leN, eqN, nIo, oIn, oI_eq, divN, remN, giT, giF, lzE, prE, bdE, smL, smR, shlN, shrN, hasE, andN, orN, bit1, bit0, max7, min7, giTr, giFa, gdp, litL, i2l, addL, mulL, divL, remL, cmLe, cmGt, cmGe, cmEq, eqL]
      · unfold fX7_best
        rw [r7, i2]
        simp (disch := (first | assumption | trivial | omega)) only [lit, neg1, oI_s, addN, mulN, subN, clN, gdN, ltN, leN, eqN, nIo, oIn, oI_eq, divN, remN, giT, giF, lzE, prE, bdE, smL, smR, shlN, shrN, hasE, andN, orN, bit1, bit0, max7, min7, giTr, giFa, gdp, litL, i2l, addL, mulL, divL, remL, cmLe, cmGt, cmGe, cmEq, eqL]
  · obtain ⟨r7, r6⟩ := isRun7n c
    refine ⟨-1000, ?_, ?_, hV⟩
    · unfold fX6_best
      rw [r6]
      simp (disch := (first | assumption | trivial | omega)) only [lit, neg1, oI_s, addN, mulN, subN, clN, gdN, ltN, leN, eqN, nIo, oIn, oI_eq, divN, remN, giT, giF, lzE, prE, bdE, smL, smR, shlN, shrN, hasE, andN, orN, bit1, bit0, max7, min7, giTr, giFa, gdp, litL, i2l, addL, mulL, divL, remL, cmLe, cmGt, cmGe, cmEq, eqL]
    · unfold fX7_best
      rw [r7]
      simp (disch := (first | assumption | trivial | omega)) only [lit, neg1, oI_s, addN, mulN, subN, clN, gdN, ltN, leN, eqN, nIo, oIn, oI_eq, divN, remN, giT, giF, lzE, prE, bdE, smL, smR, shlN, shrN, hasE, andN, orN, bit1, bit0, max7, min7, giTr, giFa, gdp, litL, i2l, addL, mulL, divL, remL, cmLe, cmGt, cmGe, cmEq, eqL]
/-- the game: how much more who begins gets of f .. f + m -/
def gm (S : Nat → Nat → Nat) : Nat → Nat → Int32
  | 0, f => nI (S 7 f)
  | m + 1, f => jmax (nI (S 7 f) - gm S m (f + 1)) (nI (S 7 (f + m + 1)) - gm S m f)
section GA
variable {S : Nat → Nat → Nat} {IC IM I : gI} {JM : gJ} {s b k i f t : Nat} {x : Int32}
theorem le6 (hv : ∀ s, s < 12 → I 8 s = nI (S 7 s)) (hf : f ≤ t) (ht : t < 12) : ∃ I', fX6_lead (nI f) (nI t) I = some (gm S (t - f) f, I') ∧ ∀ o, o ≠ 295 → I' o = I o := by
  obtain ⟨I1, e1, h1, v1⟩ := lp_ex (fun n k (a : gI) => fX6_lead_9 n (nI f) (nI t) (nI k) a) (t + 1) (fun k a => (∀ o, o ≠ 295 → a o = I o) ∧ f ≤ k ∧ ∀ j, f ≤ j → j < k → a 295 j = nI (S 7 j)) (fun a => (∀ o, o ≠ 295 → a o = I o) ∧ ∀ j, f ≤ j → j < t + 1 → a 295 j = nI (S 7 j))
    (fun n a hP => by
      try dsimp only at hP ⊢
      refine ⟨a, ?_, hP.1, hP.2.2⟩
      rw [sX6_lead_9, fX6_lead_9b]
      simp (disch := (first | assumption | trivial | omega)) only [lit, neg1, oI_s, addN, mulN, subN, clN, gdN, ltN, leN, eqN, nIo, oIn, oI_eq, divN, remN, giT, giF, lzE, prE, bdE, smL, smR, shlN, shrN, hasE, andN, orN, bit1, bit0, max7, min7, giTr, giFa, gdp, litL, i2l, addL, mulL, divL, remL, cmLe, cmGt, cmGe, cmEq, eqL])
    (fun n k a hk hP => by
      try dsimp only at hP ⊢
      obtain ⟨q1, q2, q3⟩ := hP
      right
      have e8 : a 8 k = nI (S 7 k) := by rw [q1 8 (by decide)]; exact hv k (by omega)
      refine ⟨wI a 295 k (nI (S 7 k)), ?_, ?_, by omega, ?_⟩
      · rw [sX6_lead_9, fX6_lead_9b]
        simp (disch := (first | assumption | trivial | omega)) only [e8, lit, neg1, oI_s, addN, mulN, subN, clN, gdN, ltN, leN, eqN, nIo, oIn, oI_eq, divN, remN, giT, giF, lzE, prE, bdE, smL, smR, shlN, shrN, hasE, andN, orN, bit1, bit0, max7, min7, giTr, giFa, gdp, litL, i2l, addL, mulL, divL, remL, cmLe, cmGt, cmGe, cmEq, eqL]
      · intro o ho
        rw [wI_o ho]; exact q1 o ho
      · intro j hj1 hj2
        by_cases e : j = k
        · subst e; exact wI_eq
        · rw [wI_ne (by omega)]; exact q3 j hj1 (by omega)) (t + 1 - f) f I FU (by omega) ⟨fun _ _ => rfl, Nat.le_refl f, fun j h1 h2 => absurd h1 (by omega)⟩ (by show _ < 5000; omega)
  obtain ⟨I2, e2, h2, v2⟩ := lp_ex (fun n k (a : gI) => fX6_lead_37 n (nI f) (nI t) (nI (k + 1)) a) (t - f) (fun k a => (∀ o, o ≠ 295 → a o = I o) ∧ ∀ j, f ≤ j → j + k ≤ t → a 295 j = gm S k j) (fun a => (∀ o, o ≠ 295 → a o = I o) ∧ a 295 f = gm S (t - f) f)
    (fun n a hP => by
      try dsimp only at hP ⊢
      refine ⟨a, ?_, hP.1, hP.2 f (Nat.le_refl f) (by omega)⟩
      rw [sX6_lead_37, fX6_lead_37b]
      simp (disch := (first | assumption | trivial | omega)) only [lit, neg1, oI_s, addN, mulN, subN, clN, gdN, ltN, leN, eqN, nIo, oIn, oI_eq, divN, remN, giT, giF, lzE, prE, bdE, smL, smR, shlN, shrN, hasE, andN, orN, bit1, bit0, max7, min7, giTr, giFa, gdp, litL, i2l, addL, mulL, divL, remL, cmLe, cmGt, cmGe, cmEq, eqL])
    (fun n k a hk hP => by
      try dsimp only at hP ⊢
      obtain ⟨q1, q2⟩ := hP
      right
      obtain ⟨I3, e3, h3, v3⟩ := lp_ex (fun n i (a : gI) => fX6_lead_47 n (nI f) (nI t) (nI (k + 1)) (nI i) a) (t - k) (fun i a => (∀ o, o ≠ 295 → a o = I o) ∧ f ≤ i ∧ (∀ j, f ≤ j → j < i → a 295 j = gm S (k + 1) j) ∧ ∀ j, i ≤ j → j + k ≤ t → a 295 j = gm S k j) (fun a => (∀ o, o ≠ 295 → a o = I o) ∧ ∀ j, f ≤ j → j + (k + 1) ≤ t → a 295 j = gm S (k + 1) j)
        (fun n a hP => by
          try dsimp only at hP ⊢
          refine ⟨a, ?_, hP.1, fun j h1 h2 => hP.2.2.1 j h1 (by omega)⟩
          rw [sX6_lead_47, fX6_lead_47b]
          simp (disch := (first | assumption | trivial | omega)) only [lit, neg1, oI_s, addN, mulN, subN, clN, gdN, ltN, leN, eqN, nIo, oIn, oI_eq, divN, remN, giT, giF, lzE, prE, bdE, smL, smR, shlN, shrN, hasE, andN, orN, bit1, bit0, max7, min7, giTr, giFa, gdp, litL, i2l, addL, mulL, divL, remL, cmLe, cmGt, cmGe, cmEq, eqL])
        (fun n i a hi hP => by
          try dsimp only at hP ⊢
          obtain ⟨w1, w2, w3, w4⟩ := hP
          right
          have d1 : a 8 i = nI (S 7 i) := by rw [w1 8 (by decide)]; exact hv i (by omega)
          have d2 : a 8 (i + (k + 1)) = nI (S 7 (i + (k + 1))) := by rw [w1 8 (by decide)]; exact hv _ (by omega)
          have d3 := w4 i (by omega) (by omega)
          have d4 := w4 (i + 1) (by omega) (by omega)
          refine ⟨wI a 295 i (gm S (k + 1) i), ?_, ?_, by omega, ?_, ?_⟩
          · rw [sX6_lead_47, fX6_lead_47b]
            simp (disch := (first | assumption | trivial | omega)) only [d1, d2, d3, d4, lit, neg1, oI_s, addN, mulN, subN, clN, gdN, ltN, leN, eqN, nIo, oIn, oI_eq, divN, remN, giT, giF, lzE, prE, bdE, smL, smR, shlN, shrN, hasE, andN, orN, bit1, bit0, max7, min7, giTr, giFa, gdp, litL, i2l, addL, mulL, divL, remL, cmLe, cmGt, cmGe, cmEq, eqL]
            rfl
          · intro o ho
            rw [wI_o ho]; exact w1 o ho
          · intro j hj1 hj2
            by_cases e : j = i
            · subst e; exact wI_eq
            · rw [wI_ne (by omega)]; exact w3 j hj1 (by omega)
          · intro j hj1 hj2
            rw [wI_ne (by omega)]; exact w4 j (by omega) (by omega)) (t - k - f) f a FU (by omega) ⟨q1, Nat.le_refl f, fun j h1 h2 => absurd h1 (by omega), fun j h1 h2 => q2 j h1 h2⟩ (by show _ < 5000; omega)
      try dsimp only at e3
      refine ⟨I3, ?_, h3, v3⟩
      rw [sX6_lead_37, fX6_lead_37b]
      simp (disch := (first | assumption | trivial | omega)) only [e3, lit, neg1, oI_s, addN, mulN, subN, clN, gdN, ltN, leN, eqN, nIo, oIn, oI_eq, divN, remN, giT, giF, lzE, prE, bdE, smL, smR, shlN, shrN, hasE, andN, orN, bit1, bit0, max7, min7, giTr, giFa, gdp, litL, i2l, addL, mulL, divL, remL, cmLe, cmGt, cmGe, cmEq, eqL]) (t - f) 0 I1 FU (by omega) ⟨h1, fun j q1 q2 => v1 j q1 (by omega)⟩ (by show _ < 5000; omega)
  try dsimp only at e1 e2
  refine ⟨I2, ?_, h2⟩
  unfold fX6_lead
  simp (disch := (first | assumption | trivial | omega)) only [e1, show fX6_lead_37 FU (nI f) (nI t) (nI 1) I1 = _ from e2, v2, lit, neg1, oI_s, addN, mulN, subN, clN, gdN, ltN, leN, eqN, nIo, oIn, oI_eq, divN, remN, giT, giF, lzE, prE, bdE, smL, smR, shlN, shrN, hasE, andN, orN, bit1, bit0, max7, min7, giTr, giFa, gdp, litL, i2l, addL, mulL, divL, remL, cmLe, cmGt, cmGe, cmEq, eqL]
theorem bl7 (hv : ∀ s, s < 12 → I 1 (69 + s) = nI (S 7 s)) (m f : Nat) (hm : f + m < 12) (hg : ∀ m', m' + 1 = m → I 12 (12 * (f + 1) + (f + m)) = gm S m' (f + 1) ∧ I 12 (12 * f + (f + m) - 1) = gm S m' f) : ∃ x y, fX7_byLeft (nI f) (nI (f + m)) I = some x ∧ fX7_byRight (nI f) (nI (f + m)) I = some y ∧ x = nI (S 7 f) - (if m = 0 then nI 0 else gm S (m - 1) (f + 1)) ∧ y = nI (S 7 (f + m)) - (if m = 0 then nI 0 else gm S (m - 1) f) := by
  have v1 := hv f (by omega)
  have v2 := hv (f + m) (by omega)
  cases m with
  | zero =>
    refine ⟨_, _, ?_, ?_, rfl, rfl⟩
    · unfold fX7_byLeft
      simp (disch := (first | assumption | trivial | omega)) only [Nat.add_zero, v1, lit, neg1, oI_s, addN, mulN, subN, clN, gdN, ltN, leN, eqN, nIo, oIn, oI_eq, divN, remN, giT, giF, lzE, prE, bdE, smL, smR, shlN, shrN, hasE, andN, orN, bit1, bit0, max7, min7, giTr, giFa, gdp, litL, i2l, addL, mulL, divL, remL, cmLe, cmGt, cmGe, cmEq, eqL]
      rw [if_pos trivial, subN (Nat.zero_le _)]
    · unfold fX7_byRight
      simp (disch := (first | assumption | trivial | omega)) only [Nat.add_zero, v1, lit, neg1, oI_s, addN, mulN, subN, clN, gdN, ltN, leN, eqN, nIo, oIn, oI_eq, divN, remN, giT, giF, lzE, prE, bdE, smL, smR, shlN, shrN, hasE, andN, orN, bit1, bit0, max7, min7, giTr, giFa, gdp, litL, i2l, addL, mulL, divL, remL, cmLe, cmGt, cmGe, cmEq, eqL]
      rw [if_pos trivial, subN (Nat.zero_le _)]
  | succ m =>
    obtain ⟨g1, g2⟩ := hg m rfl
    refine ⟨_, _, ?_, ?_, rfl, rfl⟩
    · unfold fX7_byLeft
      simp (disch := (first | assumption | trivial | omega)) only [v1, g1, lit, neg1, oI_s, addN, mulN, subN, clN, gdN, ltN, leN, eqN, nIo, oIn, oI_eq, divN, remN, giT, giF, lzE, prE, bdE, smL, smR, shlN, shrN, hasE, andN, orN, bit1, bit0, max7, min7, giTr, giFa, gdp, litL, i2l, addL, mulL, divL, remL, cmLe, cmGt, cmGe, cmEq, eqL]
      rfl
    · unfold fX7_byRight
      simp (disch := (first | assumption | trivial | omega)) only [v2, g2, lit, neg1, oI_s, addN, mulN, subN, clN, gdN, ltN, leN, eqN, nIo, oIn, oI_eq, divN, remN, giT, giF, lzE, prE, bdE, smL, smR, shlN, shrN, hasE, andN, orN, bit1, bit0, max7, min7, giTr, giFa, gdp, litL, i2l, addL, mulL, divL, remL, cmLe, cmGt, cmGe, cmEq, eqL]
      rfl
end GA
