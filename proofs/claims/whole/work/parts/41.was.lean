-- 41: PURE PART: who paid, what it was (out of wip/whole/pure by pure.py)
def pdv (IC IM : gI) (t d : Nat) (pd : Nat → Nat) : Prop := t < 64 ∧ d < 64 ∧ IC 1 16 = nI t ∧ IC 1 17 = nI d ∧ IM 1 4 = nI (pc t) ∧ ∀ b, b < 6 → pd b < 3 ∧ IM 1 (63 + b) = nI (pd b) ∧ (t.testBit b = true ↔ ¬ pd b = 0) ∧ (d.testBit b = true ↔ pd b = 1)
theorem paid_view {IC IM : gI} {nb : Nat} (h : rPaid IC 1 (IM 1) nb) : ∃ t d pd, pdv IC IM t d pd := by
  obtain ⟨t, d, h1, h2, h3, h4, h5, h6⟩ := h
  refine ⟨t, d, fun b => (IM 1 (63 + b)).toNatClampNeg, h1, h2, h3, h4, by rw [h5, bitCount6 t (by omega)], fun b hb => ?_⟩
  rcases h6 b hb with ⟨e, e1, e2⟩ | ⟨_, e, e1, e2⟩ | ⟨_, e, e1, e2⟩
  · dsimp only; rw [e, e1, e2]; decide
  · dsimp only; rw [e, e1, e2]; decide
  · dsimp only; rw [e, e1, e2]; decide
theorem case_56 : st_56 V0 := by
  intro a1 IC IM JM hV
  refine ⟨_, rfl, ?_, hV⟩
  obtain ⟨nb, nt, mb, mt, h1, ⟨p1, p2, p3, p4, p5, p6, p7, p8, p9⟩, h3, h4, h5⟩ := hV
  obtain ⟨n, t1, t2, t3, _⟩ := h4
  obtain ⟨a1', a2', a3, a4, a5, a6, a7, a8⟩ := p1
  obtain ⟨t, d, q1, q2, q3, q4, q5, q6⟩ := p2
  obtain ⟨sn, s1, s2, s3, s4⟩ := p3
  obtain ⟨ns, e, u1, u2, u3, u4, u5, u6⟩ := p8
  unfold fX7_about fX6_about
  by_cases c : inR a1 6
  · rw [isIn_pos (lo := 0) (hi := 5) (n := 5) (by decide) rfl rfl c]
    obtain ⟨k, hk, rfl⟩ := c
    have : k = 0 ∨ k = 1 ∨ k = 2 ∨ k = 3 ∨ k = 4 ∨ k = 5 := by omega
    rcases this with rfl | rfl | rfl | rfl | rfl | rfl
    · simp (disch := (first | assumption | trivial | omega)) only [a3, a4, lit, neg1, oI_s, addN, mulN, subN, clN, gdN, ltN, leN, eqN, nIo, oIn, oI_eq, divN, remN, giT, giF, lzE, prE, bdE, smL, smR, shlN, shrN, hasE, andN, orN, bit1, bit0, max7, min7, giTr, giFa, gdp, litL, i2l, addL, mulL, divL, remL, cmLe, cmGt, cmGe, cmEq, eqL]
    · simp (disch := (first | assumption | trivial | omega)) only [a5, a6, lit, neg1, oI_s, addN, mulN, subN, clN, gdN, ltN, leN, eqN, nIo, oIn, oI_eq, divN, remN, giT, giF, lzE, prE, bdE, smL, smR, shlN, shrN, hasE, andN, orN, bit1, bit0, max7, min7, giTr, giFa, gdp, litL, i2l, addL, mulL, divL, remL, cmLe, cmGt, cmGe, cmEq, eqL]
    · simp (disch := (first | assumption | trivial | omega)) only [a7, lit, neg1, oI_s, addN, mulN, subN, clN, gdN, ltN, leN, eqN, nIo, oIn, oI_eq, divN, remN, giT, giF, lzE, prE, bdE, smL, smR, shlN, shrN, hasE, andN, orN, bit1, bit0, max7, min7, giTr, giFa, gdp, litL, i2l, addL, mulL, divL, remL, cmLe, cmGt, cmGe, cmEq, eqL]
    · simp (disch := (first | assumption | trivial | omega)) only [u3, u4, lit, neg1, oI_s, addN, mulN, subN, clN, gdN, ltN, leN, eqN, nIo, oIn, oI_eq, divN, remN, giT, giF, lzE, prE, bdE, smL, smR, shlN, shrN, hasE, andN, orN, bit1, bit0, max7, min7, giTr, giFa, gdp, litL, i2l, addL, mulL, divL, remL, cmLe, cmGt, cmGe, cmEq, eqL]
    · simp (disch := (first | assumption | trivial | omega)) only [q3, q5, lit, neg1, oI_s, addN, mulN, subN, clN, gdN, ltN, leN, eqN, nIo, oIn, oI_eq, divN, remN, giT, giF, lzE, prE, bdE, smL, smR, shlN, shrN, hasE, andN, orN, bit1, bit0, max7, min7, giTr, giFa, gdp, litL, i2l, addL, mulL, divL, remL, cmLe, cmGt, cmGe, cmEq, eqL]
    · simp (disch := (first | assumption | trivial | omega)) only [s2, s3, lit, neg1, oI_s, addN, mulN, subN, clN, gdN, ltN, leN, eqN, nIo, oIn, oI_eq, divN, remN, giT, giF, lzE, prE, bdE, smL, smR, shlN, shrN, hasE, andN, orN, bit1, bit0, max7, min7, giTr, giFa, gdp, litL, i2l, addL, mulL, divL, remL, cmLe, cmGt, cmGe, cmEq, eqL]
  · rw [isIn_neg (lo := 0) (hi := 5) (n := 5) (by decide) rfl rfl c, gi_pos rfl]
    rw [gi_neg (c := a1 = 0) (fun e => c ⟨0, by decide, e⟩), gi_neg (c := a1 = 1) (fun e => c ⟨1, by decide, e⟩), gi_neg (c := a1 = 2) (fun e => c ⟨2, by decide, e⟩), gi_neg (c := a1 = 3) (fun e => c ⟨3, by decide, e⟩), gi_neg (c := a1 = 4) (fun e => c ⟨4, by decide, e⟩), gi_neg (c := a1 = 5) (fun e => c ⟨5, by decide, e⟩)]
    by_cases c6 : a1 = 6
    · rw [gi_pos c6, gi_pos c6, t2, t3]
    · rw [gi_neg c6, gi_neg c6]
/-- a sort fits what was paid -/
def ft (S : Nat → Nat → Nat) (pd : Nat → Nat) (s : Nat) : Prop := ¬ lk S s = 0 ∧ ∀ b, b < S 0 0 → pd b = 0 ∨ ((S 3 b).testBit s = true ↔ pd b = 1)
/-- .. all that fit -/
noncomputable def fF (S : Nat → Nat → Nat) (pd : Nat → Nat) : Nat := itr (bst (ft S pd)) 0 5 0
theorem bst_lt5 {p : Nat → Prop} : ∀ j k a, k + j ≤ 5 → a < 32 → itr (bst p) k j a < 32 := by
  intro j
  induction j with
  | zero => intro k a _ h; exact h
  | succ j ih => intro k a hk h; exact ih (k + 1) _ (by omega) (bst_lt (n := 5) h (by omega))
theorem fF_lt (S : Nat → Nat → Nat) (pd : Nat → Nat) : fF S pd < 32 := bst_lt5 5 0 0 (by decide) (by decide)
theorem fF_bit {S : Nat → Nat → Nat} {pd : Nat → Nat} {s : Nat} (hs : s < 5) : (fF S pd).testBit s = true ↔ ft S pd s := by
  unfold fF
  rw [bst_bits]
  simp [hs]
section WA
variable {S : Nat → Nat → Nat} {IC IM : gI} {JM : gJ} {s b k t d : Nat} {pd : Nat → Nat}
theorem df7 (h : sv S IC IM) (hp : pdv IC IM t d pd) (hs : s < 5) : (ft S pd s ∧ fX7_doesFit (nI s) IM = some (nI 1)) ∨ (¬ ft S pd s ∧ fX7_doesFit (nI s) IM = some (nI 0)) := by
  have hl := lk_lt h hs
  have hn := b_nb h
  obtain ⟨p1, p2, p3, p4, p5, p6⟩ := hp
  unfold fX7_doesFit
  by_cases c0 : lk S s = 0
  · right
    refine ⟨fun x => x.1 c0, ?_⟩
    simp (disch := (first | assumption | trivial | omega)) only [lk7 h, lit, neg1, oI_s, addN, mulN, subN, clN, gdN, ltN, leN, eqN, nIo, oIn, oI_eq, divN, remN, giT, giF, lzE, prE, bdE, smL, smR, shlN, shrN, hasE, andN, orN, bit1, bit0, max7, min7, giTr, giFa, gdp, litL, i2l, addL, mulL, divL, remL, cmLe, cmGt, cmGe, cmEq, eqL]
  · obtain ⟨r, e, hr⟩ := lp_ex (fun n k (a : Unit) => fX7_doesFit_12 n (nI s) (nI k) IM) (S 0 0) (fun k _ => ∀ b, b < k → pd b = 0 ∨ ((S 3 b).testBit s = true ↔ pd b = 1)) (fun r => (r = .inr () ∧ ft S pd s) ∨ (r = .inl () ∧ ¬ ft S pd s))
      (fun n a hP => by
        refine ⟨.inr (), ?_, Or.inl ⟨rfl, c0, hP⟩⟩
        rw [sX7_doesFit_12, fX7_doesFit_12b]
        simp (disch := (first | assumption | trivial | omega)) only [v_nb7 h, lit, neg1, oI_s, addN, mulN, subN, clN, gdN, ltN, leN, eqN, nIo, oIn, oI_eq, divN, remN, giT, giF, lzE, prE, bdE, smL, smR, shlN, shrN, hasE, andN, orN, bit1, bit0, max7, min7, giTr, giFa, gdp, litL, i2l, addL, mulL, divL, remL, cmLe, cmGt, cmGe, cmEq, eqL])
      (fun n k a hk hP => by
        try dsimp only at hP ⊢
        obtain ⟨q1, q2, q3, q4⟩ := p6 k (by omega)
        by_cases c1 : pd k = 0
        · right
          refine ⟨(), ?_, ?_⟩
          · rw [sX7_doesFit_12, fX7_doesFit_12b]
            simp (disch := (first | assumption | trivial | omega)) only [v_nb7 h, q2, lit, neg1, oI_s, addN, mulN, subN, clN, gdN, ltN, leN, eqN, nIo, oIn, oI_eq, divN, remN, giT, giF, lzE, prE, bdE, smL, smR, shlN, shrN, hasE, andN, orN, bit1, bit0, max7, min7, giTr, giFa, gdp, litL, i2l, addL, mulL, divL, remL, cmLe, cmGt, cmGe, cmEq, eqL]
          · intro b hb
            by_cases e : b = k
            · subst e; exact Or.inl c1
            · exact hP b (by omega)
        · by_cases c2 : (S 3 k).testBit s = true
          · by_cases c3 : pd k = 1
            · right
              refine ⟨(), ?_, ?_⟩
              · rw [sX7_doesFit_12, fX7_doesFit_12b]
                simp (disch := (first | assumption | trivial | omega)) only [v_nb7 h, q2, dw7p h, lit, neg1, oI_s, addN, mulN, subN, clN, gdN, ltN, leN, eqN, nIo, oIn, oI_eq, divN, remN, giT, giF, lzE, prE, bdE, smL, smR, shlN, shrN, hasE, andN, orN, bit1, bit0, max7, min7, giTr, giFa, gdp, litL, i2l, addL, mulL, divL, remL, cmLe, cmGt, cmGe, cmEq, eqL]
              · intro b hb
                by_cases e : b = k
                · subst e; exact Or.inr ⟨fun _ => c3, fun _ => c2⟩
                · exact hP b (by omega)
            · left
              refine ⟨.inl (), ?_, Or.inr ⟨rfl, fun x => ?_⟩⟩
              · rw [sX7_doesFit_12, fX7_doesFit_12b]
                simp (disch := (first | assumption | trivial | omega)) only [v_nb7 h, q2, dw7p h, lit, neg1, oI_s, addN, mulN, subN, clN, gdN, ltN, leN, eqN, nIo, oIn, oI_eq, divN, remN, giT, giF, lzE, prE, bdE, smL, smR, shlN, shrN, hasE, andN, orN, bit1, bit0, max7, min7, giTr, giFa, gdp, litL, i2l, addL, mulL, divL, remL, cmLe, cmGt, cmGe, cmEq, eqL]
              · rcases x.2 k hk with y | y
                · exact c1 y
                · exact c3 (y.mp c2)
          · by_cases c3 : pd k = 1
            · left
              refine ⟨.inl (), ?_, Or.inr ⟨rfl, fun x => ?_⟩⟩
              · rw [sX7_doesFit_12, fX7_doesFit_12b]
                simp (disch := (first | assumption | trivial | omega)) only [v_nb7 h, q2, dw7n h, lit, neg1, oI_s, addN, mulN, subN, clN, gdN, ltN, leN, eqN, nIo, oIn, oI_eq, divN, remN, giT, giF, lzE, prE, bdE, smL, smR, shlN, shrN, hasE, andN, orN, bit1, bit0, max7, min7, giTr, giFa, gdp, litL, i2l, addL, mulL, divL, remL, cmLe, cmGt, cmGe, cmEq, eqL]
              · rcases x.2 k hk with y | y
                · exact c1 y
                · exact c2 (y.mpr c3)
            · right
              refine ⟨(), ?_, ?_⟩
              · rw [sX7_doesFit_12, fX7_doesFit_12b]
                simp (disch := (first | assumption | trivial | omega)) only [v_nb7 h, q2, dw7n h, lit, neg1, oI_s, addN, mulN, subN, clN, gdN, ltN, leN, eqN, nIo, oIn, oI_eq, divN, remN, giT, giF, lzE, prE, bdE, smL, smR, shlN, shrN, hasE, andN, orN, bit1, bit0, max7, min7, giTr, giFa, gdp, litL, i2l, addL, mulL, divL, remL, cmLe, cmGt, cmGe, cmEq, eqL]
              · intro b hb
                by_cases e : b = k
                · subst e; exact Or.inr ⟨fun x => absurd x c2, fun x => absurd x c3⟩
                · exact hP b (by omega)) (S 0 0) 0 () FU (by omega) (fun b hb => absurd hb (by omega)) (by show _ < 5000; omega)
    try dsimp only at e
    rcases hr with ⟨rfl, hf⟩ | ⟨rfl, hf⟩
    · left
      refine ⟨hf, ?_⟩
      simp (disch := (first | assumption | trivial | omega)) only [lk7 h, e, lit, neg1, oI_s, addN, mulN, subN, clN, gdN, ltN, leN, eqN, nIo, oIn, oI_eq, divN, remN, giT, giF, lzE, prE, bdE, smL, smR, shlN, shrN, hasE, andN, orN, bit1, bit0, max7, min7, giTr, giFa, gdp, litL, i2l, addL, mulL, divL, remL, cmLe, cmGt, cmGe, cmEq, eqL]
    · right
      refine ⟨hf, ?_⟩
      simp (disch := (first | assumption | trivial | omega)) only [lk7 h, e, lit, neg1, oI_s, addN, mulN, subN, clN, gdN, ltN, leN, eqN, nIo, oIn, oI_eq, divN, remN, giT, giF, lzE, prE, bdE, smL, smR, shlN, shrN, hasE, andN, orN, bit1, bit0, max7, min7, giTr, giFa, gdp, litL, i2l, addL, mulL, divL, remL, cmLe, cmGt, cmGe, cmEq, eqL]
theorem df7p (h : sv S IC IM) (hp : pdv IC IM t d pd) (hs : s < 5) (hf : ft S pd s) : fX7_doesFit (nI s) IM = some (nI 1) := by
  rcases df7 h hp hs with x | x
  · exact x.2
  · exact absurd hf x.1
theorem df7n (h : sv S IC IM) (hp : pdv IC IM t d pd) (hs : s < 5) (hf : ¬ ft S pd s) : fX7_doesFit (nI s) IM = some (nI 0) := by
  rcases df7 h hp hs with x | x
  · exact absurd x.1 hf
  · exact x.2
theorem fi7 (h : sv S IC IM) (hp : pdv IC IM t d pd) : fX7_fitting IM = some (nI (fF S pd)) := by
  have R7 := lp_run (fun n k (a : Nat) => fX7_fitting_4 n (nI a) (nI k) IM) (5) (bst (ft S pd)) (nI) (fun _ _ => True) 0 (by first | decide | omega) (trivial)
      (fun n a hP => by
        try dsimp only
        rw [sX7_fitting_4, fX7_fitting_4b]
        simp (disch := (first | assumption | trivial | omega)) only [lit, neg1, oI_s, addN, mulN, subN, clN, gdN, ltN, leN, eqN, nIo, oIn, oI_eq, divN, remN, giT, giF, lzE, prE, bdE, smL, smR, shlN, shrN, hasE, andN, orN, bit1, bit0, max7, min7, giTr, giFa, gdp, litL, i2l, addL, mulL, divL, remL, cmLe, cmGt, cmGe, cmEq, eqL])
      (fun n k a hk hP => by
        try dsimp only at hP ⊢
        have hp2 := p2s (k := k) (by omega)
        refine ⟨?_, trivial⟩
        rw [sX7_fitting_4, fX7_fitting_4b]
        by_cases c : ft S pd k
        · rw [bst_p c]
          simp (disch := (first | assumption | trivial | omega)) only [df7p h hp hk c, Nat.one_mul, lit, neg1, oI_s, addN, mulN, subN, clN, gdN, ltN, leN, eqN, nIo, oIn, oI_eq, divN, remN, giT, giF, lzE, prE, bdE, smL, smR, shlN, shrN, hasE, andN, orN, bit1, bit0, max7, min7, giTr, giFa, gdp, litL, i2l, addL, mulL, divL, remL, cmLe, cmGt, cmGe, cmEq, eqL]
        · rw [bst_n c]
          simp (disch := (first | assumption | trivial | omega)) only [df7n h hp hk c, Nat.or_zero, lit, neg1, oI_s, addN, mulN, subN, clN, gdN, ltN, leN, eqN, nIo, oIn, oI_eq, divN, remN, giT, giF, lzE, prE, bdE, smL, smR, shlN, shrN, hasE, andN, orN, bit1, bit0, max7, min7, giTr, giFa, gdp, litL, i2l, addL, mulL, divL, remL, cmLe, cmGt, cmGe, cmEq, eqL])
  unfold fX7_fitting
  simp (disch := (first | assumption | trivial | omega)) only [R7.1, lit, neg1, oI_s, addN, mulN, subN, clN, gdN, ltN, leN, eqN, nIo, oIn, oI_eq, divN, remN, giT, giF, lzE, prE, bdE, smL, smR, shlN, shrN, hasE, andN, orN, bit1, bit0, max7, min7, giTr, giFa, gdp, litL, i2l, addL, mulL, divL, remL, cmLe, cmGt, cmGe, cmEq, eqL]
  rfl
theorem wa6 (h : sv S IC IM) (hp : pdv IC IM t d pd) : fX6_was IC = some (nI (fF S pd)) := by
  have hn := b_nb h
  obtain ⟨p1, p2, p3, p4, p5, p6⟩ := hp
  have R6 := lp_run (fun n k (a : Nat) => fX6_was_4 n (nI a) (nI k) IC) (5) (bst (fun s => ¬ lk S s = 0)) (nI) (fun _ _ => True) 0 (by first | decide | omega) (trivial)
      (fun n a hP => by
        try dsimp only
        rw [sX6_was_4, fX6_was_4b]
        simp (disch := (first | assumption | trivial | omega)) only [lit, neg1, oI_s, addN, mulN, subN, clN, gdN, ltN, leN, eqN, nIo, oIn, oI_eq, divN, remN, giT, giF, lzE, prE, bdE, smL, smR, shlN, shrN, hasE, andN, orN, bit1, bit0, max7, min7, giTr, giFa, gdp, litL, i2l, addL, mulL, divL, remL, cmLe, cmGt, cmGe, cmEq, eqL])
      (fun n k a hk hP => by
        try dsimp only at hP ⊢
        have hp2 := p2s (k := k) (by omega)
        have hl := lk_lt h hk
        refine ⟨?_, trivial⟩
        rw [sX6_was_4, fX6_was_4b]
        by_cases c : lk S k = 0
        · rw [bst_n (fun x => x c)]
          simp (disch := (first | assumption | trivial | omega)) only [lk6 h, lit, neg1, oI_s, addN, mulN, subN, clN, gdN, ltN, leN, eqN, nIo, oIn, oI_eq, divN, remN, giT, giF, lzE, prE, bdE, smL, smR, shlN, shrN, hasE, andN, orN, bit1, bit0, max7, min7, giTr, giFa, gdp, litL, i2l, addL, mulL, divL, remL, cmLe, cmGt, cmGe, cmEq, eqL]
        · rw [bst_p c]
          simp (disch := (first | assumption | trivial | omega)) only [lk6 h, Nat.one_mul, lit, neg1, oI_s, addN, mulN, subN, clN, gdN, ltN, leN, eqN, nIo, oIn, oI_eq, divN, remN, giT, giF, lzE, prE, bdE, smL, smR, shlN, shrN, hasE, andN, orN, bit1, bit0, max7, min7, giTr, giFa, gdp, litL, i2l, addL, mulL, divL, remL, cmLe, cmGt, cmGe, cmEq, eqL])
  have b6 : itr (bst (fun s => ¬ lk S s = 0)) 0 5 0 < 32 := bst_lt5 5 0 0 (by decide) (by decide)
  have c6 : ∀ i, i < 5 → ((itr (bst (fun s => ¬ lk S s = 0)) 0 5 0).testBit i = true ↔ ¬ lk S i = 0) := by
    intro i hi
    rw [bst_bits]
    simp [hi]
  have e6 := R6.1
  try dsimp only at e6
  generalize itr (bst (fun s => ¬ lk S s = 0)) 0 5 0 = W0 at e6 b6 c6
  have R2 := lp_run (fun n k (a : Nat) => fX6_was_31 n (nI a) (nI k) IC) (S 0 0) (fun k a => if pd k = 0 then a else if pd k = 1 then a &&& S 3 k else andn a (S 3 k)) (nI) (fun k a => a < 32 ∧ ∀ i, i < 5 → (a.testBit i = true ↔ ¬ lk S i = 0 ∧ ∀ b, b < k → pd b = 0 ∨ ((S 3 b).testBit i = true ↔ pd b = 1))) W0 (by first | decide | omega) (⟨b6, fun i hi => (c6 i hi).trans ⟨fun x => ⟨x, fun b hb => absurd hb (by omega)⟩, fun x => x.1⟩⟩)
      (fun n a hP => by
        try dsimp only
        rw [sX6_was_31, fX6_was_31b]
        simp (disch := (first | assumption | trivial | omega)) only [v_nb6 h, lit, neg1, oI_s, addN, mulN, subN, clN, gdN, ltN, leN, eqN, nIo, oIn, oI_eq, divN, remN, giT, giF, lzE, prE, bdE, smL, smR, shlN, shrN, hasE, andN, orN, bit1, bit0, max7, min7, giTr, giFa, gdp, litL, i2l, addL, mulL, divL, remL, cmLe, cmGt, cmGe, cmEq, eqL])
      (fun n k a hk hP => by
        try dsimp only at hP ⊢
        have hwk := (b_bu h (b := k) (by omega)).1
        obtain ⟨q1, q2, q3, q4⟩ := p6 k (by omega)
        obtain ⟨r1, r2⟩ := hP
        rw [sX6_was_31, fX6_was_31b]
        by_cases c1 : pd k = 0
        · have t1 : ¬ t.testBit k = true := fun x => q3.mp x c1
          rw [if_pos c1]
          refine ⟨?_, r1, fun i hi => (r2 i hi).trans ⟨fun x => ⟨x.1, fun b hb => ?_⟩, fun x => ⟨x.1, fun b hb => x.2 b (by omega)⟩⟩⟩
          · simp (disch := (first | assumption | trivial | omega)) only [v_nb6 h, p3, lit, neg1, oI_s, addN, mulN, subN, clN, gdN, ltN, leN, eqN, nIo, oIn, oI_eq, divN, remN, giT, giF, lzE, prE, bdE, smL, smR, shlN, shrN, hasE, andN, orN, bit1, bit0, max7, min7, giTr, giFa, gdp, litL, i2l, addL, mulL, divL, remL, cmLe, cmGt, cmGe, cmEq, eqL]
          · by_cases e : b = k
            · subst e; exact Or.inl c1
            · exact x.2 b (by omega)
        · have t1 : t.testBit k = true := q3.mpr c1
          rw [if_neg c1]
          by_cases c2 : pd k = 1
          · have t2 : d.testBit k = true := q4.mpr c2
            rw [if_pos c2]
            refine ⟨?_, Nat.lt_of_le_of_lt Nat.and_le_left r1, fun i hi => ?_⟩
            · simp (disch := (first | assumption | trivial | omega)) only [v_nb6 h, v_wa6 h, p3, p4, lit, neg1, oI_s, addN, mulN, subN, clN, gdN, ltN, leN, eqN, nIo, oIn, oI_eq, divN, remN, giT, giF, lzE, prE, bdE, smL, smR, shlN, shrN, hasE, andN, orN, bit1, bit0, max7, min7, giTr, giFa, gdp, litL, i2l, addL, mulL, divL, remL, cmLe, cmGt, cmGe, cmEq, eqL]
            · rw [Nat.testBit_and, Bool.and_eq_true, r2 i hi]
              constructor
              · rintro ⟨⟨x, y⟩, z⟩
                refine ⟨x, fun b hb => ?_⟩
                by_cases e : b = k
                · subst e; exact Or.inr ⟨fun _ => c2, fun _ => z⟩
                · exact y b (by omega)
              · rintro ⟨x, y⟩
                refine ⟨⟨x, fun b hb => y b (by omega)⟩, ?_⟩
                rcases y k (by omega) with z | z
                · exact absurd z c1
                · exact z.mpr c2
          · have t2 : ¬ d.testBit k = true := fun x => c2 (q4.mp x)
            rw [if_neg c2]
            refine ⟨?_, Nat.lt_of_le_of_lt andn_le r1, fun i hi => ?_⟩
            · simp (disch := (first | assumption | trivial | omega)) only [v_nb6 h, v_wa6 h, p3, p4, notN', andn, lit, neg1, oI_s, addN, mulN, subN, clN, gdN, ltN, leN, eqN, nIo, oIn, oI_eq, divN, remN, giT, giF, lzE, prE, bdE, smL, smR, shlN, shrN, hasE, andN, orN, bit1, bit0, max7, min7, giTr, giFa, gdp, litL, i2l, addL, mulL, divL, remL, cmLe, cmGt, cmGe, cmEq, eqL]
            · rw [andn_bit (by omega) (by omega), r2 i hi]
              constructor
              · rintro ⟨⟨x, y⟩, z⟩
                refine ⟨x, fun b hb => ?_⟩
                by_cases e : b = k
                · subst e; exact Or.inr ⟨fun w => absurd w z, fun w => absurd w c2⟩
                · exact y b (by omega)
              · rintro ⟨x, y⟩
                refine ⟨⟨x, fun b hb => y b (by omega)⟩, ?_⟩
                rcases y k (by omega) with z | z
                · exact absurd z c1
                · exact fun w => c2 (z.mp w))
  unfold fX6_was
  obtain ⟨e2, f2, g2⟩ := R2
  try dsimp only at e2 f2 g2
  simp (disch := (first | assumption | trivial | omega)) only [e6, e2, lit, neg1, oI_s, addN, mulN, subN, clN, gdN, ltN, leN, eqN, nIo, oIn, oI_eq, divN, remN, giT, giF, lzE, prE, bdE, smL, smR, shlN, shrN, hasE, andN, orN, bit1, bit0, max7, min7, giTr, giFa, gdp, litL, i2l, addL, mulL, divL, remL, cmLe, cmGt, cmGe, cmEq, eqL]
  exact congrArg (fun x => some (nI x)) (bits_eq (n := 5) f2 (fF_lt S pd) (fun i hi => (g2 i hi).trans (fF_bit hi).symm))
/-- how likely a set of sorts is -/
def los (S : Nat → Nat → Nat) (x k : Nat) : Nat := if x.testBit k = true then lk S k else 0
def lss (S : Nat → Nat → Nat) (x : Nat) : Nat := los S x 0 + los S x 1 + los S x 2 + los S x 3 + los S x 4
theorem los_lt (h : sv S IC IM) (x : Nat) (hk : k < 5) : los S x k < 10 := by
  unfold los
  have := lk_lt h hk
  split <;> omega
theorem lss_lt (h : sv S IC IM) (x : Nat) : lss S x < 50 := by
  have := los_lt h x (k := 0) (by decide)
  have := los_lt h x (k := 1) (by decide)
  have := los_lt h x (k := 2) (by decide)
  have := los_lt h x (k := 3) (by decide)
  have := los_lt h x (k := 4) (by decide)
  unfold lss
  omega
theorem lss_ge (x : Nat) (hk : k < 5) (hx : x.testBit k = true) : lk S k ≤ lss S x := by
  have e : los S x k = lk S k := if_pos hx
  have : k = 0 ∨ k = 1 ∨ k = 2 ∨ k = 3 ∨ k = 4 := by omega
  unfold lss
  rcases this with rfl | rfl | rfl | rfl | rfl <;> omega
theorem lss_mono {x y : Nat} (hxy : ∀ i, i < 5 → x.testBit i = true → y.testBit i = true) : lss S x ≤ lss S y := by
  have e : ∀ k, k < 5 → los S x k ≤ los S y k := by
    intro k hk
    unfold los
    by_cases c : x.testBit k = true
    · rw [if_pos c, if_pos (hxy k hk c)]; exact Nat.le_refl _
    · rw [if_neg c]; exact Nat.zero_le _
  have := e 0 (by decide)
  have := e 1 (by decide)
  have := e 2 (by decide)
  have := e 3 (by decide)
  have := e 4 (by decide)
  unfold lss
  omega
theorem os7 (h : sv S IC IM) {x : Nat} (hx : x < 2147483648) : fX7_oddsOfSet (nI x) IM = some (nI (lss S x)) := by
  have R7 := lp_run (fun n k (a : Nat) => fX7_oddsOfSet_4 n (nI x) (nI a) (nI k) IM) (5) (fun k a => a + los S x k) (nI) (fun k a => a ≤ 10 * k) 0 (by first | decide | omega) (by omega)
      (fun n a hP => by
        try dsimp only
        rw [sX7_oddsOfSet_4, fX7_oddsOfSet_4b]
        simp (disch := (first | assumption | trivial | omega)) only [lit, neg1, oI_s, addN, mulN, subN, clN, gdN, ltN, leN, eqN, nIo, oIn, oI_eq, divN, remN, giT, giF, lzE, prE, bdE, smL, smR, shlN, shrN, hasE, andN, orN, bit1, bit0, max7, min7, giTr, giFa, gdp, litL, i2l, addL, mulL, divL, remL, cmLe, cmGt, cmGe, cmEq, eqL])
      (fun n k a hk hP => by
        try dsimp only at hP ⊢
        have hl := los_lt h x hk
        refine ⟨?_, by omega⟩
        rw [sX7_oddsOfSet_4, fX7_oddsOfSet_4b]
        unfold fX7_has los
        by_cases c : x.testBit k = true
        · rw [if_pos c]
          simp (disch := (first | assumption | trivial | omega)) only [lk7 h, lit, neg1, oI_s, addN, mulN, subN, clN, gdN, ltN, leN, eqN, nIo, oIn, oI_eq, divN, remN, giT, giF, lzE, prE, bdE, smL, smR, shlN, shrN, hasE, andN, orN, bit1, bit0, max7, min7, giTr, giFa, gdp, litL, i2l, addL, mulL, divL, remL, cmLe, cmGt, cmGe, cmEq, eqL]
        · rw [if_neg c]
          simp (disch := (first | assumption | trivial | omega)) only [lk7 h, Nat.add_zero, lit, neg1, oI_s, addN, mulN, subN, clN, gdN, ltN, leN, eqN, nIo, oIn, oI_eq, divN, remN, giT, giF, lzE, prE, bdE, smL, smR, shlN, shrN, hasE, andN, orN, bit1, bit0, max7, min7, giTr, giFa, gdp, litL, i2l, addL, mulL, divL, remL, cmLe, cmGt, cmGe, cmEq, eqL])
  unfold fX7_oddsOfSet
  simp (disch := (first | assumption | trivial | omega)) only [R7.1, lit, neg1, oI_s, addN, mulN, subN, clN, gdN, ltN, leN, eqN, nIo, oIn, oI_eq, divN, remN, giT, giF, lzE, prE, bdE, smL, smR, shlN, shrN, hasE, andN, orN, bit1, bit0, max7, min7, giTr, giFa, gdp, litL, i2l, addL, mulL, divL, remL, cmLe, cmGt, cmGe, cmEq, eqL]
  simp [itr, lss]
theorem os6 (h : sv S IC IM) {x : Nat} (hx : x < 2147483648) : fX6_likelihoodOf (nI x) IC = some (nI (lss S x)) := by
  have R6 := lp_run (fun n k (a : Nat) => fX6_likelihoodOf_4 n (nI x) (nI a) (nI k) IC) (5) (fun k a => a + los S x k) (nI) (fun k a => a ≤ 10 * k) 0 (by first | decide | omega) (by omega)
      (fun n a hP => by
        try dsimp only
        rw [sX6_likelihoodOf_4, fX6_likelihoodOf_4b]
        simp (disch := (first | assumption | trivial | omega)) only [lit, neg1, oI_s, addN, mulN, subN, clN, gdN, ltN, leN, eqN, nIo, oIn, oI_eq, divN, remN, giT, giF, lzE, prE, bdE, smL, smR, shlN, shrN, hasE, andN, orN, bit1, bit0, max7, min7, giTr, giFa, gdp, litL, i2l, addL, mulL, divL, remL, cmLe, cmGt, cmGe, cmEq, eqL])
      (fun n k a hk hP => by
        try dsimp only at hP ⊢
        have hl := los_lt h x hk
        refine ⟨?_, by omega⟩
        rw [sX6_likelihoodOf_4, fX6_likelihoodOf_4b]
        unfold los
        by_cases c : x.testBit k = true
        · rw [if_pos c]
          simp (disch := (first | assumption | trivial | omega)) only [lk6 h, lit, neg1, oI_s, addN, mulN, subN, clN, gdN, ltN, leN, eqN, nIo, oIn, oI_eq, divN, remN, giT, giF, lzE, prE, bdE, smL, smR, shlN, shrN, hasE, andN, orN, bit1, bit0, max7, min7, giTr, giFa, gdp, litL, i2l, addL, mulL, divL, remL, cmLe, cmGt, cmGe, cmEq, eqL]
        · rw [if_neg c]
          simp (disch := (first | assumption | trivial | omega)) only [lk6 h, Nat.add_zero, lit, neg1, oI_s, addN, mulN, subN, clN, gdN, ltN, leN, eqN, nIo, oIn, oI_eq, divN, remN, giT, giF, lzE, prE, bdE, smL, smR, shlN, shrN, hasE, andN, orN, bit1, bit0, max7, min7, giTr, giFa, gdp, litL, i2l, addL, mulL, divL, remL, cmLe, cmGt, cmGe, cmEq, eqL])
  unfold fX6_likelihoodOf
  simp (disch := (first | assumption | trivial | omega)) only [R6.1, lit, neg1, oI_s, addN, mulN, subN, clN, gdN, ltN, leN, eqN, nIo, oIn, oI_eq, divN, remN, giT, giF, lzE, prE, bdE, smL, smR, shlN, shrN, hasE, andN, orN, bit1, bit0, max7, min7, giTr, giFa, gdp, litL, i2l, addL, mulL, divL, remL, cmLe, cmGt, cmGe, cmEq, eqL]
  simp [itr, lss]
theorem ke67 (h : sv S IC IM) (hp : pdv IC IM t d pd) : ∃ a, a ≤ 5 ∧ (a = 0 ∨ ft S pd (a - 1)) ∧ fX6_likeliest IC = some (oI a) ∧ fX7_likeliestNow IM = some (oI a) := by
  have hF := fF_lt S pd
  have R7 := lp_run (fun n k (a : Nat) => fX7_likeliestNow_4 n (oI a) (nI k) IM) (5) (fun k a => @ite _ (ft S pd k ∧ (a = 0 ∨ lk S (a - 1) < lk S k)) (Classical.propDecidable _) (k + 1) a) (oI) (fun k a => a ≤ k ∧ (a = 0 ∨ ft S pd (a - 1))) 0 (by first | decide | omega) (⟨by omega, Or.inl rfl⟩)
      (fun n a hP => by
        try dsimp only
        rw [sX7_likeliestNow_4, fX7_likeliestNow_4b]
        simp (disch := (first | assumption | trivial | omega)) only [lit, neg1, oI_s, addN, mulN, subN, clN, gdN, ltN, leN, eqN, nIo, oIn, oI_eq, divN, remN, giT, giF, lzE, prE, bdE, smL, smR, shlN, shrN, hasE, andN, orN, bit1, bit0, max7, min7, giTr, giFa, gdp, litL, i2l, addL, mulL, divL, remL, cmLe, cmGt, cmGe, cmEq, eqL])
      (fun n k a hk hP => by
        try dsimp only at hP ⊢
        have hl := lk_lt h hk
        rw [sX7_likeliestNow_4, fX7_likeliestNow_4b]
        by_cases c : ft S pd k
        · by_cases c0 : a = 0
          · rw [if_pos ⟨c, Or.inl c0⟩]
            refine ⟨?_, by omega, Or.inr c⟩
            subst c0
            simp (disch := (first | assumption | trivial | omega)) only [df7p h hp hk c, lit, neg1, oI_s, addN, mulN, subN, clN, gdN, ltN, leN, eqN, nIo, oIn, oI_eq, divN, remN, giT, giF, lzE, prE, bdE, smL, smR, shlN, shrN, hasE, andN, orN, bit1, bit0, max7, min7, giTr, giFa, gdp, litL, i2l, addL, mulL, divL, remL, cmLe, cmGt, cmGe, cmEq, eqL]
          · obtain ⟨b, rfl⟩ : ∃ b, a = b + 1 := ⟨a - 1, by omega⟩
            have hl2 := lk_lt h (s := b) (by omega)
            rw [Nat.add_sub_cancel] at *
            by_cases c1 : lk S b < lk S k
            · rw [if_pos ⟨c, Or.inr c1⟩]
              refine ⟨?_, by omega, Or.inr c⟩
              simp (disch := (first | assumption | trivial | omega)) only [df7p h hp hk c, lk7 h, lit, neg1, oI_s, addN, mulN, subN, clN, gdN, ltN, leN, eqN, nIo, oIn, oI_eq, divN, remN, giT, giF, lzE, prE, bdE, smL, smR, shlN, shrN, hasE, andN, orN, bit1, bit0, max7, min7, giTr, giFa, gdp, litL, i2l, addL, mulL, divL, remL, cmLe, cmGt, cmGe, cmEq, eqL]
            · rw [if_neg (fun x => x.2.elim c0 c1)]
              refine ⟨?_, by omega, hP.2⟩
              simp (disch := (first | assumption | trivial | omega)) only [df7p h hp hk c, lk7 h, lit, neg1, oI_s, addN, mulN, subN, clN, gdN, ltN, leN, eqN, nIo, oIn, oI_eq, divN, remN, giT, giF, lzE, prE, bdE, smL, smR, shlN, shrN, hasE, andN, orN, bit1, bit0, max7, min7, giTr, giFa, gdp, litL, i2l, addL, mulL, divL, remL, cmLe, cmGt, cmGe, cmEq, eqL]
        · rw [if_neg (fun x => c x.1)]
          refine ⟨?_, by omega, hP.2⟩
          simp (disch := (first | assumption | trivial | omega)) only [df7n h hp hk c, lit, neg1, oI_s, addN, mulN, subN, clN, gdN, ltN, leN, eqN, nIo, oIn, oI_eq, divN, remN, giT, giF, lzE, prE, bdE, smL, smR, shlN, shrN, hasE, andN, orN, bit1, bit0, max7, min7, giTr, giFa, gdp, litL, i2l, addL, mulL, divL, remL, cmLe, cmGt, cmGe, cmEq, eqL])
  have R6 := lp_run (fun n k (a : Nat) => fX6_likeliest_9 n (nI (fF S pd)) (oI a) (nI k) IC) (5) (fun k a => @ite _ (ft S pd k ∧ (a = 0 ∨ lk S (a - 1) < lk S k)) (Classical.propDecidable _) (k + 1) a) (oI) (fun k a => a ≤ k) 0 (by first | decide | omega) (by omega)
      (fun n a hP => by
        try dsimp only
        rw [sX6_likeliest_9, fX6_likeliest_9b]
        simp (disch := (first | assumption | trivial | omega)) only [lit, neg1, oI_s, addN, mulN, subN, clN, gdN, ltN, leN, eqN, nIo, oIn, oI_eq, divN, remN, giT, giF, lzE, prE, bdE, smL, smR, shlN, shrN, hasE, andN, orN, bit1, bit0, max7, min7, giTr, giFa, gdp, litL, i2l, addL, mulL, divL, remL, cmLe, cmGt, cmGe, cmEq, eqL])
      (fun n k a hk hP => by
        try dsimp only at hP ⊢
        have hl := lk_lt h hk
        rw [sX6_likeliest_9, fX6_likeliest_9b]
        by_cases c : ft S pd k
        · have cb := (fF_bit hk).mpr c
          by_cases c0 : a = 0
          · rw [if_pos ⟨c, Or.inl c0⟩]
            refine ⟨?_, by omega⟩
            subst c0
            simp (disch := (first | assumption | trivial | omega)) only [lit, neg1, oI_s, addN, mulN, subN, clN, gdN, ltN, leN, eqN, nIo, oIn, oI_eq, divN, remN, giT, giF, lzE, prE, bdE, smL, smR, shlN, shrN, hasE, andN, orN, bit1, bit0, max7, min7, giTr, giFa, gdp, litL, i2l, addL, mulL, divL, remL, cmLe, cmGt, cmGe, cmEq, eqL]
          · obtain ⟨b, rfl⟩ : ∃ b, a = b + 1 := ⟨a - 1, by omega⟩
            have hl2 := lk_lt h (s := b) (by omega)
            rw [Nat.add_sub_cancel] at *
            by_cases c1 : lk S b < lk S k
            · rw [if_pos ⟨c, Or.inr c1⟩]
              refine ⟨?_, by omega⟩
              simp (disch := (first | assumption | trivial | omega)) only [lk6 h, lit, neg1, oI_s, addN, mulN, subN, clN, gdN, ltN, leN, eqN, nIo, oIn, oI_eq, divN, remN, giT, giF, lzE, prE, bdE, smL, smR, shlN, shrN, hasE, andN, orN, bit1, bit0, max7, min7, giTr, giFa, gdp, litL, i2l, addL, mulL, divL, remL, cmLe, cmGt, cmGe, cmEq, eqL]
            · rw [if_neg (fun x => x.2.elim c0 c1)]
              refine ⟨?_, by omega⟩
              simp (disch := (first | assumption | trivial | omega)) only [lk6 h, lit, neg1, oI_s, addN, mulN, subN, clN, gdN, ltN, leN, eqN, nIo, oIn, oI_eq, divN, remN, giT, giF, lzE, prE, bdE, smL, smR, shlN, shrN, hasE, andN, orN, bit1, bit0, max7, min7, giTr, giFa, gdp, litL, i2l, addL, mulL, divL, remL, cmLe, cmGt, cmGe, cmEq, eqL]
        · have cb : ¬ (fF S pd).testBit k = true := fun x => c ((fF_bit hk).mp x)
          rw [if_neg (fun x => c x.1)]
          refine ⟨?_, by omega⟩
          simp (disch := (first | assumption | trivial | omega)) only [lit, neg1, oI_s, addN, mulN, subN, clN, gdN, ltN, leN, eqN, nIo, oIn, oI_eq, divN, remN, giT, giF, lzE, prE, bdE, smL, smR, shlN, shrN, hasE, andN, orN, bit1, bit0, max7, min7, giTr, giFa, gdp, litL, i2l, addL, mulL, divL, remL, cmLe, cmGt, cmGe, cmEq, eqL])
  obtain ⟨e7, l7, f7⟩ := R7
  have e6 := R6.1
  try dsimp only at e6 e7 l7 f7
  refine ⟨_, l7, f7, ?_, ?_⟩
  · unfold fX6_likeliest
    simp (disch := (first | assumption | trivial | omega)) only [wa6 h hp, e6, lit, neg1, oI_s, addN, mulN, subN, clN, gdN, ltN, leN, eqN, nIo, oIn, oI_eq, divN, remN, giT, giF, lzE, prE, bdE, smL, smR, shlN, shrN, hasE, andN, orN, bit1, bit0, max7, min7, giTr, giFa, gdp, litL, i2l, addL, mulL, divL, remL, cmLe, cmGt, cmGe, cmEq, eqL]
  · unfold fX7_likeliestNow
    simp (disch := (first | assumption | trivial | omega)) only [e7, lit, neg1, oI_s, addN, mulN, subN, clN, gdN, ltN, leN, eqN, nIo, oIn, oI_eq, divN, remN, giT, giF, lzE, prE, bdE, smL, smR, shlN, shrN, hasE, andN, orN, bit1, bit0, max7, min7, giTr, giFa, gdp, litL, i2l, addL, mulL, divL, remL, cmLe, cmGt, cmGe, cmEq, eqL]
theorem low01 (x : Int32) : (x = 0 → fX6_lowest (lN 0) (lN 1) x = some (lN 0)) ∧ (¬ x = 0 → fX6_lowest (lN 0) (lN 1) x = some (lN 1)) := by
  have e6 := low_lp (lN 0) (lN 1) x 0 1 0 0 FU (by decide) (by decide) (by decide) (by decide) (by decide)
  constructor
  · intro hx
    unfold fX6_lowest
    rw [show (0 : Int32) = nI 0 from rfl, e6, bdE]
    subst hx
    simp (disch := (first | assumption | trivial | omega)) only [lit, neg1, oI_s, addN, mulN, subN, clN, gdN, ltN, leN, eqN, nIo, oIn, oI_eq, divN, remN, giT, giF, lzE, prE, bdE, smL, smR, shlN, shrN, hasE, andN, orN, bit1, bit0, max7, min7, giTr, giFa, gdp, litL, i2l, addL, mulL, divL, remL, cmLe, cmGt, cmGe, cmEq, eqL]
    rfl
  · intro hx
    have hx' : ¬ x = nI 0 := hx
    unfold fX6_lowest
    rw [show (0 : Int32) = nI 0 from rfl, e6, bdE]
    simp (disch := (first | assumption | trivial | omega)) only [lit, neg1, oI_s, addN, mulN, subN, clN, gdN, ltN, leN, eqN, nIo, oIn, oI_eq, divN, remN, giT, giF, lzE, prE, bdE, smL, smR, shlN, shrN, hasE, andN, orN, bit1, bit0, max7, min7, giTr, giFa, gdp, litL, i2l, addL, mulL, divL, remL, cmLe, cmGt, cmGe, cmEq, eqL]
    rfl
theorem gp7 (h : sv S IC IM) (hp : pdv IC IM t d pd) (hb : b < 6) : fX7_greaterPart (nI b) IM = some (nI (max (lss S (fF S pd &&& S 3 b)) (lss S (andn (fF S pd) (S 3 b))))) := by
  have hF := fF_lt S pd
  have hw := b_bu h hb
  have a1 : fF S pd &&& S 3 b ≤ fF S pd := Nat.and_le_left
  have a2 : andn (fF S pd) (S 3 b) ≤ fF S pd := andn_le
  have l1 := lss_lt h (fF S pd &&& S 3 b)
  have l2 := lss_lt h (andn (fF S pd) (S 3 b))
  have e : nI (fF S pd) &&& (nI (S 3 b) ^^^ -1) = nI (andn (fF S pd) (S 3 b)) := by
    rw [notN _ (by omega), andN]; rfl
  unfold fX7_greaterPart
  rw [fi7 h hp, bdE, gdp (by rw [show (39 : Int32) = nI 39 from rfl, addN]; exact vp_in_nI (by omega) (by decide)), show (39 : Int32) = nI 39 from rfl, addN, clN (by omega), v_wa7 h hb, andN, os7 h (by omega), bdE, bdE, e, os7 h (by omega), bdE]
  by_cases c : lss S (fF S pd &&& S 3 b) ≤ lss S (andn (fF S pd) (S 3 b))
  · rw [Nat.max_eq_right c]; simp (disch := (first | assumption | trivial | omega)) only [lit, neg1, oI_s, addN, mulN, subN, clN, gdN, ltN, leN, eqN, nIo, oIn, oI_eq, divN, remN, giT, giF, lzE, prE, bdE, smL, smR, shlN, shrN, hasE, andN, orN, bit1, bit0, max7, min7, giTr, giFa, gdp, litL, i2l, addL, mulL, divL, remL, cmLe, cmGt, cmGe, cmEq, eqL]
  · rw [Nat.max_eq_left (by omega)]; simp (disch := (first | assumption | trivial | omega)) only [lit, neg1, oI_s, addN, mulN, subN, clN, gdN, ltN, leN, eqN, nIo, oIn, oI_eq, divN, remN, giT, giF, lzE, prE, bdE, smL, smR, shlN, shrN, hasE, andN, orN, bit1, bit0, max7, min7, giTr, giFa, gdp, litL, i2l, addL, mulL, divL, remL, cmLe, cmGt, cmGe, cmEq, eqL]
end WA
theorem case_28 : st_28 V0 := by
  intro IC IM JM hV
  obtain ⟨S, h⟩ := view hV
  obtain ⟨t, d, pd, hp⟩ : ∃ t d pd, pdv IC IM t d pd := by
    obtain ⟨nb, nt, mb, mt, h1, ⟨p1, p2, p3, p4, p5, p6, p7, p8, p9⟩, h3, h4, h5⟩ := hV
    exact paid_view p2
  refine ⟨nI (fF S pd), wa6 h hp, ?_, hV⟩
  unfold fX7_was
  simp (disch := (first | assumption | trivial | omega)) only [fi7 h hp, lit, neg1, oI_s, addN, mulN, subN, clN, gdN, ltN, leN, eqN, nIo, oIn, oI_eq, divN, remN, giT, giF, lzE, prE, bdE, smL, smR, shlN, shrN, hasE, andN, orN, bit1, bit0, max7, min7, giTr, giFa, gdp, litL, i2l, addL, mulL, divL, remL, cmLe, cmGt, cmGe, cmEq, eqL]
theorem case_30 : st_30 V0 := by
  intro IC IM JM hV
  obtain ⟨S, h⟩ := view hV
  obtain ⟨t, d, pd, hp⟩ : ∃ t d pd, pdv IC IM t d pd := by
    obtain ⟨nb, nt, mb, mt, h1, ⟨p1, p2, p3, p4, p5, p6, p7, p8, p9⟩, h3, h4, h5⟩ := hV
    exact paid_view p2
  obtain ⟨a, _, _, e6, e7⟩ := ke67 h hp
  refine ⟨oI a, e6, ?_, hV⟩
  unfold fX7_likeliest
  simp (disch := (first | assumption | trivial | omega)) only [e7, lit, neg1, oI_s, addN, mulN, subN, clN, gdN, ltN, leN, eqN, nIo, oIn, oI_eq, divN, remN, giT, giF, lzE, prE, bdE, smL, smR, shlN, shrN, hasE, andN, orN, bit1, bit0, max7, min7, giTr, giFa, gdp, litL, i2l, addL, mulL, divL, remL, cmLe, cmGt, cmGe, cmEq, eqL]
theorem case_29 : st_29 V0 := by
  intro a1 IC IM JM hV
  obtain ⟨S, h⟩ := view hV
  obtain ⟨t, d, pd, hp⟩ : ∃ t d pd, pdv IC IM t d pd := by
    obtain ⟨nb, nt, mb, mt, h1, ⟨p1, p2, p3, p4, p5, p6, p7, p8, p9⟩, h3, h4, h5⟩ := hV
    exact paid_view p2
  have hF := fF_lt S pd
  obtain ⟨a, ha, hf, e6, e7⟩ := ke67 h hp
  by_cases c0 : a = 0
  · subst c0
    by_cases cx : bz a1 = 0
    · refine ⟨lN 0, ?_, ?_, hV⟩
      · unfold fX6_surest
        rw [e6, bdE, gi_pos (show oI 0 = (-1 : Int32) from rfl), show (0 : Int64) = lN 0 from rfl, show (1 : Int64) = lN 1 from rfl, (low01 (bz a1)).1 cx, bdE]
      · unfold fX7_surest
        rw [e7, bdE, gi_pos (show oI 0 = (-1 : Int32) from rfl), gi_pos cx]
        rfl
    · refine ⟨lN 1, ?_, ?_, hV⟩
      · unfold fX6_surest
        rw [e6, bdE, gi_pos (show oI 0 = (-1 : Int32) from rfl), show (0 : Int64) = lN 0 from rfl, show (1 : Int64) = lN 1 from rfl, (low01 (bz a1)).2 cx, bdE]
      · unfold fX7_surest
        rw [e7, bdE, gi_pos (show oI 0 = (-1 : Int32) from rfl), gi_neg cx]
        rfl
  · obtain ⟨s, rfl⟩ : ∃ s, a = s + 1 := ⟨a - 1, by omega⟩
    rw [Nat.add_sub_cancel] at hf
    have hs : s < 5 := by omega
    have hf : ft S pd s := hf.resolve_left c0
    have hl := lk_lt h hs
    have h1 := hf.1
    have h2 := lss_ge (S := S) (fF S pd) hs ((fF_bit hs).mpr hf)
    have h3 := lss_lt h (fF S pd)
    obtain ⟨r, r6, r7⟩ := low67 (up := lk S s) (down := lss S (fF S pd)) (bz a1) (by omega) (by omega) (by omega)
    refine ⟨r, ?_, ?_, hV⟩
    · unfold fX6_surest
      simp (disch := (first | assumption | trivial | omega)) only [e6, lk6 h, wa6 h hp, os6 h, r6, lit, neg1, oI_s, addN, mulN, subN, clN, gdN, ltN, leN, eqN, nIo, oIn, oI_eq, divN, remN, giT, giF, lzE, prE, bdE, smL, smR, shlN, shrN, hasE, andN, orN, bit1, bit0, max7, min7, giTr, giFa, gdp, litL, i2l, addL, mulL, divL, remL, cmLe, cmGt, cmGe, cmEq, eqL]
    · unfold fX7_surest
      simp (disch := (first | assumption | trivial | omega)) only [e7, lk7 h, fi7 h hp, os7 h, r7, lit, neg1, oI_s, addN, mulN, subN, clN, gdN, ltN, leN, eqN, nIo, oIn, oI_eq, divN, remN, giT, giF, lzE, prE, bdE, smL, smR, shlN, shrN, hasE, andN, orN, bit1, bit0, max7, min7, giTr, giFa, gdp, litL, i2l, addL, mulL, divL, remL, cmLe, cmGt, cmGe, cmEq, eqL]
theorem case_31 : st_31 V0 := by
  intro IC IM JM hV
  obtain ⟨S, h⟩ := view hV
  obtain ⟨t, d, pd, hp⟩ : ∃ t d pd, pdv IC IM t d pd := by
    obtain ⟨nb, nt, mb, mt, h1, ⟨p1, p2, p3, p4, p5, p6, p7, p8, p9⟩, h3, h4, h5⟩ := hV
    exact paid_view p2
  have hn := b_nb h
  have hF := fF_lt S pd
  have hpc := pc_le (fF S pd)
  have hl := lss_lt h (fF S pd)
  have p3 := hp.2.2.1
  have t64 := hp.1
  have p6 := hp.2.2.2.2.2
  have gpl : ∀ b, max (lss S (fF S pd &&& S 3 b)) (lss S (andn (fF S pd) (S 3 b))) ≤ lss S (fF S pd) := by
    intro b
    have m1 : lss S (fF S pd &&& S 3 b) ≤ lss S (fF S pd) := lss_mono (fun i _ hx => by rw [Nat.testBit_and, Bool.and_eq_true] at hx; exact hx.1)
    have m2 : lss S (andn (fF S pd) (S 3 b)) ≤ lss S (fF S pd) := lss_mono (fun i _ hx => by unfold andn at hx; rw [Nat.testBit_and, Bool.and_eq_true] at hx; exact hx.1)
    omega
  have a1 : ∀ b, fF S pd &&& S 3 b ≤ fF S pd := fun b => Nat.and_le_left
  have a2 : ∀ b, andn (fF S pd) (S 3 b) ≤ fF S pd := fun b => andn_le
  have ea : ∀ b, b < 6 → nI (fF S pd) &&& (nI (S 3 b) ^^^ oI 0) = nI (andn (fF S pd) (S 3 b)) := by
    intro b hb
    have := (b_bu h hb).1
    rw [notN' _ (by omega), andN]; rfl
  have hg6 : ∀ b, b < 6 → fX6_likelihoodOf (nI (fF S pd) &&& nI (S 3 b)) IC = some (nI (lss S (fF S pd &&& S 3 b))) ∧ fX6_likelihoodOf (nI (fF S pd) &&& (nI (S 3 b) ^^^ -1)) IC = some (nI (lss S (andn (fF S pd) (S 3 b)))) := by
    intro b hb
    have b1 := a1 b
    have b2 := a2 b
    have e := ea b hb
    rw [show oI 0 = (-1 : Int32) from rfl] at e
    constructor
    · rw [andN, os6 h (by omega)]
    · rw [e, os6 h (by omega)]
  obtain ⟨gp, hgp⟩ : ∃ gp : Nat → Nat, gp = fun b => max (lss S (fF S pd &&& S 3 b)) (lss S (andn (fF S pd) (S 3 b))) := ⟨_, rfl⟩
  have gl : ∀ b, gp b ≤ lss S (fF S pd) := fun b => by rw [hgp]; exact gpl b
  have g7 : ∀ b, b < 6 → fX7_greaterPart (nI b) IM = some (nI (gp b)) := fun b hb => by rw [gp7 h hp hb, hgp]
  by_cases c2 : 2 ≤ pc (fF S pd)
  · have R7 := lp_run (fun n k (a : Nat) => fX7_ask_17 n (oI a) (nI k) IM) (S 0 0) (fun k a => if pd k = 0 ∧ (a = 0 ∨ gp k < gp (a - 1)) then k + 1 else a) (oI) (fun k a => a ≤ k) 0 (by first | decide | omega) (by omega)
      (fun n a hP => by
        try dsimp only
        rw [sX7_ask_17, fX7_ask_17b]
        simp (disch := (first | assumption | trivial | omega)) only [v_nb7 h, lit, neg1, oI_s, addN, mulN, subN, clN, gdN, ltN, leN, eqN, nIo, oIn, oI_eq, divN, remN, giT, giF, lzE, prE, bdE, smL, smR, shlN, shrN, hasE, andN, orN, bit1, bit0, max7, min7, giTr, giFa, gdp, litL, i2l, addL, mulL, divL, remL, cmLe, cmGt, cmGe, cmEq, eqL])
      (fun n k a hk hP => by
        try dsimp only at hP ⊢
        obtain ⟨q1, q2, q3, q4⟩ := p6 k (by omega)
        have gk := gl k
        rw [sX7_ask_17, fX7_ask_17b]
        by_cases c : pd k = 0
        · by_cases c0 : a = 0
          · rw [if_pos ⟨c, Or.inl c0⟩]
            refine ⟨?_, by omega⟩
            subst c0
            simp (disch := (first | assumption | trivial | omega)) only [v_nb7 h, q2, lit, neg1, oI_s, addN, mulN, subN, clN, gdN, ltN, leN, eqN, nIo, oIn, oI_eq, divN, remN, giT, giF, lzE, prE, bdE, smL, smR, shlN, shrN, hasE, andN, orN, bit1, bit0, max7, min7, giTr, giFa, gdp, litL, i2l, addL, mulL, divL, remL, cmLe, cmGt, cmGe, cmEq, eqL]
          · obtain ⟨b, rfl⟩ : ∃ b, a = b + 1 := ⟨a - 1, by omega⟩
            rw [Nat.add_sub_cancel] at *
            have gb := gl b
            by_cases c1 : gp k < gp b
            · rw [if_pos ⟨c, Or.inr c1⟩]
              refine ⟨?_, by omega⟩
              simp (disch := (first | assumption | trivial | omega)) only [v_nb7 h, q2, g7 k, g7 b, lit, neg1, oI_s, addN, mulN, subN, clN, gdN, ltN, leN, eqN, nIo, oIn, oI_eq, divN, remN, giT, giF, lzE, prE, bdE, smL, smR, shlN, shrN, hasE, andN, orN, bit1, bit0, max7, min7, giTr, giFa, gdp, litL, i2l, addL, mulL, divL, remL, cmLe, cmGt, cmGe, cmEq, eqL]
            · rw [if_neg (fun x => x.2.elim c0 c1)]
              refine ⟨?_, by omega⟩
              simp (disch := (first | assumption | trivial | omega)) only [v_nb7 h, q2, g7 k, g7 b, lit, neg1, oI_s, addN, mulN, subN, clN, gdN, ltN, leN, eqN, nIo, oIn, oI_eq, divN, remN, giT, giF, lzE, prE, bdE, smL, smR, shlN, shrN, hasE, andN, orN, bit1, bit0, max7, min7, giTr, giFa, gdp, litL, i2l, addL, mulL, divL, remL, cmLe, cmGt, cmGe, cmEq, eqL]
        · rw [if_neg (fun x => c x.1)]
          refine ⟨?_, by omega⟩
          simp (disch := (first | assumption | trivial | omega)) only [v_nb7 h, q2, lit, neg1, oI_s, addN, mulN, subN, clN, gdN, ltN, leN, eqN, nIo, oIn, oI_eq, divN, remN, giT, giF, lzE, prE, bdE, smL, smR, shlN, shrN, hasE, andN, orN, bit1, bit0, max7, min7, giTr, giFa, gdp, litL, i2l, addL, mulL, divL, remL, cmLe, cmGt, cmGe, cmEq, eqL])
    have R6 := lp_run (fun n k (a : Nat) => fX6_ask_28 n (nI (fF S pd)) (oI a) (nI (if a = 0 then lss S (fF S pd) + 1 else gp (a - 1))) (nI k) IC) (S 0 0) (fun k a => if pd k = 0 ∧ (a = 0 ∨ gp k < gp (a - 1)) then k + 1 else a) (oI) (fun k a => a ≤ k) 0 (by first | decide | omega) (by omega)
        (fun n a hP => by
          try dsimp only
          rw [sX6_ask_28, fX6_ask_28b]
          simp (disch := (first | assumption | trivial | omega)) only [v_nb6 h, lit, neg1, oI_s, addN, mulN, subN, clN, gdN, ltN, leN, eqN, nIo, oIn, oI_eq, divN, remN, giT, giF, lzE, prE, bdE, smL, smR, shlN, shrN, hasE, andN, orN, bit1, bit0, max7, min7, giTr, giFa, gdp, litL, i2l, addL, mulL, divL, remL, cmLe, cmGt, cmGe, cmEq, eqL])
        (fun n k a hk hP => by
          try dsimp only at hP ⊢
          obtain ⟨q1, q2, q3, q4⟩ := p6 k (by omega)
          have gk := gl k
          have hw := b_bu h (b := k) (by omega)
          have hgk := hg6 k (by omega)
          have hle : (if a = 0 then lss S (fF S pd) + 1 else gp (a - 1)) ≤ 50 := by
            have := gl (a - 1)
            split <;> omega
          have hq : (a = 0 ∨ gp k < gp (a - 1)) ↔ gp k < (if a = 0 then lss S (fF S pd) + 1 else gp (a - 1)) := by
            by_cases c0 : a = 0
            · rw [if_pos c0]; exact ⟨fun _ => by omega, fun _ => Or.inl c0⟩
            · rw [if_neg c0]; exact ⟨fun x => x.resolve_left c0, Or.inr⟩
          have hm : jmax (nI (lss S (fF S pd &&& S 3 k))) (nI (lss S (andn (fF S pd) (S 3 k)))) = nI (gp k) := by
            have l1 := lss_lt h (fF S pd &&& S 3 k)
            have l2 := lss_lt h (andn (fF S pd) (S 3 k))
            rw [max7 (by omega) (by omega), hgp]
          rw [sX6_ask_28, fX6_ask_28b]
          rw [gi_neg (c := IC 1 12 ≤ nI k) (by rw [v_nb6 h, leN (by omega) (by omega)]; omega), gdN (by omega) (by decide), clN (by omega), v_wa6 h (by omega), hgk.1, bdE, hgk.2, bdE, lzE, hm]
          by_cases c : pd k = 0
          · have t1 : ¬ t.testBit k = true := fun x => q3.mp x c
            by_cases c1 : gp k < (if a = 0 then lss S (fF S pd) + 1 else gp (a - 1))
            · rw [if_pos (c := pd k = 0 ∧ (a = 0 ∨ gp k < gp (a - 1))) ⟨c, hq.mpr c1⟩]
              refine ⟨?_, by omega⟩
              rw [if_neg (show ¬ k + 1 = 0 by omega), Nat.add_sub_cancel]
              simp (disch := (first | assumption | trivial | omega)) only [p3, lit, neg1, oI_s, addN, mulN, subN, clN, gdN, ltN, leN, eqN, nIo, oIn, oI_eq, divN, remN, giT, giF, lzE, prE, bdE, smL, smR, shlN, shrN, hasE, andN, orN, bit1, bit0, max7, min7, giTr, giFa, gdp, litL, i2l, addL, mulL, divL, remL, cmLe, cmGt, cmGe, cmEq, eqL]
            · rw [if_neg (c := pd k = 0 ∧ (a = 0 ∨ gp k < gp (a - 1))) (fun x => c1 (hq.mp x.2))]
              refine ⟨?_, by omega⟩
              simp (disch := (first | assumption | trivial | omega)) only [p3, lit, neg1, oI_s, addN, mulN, subN, clN, gdN, ltN, leN, eqN, nIo, oIn, oI_eq, divN, remN, giT, giF, lzE, prE, bdE, smL, smR, shlN, shrN, hasE, andN, orN, bit1, bit0, max7, min7, giTr, giFa, gdp, litL, i2l, addL, mulL, divL, remL, cmLe, cmGt, cmGe, cmEq, eqL]
          · have t1 : t.testBit k = true := q3.mpr c
            rw [if_neg (c := pd k = 0 ∧ (a = 0 ∨ gp k < gp (a - 1))) (fun x => c x.1)]
            refine ⟨?_, by omega⟩
            simp (disch := (first | assumption | trivial | omega)) only [p3, lit, neg1, oI_s, addN, mulN, subN, clN, gdN, ltN, leN, eqN, nIo, oIn, oI_eq, divN, remN, giT, giF, lzE, prE, bdE, smL, smR, shlN, shrN, hasE, andN, orN, bit1, bit0, max7, min7, giTr, giFa, gdp, litL, i2l, addL, mulL, divL, remL, cmLe, cmGt, cmGe, cmEq, eqL])
    refine ⟨(oI (itr (fun k a => if pd k = 0 ∧ (a = 0 ∨ gp k < gp (a - 1)) then k + 1 else a) 0 (S 0 0) 0)), ?_, ?_, hV⟩
    · have e6 : fX6_ask_28 FU (nI (fF S pd)) (oI 0) (nI (lss S (fF S pd) + 1)) (nI 0) IC = _ := R6.1
      unfold fX6_ask
      simp (disch := (first | assumption | trivial | omega)) only [wa6 h hp, bitCount6, os6 h, e6, lit, neg1, oI_s, addN, mulN, subN, clN, gdN, ltN, leN, eqN, nIo, oIn, oI_eq, divN, remN, giT, giF, lzE, prE, bdE, smL, smR, shlN, shrN, hasE, andN, orN, bit1, bit0, max7, min7, giTr, giFa, gdp, litL, i2l, addL, mulL, divL, remL, cmLe, cmGt, cmGe, cmEq, eqL]
    · unfold fX7_ask
      simp (disch := (first | assumption | trivial | omega)) only [fi7 h hp, bits7, R7.1, lit, neg1, oI_s, addN, mulN, subN, clN, gdN, ltN, leN, eqN, nIo, oIn, oI_eq, divN, remN, giT, giF, lzE, prE, bdE, smL, smR, shlN, shrN, hasE, andN, orN, bit1, bit0, max7, min7, giTr, giFa, gdp, litL, i2l, addL, mulL, divL, remL, cmLe, cmGt, cmGe, cmEq, eqL]
  · refine ⟨-1, ?_, ?_, hV⟩
    · unfold fX6_ask
      simp (disch := (first | assumption | trivial | omega)) only [wa6 h hp, bitCount6, lit, neg1, oI_s, addN, mulN, subN, clN, gdN, ltN, leN, eqN, nIo, oIn, oI_eq, divN, remN, giT, giF, lzE, prE, bdE, smL, smR, shlN, shrN, hasE, andN, orN, bit1, bit0, max7, min7, giTr, giFa, gdp, litL, i2l, addL, mulL, divL, remL, cmLe, cmGt, cmGe, cmEq, eqL]
    · unfold fX7_ask
      simp (disch := (first | assumption | trivial | omega)) only [fi7 h hp, bits7, lit, neg1, oI_s, addN, mulN, subN, clN, gdN, ltN, leN, eqN, nIo, oIn, oI_eq, divN, remN, giT, giF, lzE, prE, bdE, smL, smR, shlN, shrN, hasE, andN, orN, bit1, bit0, max7, min7, giTr, giFa, gdp, litL, i2l, addL, mulL, divL, remL, cmLe, cmGt, cmGe, cmEq, eqL]
