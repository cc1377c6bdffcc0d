-- 56: PURE PART: what is foretold (out of wip/whole/pure by pure.py)
/-- a day ahead: the class on its wall ahead, the reference without its book -/
theorem ah_ok (hE : EARN) {S : Nat → Nat → Nat} {C M : gI} (J : gJ) (g : sv S (fw 289 C) M) (ht : txs C M (S 0 1)) (hd : S 10 0 < 9999) (h3 : ∃ n, n < 26 ∧ C 289 3 = nI n) (h0 : M 0 23 = nI 0) : ∃ (C' M' : gI) (J' : gJ) (S' : Nat → Nat → Nat), fX6_dawnComes 289 C = some C' ∧ fX7_passDay M J = some (M', J') ∧ sv S' (fw 289 C') M' ∧ (S' 0 0 = S 0 0 ∧ S' 0 1 = S 0 1 ∧ S' 10 0 = S 10 0 + 1) ∧ (∃ n, n < 26 ∧ C' 289 3 = nI n) ∧ (∀ o, o < 288 ∨ 292 < o → C' o = C o) ∧ (∀ o, o ≠ 1 → o ≠ 6 → o ≠ 8 → M' o = M o) ∧ ∀ k, k < 6 ∨ k = 10 ∨ 29 ≤ k → M' 1 k = M 1 k := by
  have bw := b_w g
  obtain ⟨C2, M2, J2, s, x, pu, hs, hx, hpu, e6, e7, ⟨c7, c8, c6, c5, c4, c3⟩, cb, co, ⟨m6, m7, m8, m9⟩, ms, mb, mk, mo⟩ := day_ok hE (w := 289) J (Or.inr rfl) g ht hd
  obtain ⟨n, hn, c3'⟩ := h3
  obtain ⟨C3, m, w1, w2, w3, w4, w5, _⟩ := wr6 (w := 289) (IC := C2) (n := n) (d := S 10 0 + 1) (k := 3) (x := s) (q := 0) (by rw [c3]; exact c3') hn c7 (by omega) (by omega) (by omega) (by omega)
  obtain ⟨S2, e0, ⟨d0, d1, d2, d3, d4, d5⟩, e1, e2, e3⟩ := mkS S (S 10 0 + 1) x (S 10 2) s (S 10 4) 4095 (fun _ => 0) (fun _ => 0) pu
  have hC : ∀ o, o < 288 ∨ 292 < o → C3 o = C o := fun o ho => by
    rw [w2 o (by omega) (by omega), co o (by omega) (by omega) (by omega) (by omega)]
  refine ⟨C3, M2, J2, S2, by rw [e6, w1]; rfl, by rw [e7, wr7_0 (by rw [mo 0 (by omega) (by omega) (by omega)]; exact h0)]; rfl, ⟨?_, ?_⟩, ⟨by rw [e0 0 (by omega)], by rw [e0 0 (by omega)], d0⟩, ⟨m + 1, by omega, w5⟩, hC, mo, mk⟩
  · have hp : pv S (fw 289 C3) M2 := pv_eq g.1 (fun o ho => by rw [fw_o (by omega) (by omega) (by omega), fw_o (by omega) (by omega) (by omega), hC o (by omega)]) (fun k hk => mk k (by omega))
    have q0 : ∀ i, i < 8 → S2 i = S i := fun i hi => e0 i (by omega)
    unfold pv at hp ⊢
    rw [q0 0 (by omega), q0 1 (by omega), q0 2 (by omega), q0 3 (by omega), q0 4 (by omega), q0 5 (by omega), q0 6 (by omega), q0 7 (by omega)]
    exact hp
  · refine ⟨?_, ?_, fun j hj => ?_, fun b hb => ?_, fun b hb => ?_, fun i hi => ?_⟩
    · rw [d0, d1, d2, d3, d4, d5]
      exact ⟨by omega, hx, bw.2.2.1, hs, bw.2.2.2.2.1, by decide⟩
    · have z10 := v_ln7 g
      have z3 := v_ln6 g
      rw [fw_11 (k := 7) (by omega), fw_11 (k := 8) (by omega), fw_11 (k := 6) (by omega), fw_11 (k := 5) (by omega), fw_11 (k := 4) (by omega), d0, d1, d2, d3, d4, d5, w3 7 (by omega), w3 8 (by omega), w3 6 (by omega), w3 5 (by omega), w3 4 (by omega), mk 10 (by omega)]
      refine ⟨m6, c7, m7, c8, m8, c6, m9, c5, z10, ?_, c4⟩
      show C3 11 3 = _
      rw [hC 11 (by omega)]
      exact z3
    · rw [e1, d5]
      exact ⟨Or.inl (Nat.zero_le _), ms j hj, ⟨fun _ => rfl, fun _ => all12 j hj⟩⟩
    · rw [e1, e2]
      refine ⟨by show 0 < 4096; decide, ?_, fun j hj => ⟨fun q => ?_, fun q => absurd (show 0 = b + 1 from q) (by omega)⟩⟩
      · show C3 (289 + 2) b = _
        rw [w2 _ (by omega) (by omega)]; exact (cb b hb).2
      · rw [Nat.zero_testBit] at q; exact absurd q (by decide)
    · rw [e3]
      refine ⟨hpu b hb, mb b hb, ?_⟩
      show C3 (289 + 1) b = _
      rw [w2 _ (by omega) (by omega)]; exact (cb b hb).1
    · rw [d4] at hi
      have := b_bk g hi
      rw [mk _ (by omega), fw_o (by omega) (by omega) (by omega), hC _ (by omega)]
      rw [fw_o (by omega) (by omega) (by omega)] at this
      exact this
/-- the state while it looks ahead -/
def ahs (S0 : Nat → Nat → Nat) (C0 M0 : gI) (S : Nat → Nat → Nat) (C M : gI) : Prop := sv S (fw 289 C) M ∧ (S 0 0 = S0 0 0 ∧ S 0 1 = S0 0 1) ∧ (∃ n, n < 26 ∧ C 289 3 = nI n) ∧ (∀ o, o < 288 ∨ 292 < o → C o = C0 o) ∧ (∀ o, o ≠ 1 → o ≠ 6 → o ≠ 8 → M o = M0 o) ∧ ∀ k, k < 6 ∨ k = 10 ∨ 29 ≤ k → M 1 k = M0 1 k
theorem idle7 {M : gI} {J : gJ} {x : Int32} {N : Nat} (hN : N ≤ 60) (h : M 1 6 = nI 9999) : ∀ j k n, k + j = N → j < n → fX7_foretold_55 n (nI N) x (nI k) M J = some (M, J) := by
  intro j
  induction j with
  | zero =>
    intro k n hk hn
    obtain ⟨n, rfl⟩ : ∃ m, n = m + 1 := ⟨n - 1, by omega⟩
    have : k = N := by omega
    subst this
    rw [sX7_foretold_55, fX7_foretold_55b]
    simp (disch := (first | assumption | trivial | omega)) only [lit, neg1, oI_s, addN, mulN, subN, clN, gdN, ltN, leN, eqN, nIo, oIn, oI_eq, divN, remN, giT, giF, lzE, prE, bdE, smL, smR, shlN, shrN, hasE, andN, orN, bit1, bit0, max7, min7, giTr, giFa, gdp, litL, i2l, addL, mulL, divL, remL, cmLe, cmGt, cmGe, cmEq, eqL]
  | succ j ih =>
    intro k n hk hn
    obtain ⟨n, rfl⟩ : ∃ m, n = m + 1 := ⟨n - 1, by omega⟩
    rw [sX7_foretold_55, fX7_foretold_55b]
    simp (disch := (first | assumption | trivial | omega)) only [h, lit, neg1, oI_s, addN, mulN, subN, clN, gdN, ltN, leN, eqN, nIo, oIn, oI_eq, divN, remN, giT, giF, lzE, prE, bdE, smL, smR, shlN, shrN, hasE, andN, orN, bit1, bit0, max7, min7, giTr, giFa, gdp, litL, i2l, addL, mulL, divL, remL, cmLe, cmGt, cmGe, cmEq, eqL]
    exact ih (k + 1) n (by omega) (by omega)
theorem ahead_lp (hE : EARN) {S0 : Nat → Nat → Nat} {C0 M0 : gI} (ht : txs C0 M0 (S0 0 1)) (h0 : M0 0 23 = nI 0) {x : Int32} {N : Nat} (hN : N ≤ 60) : ∀ j k S C M J n6 n7, k + j = N → j < n6 → j < n7 → ahs S0 C0 M0 S C M → ∃ (C' M' : gI) (J' : gJ) (S' : Nat → Nat → Nat), fX6_foretold_37 n6 (nI N) x (nI k) C = some C' ∧ fX7_foretold_55 n7 (nI N) x (nI k) M J = some (M', J') ∧ ahs S0 C0 M0 S' C' M' := by
  intro j
  induction j with
  | zero =>
    intro k S C M J n6 n7 hk h6 h7 hP
    obtain ⟨n6, rfl⟩ : ∃ m, n6 = m + 1 := ⟨n6 - 1, by omega⟩
    obtain ⟨n7, rfl⟩ : ∃ m, n7 = m + 1 := ⟨n7 - 1, by omega⟩
    have : k = N := by omega
    subst this
    refine ⟨C, M, J, S, ?_, ?_, hP⟩
    · rw [sX6_foretold_37, fX6_foretold_37b]
      simp (disch := (first | assumption | trivial | omega)) only [lit, neg1, oI_s, addN, mulN, subN, clN, gdN, ltN, leN, eqN, nIo, oIn, oI_eq, divN, remN, giT, giF, lzE, prE, bdE, smL, smR, shlN, shrN, hasE, andN, orN, bit1, bit0, max7, min7, giTr, giFa, gdp, litL, i2l, addL, mulL, divL, remL, cmLe, cmGt, cmGe, cmEq, eqL]
    · rw [sX7_foretold_55, fX7_foretold_55b]
      simp (disch := (first | assumption | trivial | omega)) only [lit, neg1, oI_s, addN, mulN, subN, clN, gdN, ltN, leN, eqN, nIo, oIn, oI_eq, divN, remN, giT, giF, lzE, prE, bdE, smL, smR, shlN, shrN, hasE, andN, orN, bit1, bit0, max7, min7, giTr, giFa, gdp, litL, i2l, addL, mulL, divL, remL, cmLe, cmGt, cmGe, cmEq, eqL]
  | succ j ih =>
    intro k S C M J n6 n7 hk h6 h7 hP
    obtain ⟨n6, rfl⟩ : ∃ m, n6 = m + 1 := ⟨n6 - 1, by omega⟩
    have hP' := hP
    obtain ⟨g, ⟨q1, q2⟩, q3, q4, q5, q6⟩ := hP
    have bw := b_w g
    have e7 := v_da7 g
    have e6 : C 289 7 = nI (S 10 0) := by have z := v_da6 g; exact z
    by_cases c : S 10 0 < 9999
    · obtain ⟨n7, rfl⟩ : ∃ m, n7 = m + 1 := ⟨n7 - 1, by omega⟩
      obtain ⟨C1, M1, J1, S1, x6, x7, g1, ⟨r1, r2, r3⟩, r4, r5, r6, r7⟩ := ah_ok hE J g (fun t h => by
        rw [q2] at h
        exact rText_congr (ht t h) (fun k _ => q4 _ (by omega)) (fun k _ => by rw [q5 3 (by omega) (by omega) (by omega)])) c q3 (by rw [q5 0 (by omega) (by omega) (by omega)]; exact h0)
      obtain ⟨C2, M2, J2, S2, y6, y7, y8⟩ := ih (k + 1) S1 C1 M1 J1 n6 n7 (by omega) (by omega) (by omega) ⟨g1, ⟨r1.trans q1, r2.trans q2⟩, r4, fun o ho => (r5 o ho).trans (q4 o ho), fun o a b c => (r6 o a b c).trans (q5 o a b c), fun k hk => (r7 k hk).trans (q6 k hk)⟩
      refine ⟨C2, M2, J2, S2, ?_, ?_, y8⟩
      · rw [sX6_foretold_37, fX6_foretold_37b]
        simp (disch := (first | assumption | trivial | omega)) only [e6, x6, lit, neg1, oI_s, addN, mulN, subN, clN, gdN, ltN, leN, eqN, nIo, oIn, oI_eq, divN, remN, giT, giF, lzE, prE, bdE, smL, smR, shlN, shrN, hasE, andN, orN, bit1, bit0, max7, min7, giTr, giFa, gdp, litL, i2l, addL, mulL, divL, remL, cmLe, cmGt, cmGe, cmEq, eqL]
        exact y6
      · rw [sX7_foretold_55, fX7_foretold_55b]
        simp (disch := (first | assumption | trivial | omega)) only [e7, x7, lit, neg1, oI_s, addN, mulN, subN, clN, gdN, ltN, leN, eqN, nIo, oIn, oI_eq, divN, remN, giT, giF, lzE, prE, bdE, smL, smR, shlN, shrN, hasE, andN, orN, bit1, bit0, max7, min7, giTr, giFa, gdp, litL, i2l, addL, mulL, divL, remL, cmLe, cmGt, cmGe, cmEq, eqL]
        exact y7
    · have c2 : S 10 0 = 9999 := by omega
      refine ⟨C, M, J, S, ?_, idle7 hN (by rw [e7, c2]) (j + 1) k n7 hk h7, hP'⟩
      rw [sX6_foretold_37, fX6_foretold_37b]
      simp (disch := (first | assumption | trivial | omega)) only [e6, c2, lit, neg1, oI_s, addN, mulN, subN, clN, gdN, ltN, leN, eqN, nIo, oIn, oI_eq, divN, remN, giT, giF, lzE, prE, bdE, smL, smR, shlN, shrN, hasE, andN, orN, bit1, bit0, max7, min7, giTr, giFa, gdp, litL, i2l, addL, mulL, divL, remL, cmLe, cmGt, cmGe, cmEq, eqL]
theorem case_20 (hE : EARN) : st_20 V0 := by
  intro a1 a2 IC IM JM hV
  obtain ⟨S, h, ht⟩ := view2 hV
  have bn := b_nb h
  have h23 : IM 0 23 = nI 1 := by
    obtain ⟨nb, nt, mb, mt, h1, ⟨p1, p2, p3, p4, p5, p6, p7, p8, p9⟩, h3, h4, h5⟩ := hV
    obtain ⟨n, b1, b2, b3, b4, b5, b6, b7⟩ := h4
    exact b7
  rcases isIn1 a1 60 (by decide) with ⟨N, n1, n2, rfl, i7⟩ | i7
  · have i7' : fX7_isIn (nI N) 1 60 = nI 1 := i7
    have i6' : fX6_within (nI N) 1 60 = nI 1 := i7
    by_cases c2 : inR a2 2
    · have j7 : fX7_isIn a2 0 1 = nI 1 := isIn_pos (lo := 0) (hi := 1) (n := 1) (by decide) rfl rfl c2
      have j6 : fX6_within a2 0 1 = nI 1 := j7
      obtain ⟨b1, b2⟩ := be_ok IC (w := 289) (v := 11) (by omega)
      generalize hI : fX5_become 289 11 IC = I5 at b1 b2
      obtain ⟨I18, e18, p1, p2⟩ := lp_ex (fun n k (a : gI) => fX7_foretold_24 n (nI N) a2 (nI k) a) 29 (fun k a => (∀ o, o ≠ 9 → a o = IM o) ∧ ∀ j, 6 ≤ j → j < k → a 9 j = IM 1 j) (fun a => (∀ o, o ≠ 9 → a o = IM o) ∧ ∀ j, 6 ≤ j → j < 29 → a 9 j = IM 1 j)
        (fun n a hP => by
          try dsimp only at hP ⊢
          refine ⟨a, ?_, hP⟩
          rw [sX7_foretold_24, fX7_foretold_24b]
          simp (disch := (first | assumption | trivial | omega)) only [lit, neg1, oI_s, addN, mulN, subN, clN, gdN, ltN, leN, eqN, nIo, oIn, oI_eq, divN, remN, giT, giF, lzE, prE, bdE, smL, smR, shlN, shrN, hasE, andN, orN, bit1, bit0, max7, min7, giTr, giFa, gdp, litL, i2l, addL, mulL, divL, remL, cmLe, cmGt, cmGe, cmEq, eqL])
        (fun n k a hk hP => by
          try dsimp only at hP ⊢
          right
          have e1 : a 1 = IM 1 := hP.1 1 (by omega)
          refine ⟨wI a 9 k (IM 1 k), ?_, fun o ho => by rw [wI_o ho]; exact hP.1 o ho, fun j h1 h2 => ?_⟩
          · rw [sX7_foretold_24, fX7_foretold_24b]
            simp (disch := (first | assumption | trivial | omega)) only [e1, lit, neg1, oI_s, addN, mulN, subN, clN, gdN, ltN, leN, eqN, nIo, oIn, oI_eq, divN, remN, giT, giF, lzE, prE, bdE, smL, smR, shlN, shrN, hasE, andN, orN, bit1, bit0, max7, min7, giTr, giFa, gdp, litL, i2l, addL, mulL, divL, remL, cmLe, cmGt, cmGe, cmEq, eqL]
          · by_cases e : j = k
            · subst e; exact wI_eq
            · rw [wI_ne (by omega)]; exact hP.2 j h1 (by omega)) 23 6 IM FU (by omega) ⟨fun _ _ => rfl, fun j h1 h2 => absurd h1 (by omega)⟩ (by show _ < 5000; omega)
      try dsimp only at e18
      obtain ⟨M0, hM0⟩ : ∃ M0, M0 = wI I18 0 23 (nI 0) := ⟨_, rfl⟩
      have m1 : M0 1 = IM 1 := by rw [hM0, wI_o (by omega), p1 1 (by omega)]
      have m3 : M0 3 = IM 3 := by rw [hM0, wI_o (by omega), p1 3 (by omega)]
      have g0 : sv S (fw 289 I5) M0 := by
        refine ⟨pv_eq h.1 (fun o ho => by rw [fw_o (by omega) (by omega) (by omega), b2 o (by omega)]) (fun k _ => by rw [m1]), ?_⟩
        obtain ⟨s1, s2, s3, s4, s5, s6⟩ := h.2
        refine ⟨s1, ?_, fun s hs => ?_, fun b hb => ?_, fun b hb => ?_, fun i hi => ?_⟩
        · rw [m1, fw_11 (k := 7) (by omega), fw_11 (k := 8) (by omega), fw_11 (k := 6) (by omega), fw_11 (k := 5) (by omega), fw_11 (k := 4) (by omega), b1.1 7 (by omega) (by omega), b1.1 8 (by omega) (by omega), b1.1 6 (by omega) (by omega), b1.1 5 (by omega) (by omega), b1.1 4 (by omega) (by omega), fw_3, b2 11 (by omega)]
          exact s2
        · rw [m1]; exact s3 s hs
        · have := s4 b hb
          refine ⟨this.1, ?_, this.2.2⟩
          show I5 (289 + 2) b = _
          rw [b1.2.2.1 b hb]; exact this.2.1
        · have := s5 b hb
          rw [m1]
          refine ⟨this.1, this.2.1, ?_⟩
          show I5 (289 + 1) b = _
          rw [b1.2.1 b hb]; exact this.2.2
        · have := s6 i hi
          rw [m1, fw_o (by omega) (by omega) (by omega), b2 _ (by omega)]
          exact this
      have hl : ∃ n, n < 26 ∧ I5 289 3 = nI n := ⟨S 10 4, (b_w h).2.2.2.2.1, by rw [b1.1 3 (by omega) (by omega)]; exact v_ln6 h⟩
      obtain ⟨C1, M1, J1, S1, x6, x7, g1, ⟨r1, r2⟩, r3, r4, r5, r6⟩ := ahead_lp hE (S0 := S) (C0 := I5) (M0 := M0) (fun t h => rText_congr (ht t h) (fun k _ => b2 _ (by omega)) (fun k _ => by rw [m3])) (by rw [hM0, wI_eq]) (x := a2) n2 N 0 S I5 M0 JM FU FU (by omega) (by show _ < 5000; omega) (by show _ < 5000; omega) ⟨g0, ⟨rfl, rfl⟩, hl, fun _ _ => rfl, fun _ _ _ _ => rfl, fun _ _ => rfl⟩
      -- back
      obtain ⟨I63, e63, t1, t2, t3⟩ : ∃ I63, (∀ u : Int32, fX7_foretold_135 FU u (nI 6) M1 = some I63) ∧ (∀ o, o ≠ 1 → I63 o = M1 o) ∧ (∀ j, 6 ≤ j → j < 29 → I63 1 j = M1 9 j) ∧ ∀ j, j < 6 ∨ 29 ≤ j → I63 1 j = M1 1 j := by
        obtain ⟨I63, e, q⟩ := lp_ex (fun n k (a : gI) => some (fun (u : Int32) => fX7_foretold_135 n u (nI k) a)) 29 (fun k a => 6 ≤ k ∧ (∀ o, o ≠ 1 → a o = M1 o) ∧ (∀ j, 6 ≤ j → j < k → a 1 j = M1 9 j) ∧ ∀ j, j < 6 ∨ k ≤ j → a 1 j = M1 1 j) (fun f => ∃ a : gI, (∀ u, f u = some a) ∧ (∀ o, o ≠ 1 → a o = M1 o) ∧ (∀ j, 6 ≤ j → j < 29 → a 1 j = M1 9 j) ∧ ∀ j, j < 6 ∨ 29 ≤ j → a 1 j = M1 1 j)
          (fun n a hP => by
            try dsimp only at hP ⊢
            refine ⟨_, rfl, a, fun u => ?_, hP.2⟩
            rw [sX7_foretold_135, fX7_foretold_135b]
            simp (disch := (first | assumption | trivial | omega)) only [lit, neg1, oI_s, addN, mulN, subN, clN, gdN, ltN, leN, eqN, nIo, oIn, oI_eq, divN, remN, giT, giF, lzE, prE, bdE, smL, smR, shlN, shrN, hasE, andN, orN, bit1, bit0, max7, min7, giTr, giFa, gdp, litL, i2l, addL, mulL, divL, remL, cmLe, cmGt, cmGe, cmEq, eqL])
          (fun n k a hk hP => by
            try dsimp only at hP ⊢
            right
            obtain ⟨hk6, hP⟩ := hP
            have e9 : a 9 = M1 9 := hP.1 9 (by omega)
            refine ⟨wI a 1 k (M1 9 k), ?_, by omega, fun o ho => by rw [wI_o ho]; exact hP.1 o ho, fun j h1 h2 => ?_, fun j hj => ?_⟩
            · congr 1
              funext u
              rw [sX7_foretold_135, fX7_foretold_135b]
              simp (disch := (first | assumption | trivial | omega)) only [e9, lit, neg1, oI_s, addN, mulN, subN, clN, gdN, ltN, leN, eqN, nIo, oIn, oI_eq, divN, remN, giT, giF, lzE, prE, bdE, smL, smR, shlN, shrN, hasE, andN, orN, bit1, bit0, max7, min7, giTr, giFa, gdp, litL, i2l, addL, mulL, divL, remL, cmLe, cmGt, cmGe, cmEq, eqL]
            · by_cases e : j = k
              · subst e; exact wI_eq
              · rw [wI_ne (by omega)]; exact hP.2.1 j h1 (by omega)
            · rw [wI_ne (by omega)]; exact hP.2.2 j (by omega)) 23 6 M1 FU (by omega) ⟨by omega, fun _ _ => rfl, fun j h1 h2 => absurd h1 (by omega), fun _ _ => rfl⟩ (by show _ < 5000; omega)
        obtain ⟨a, qa, qb⟩ := q
        refine ⟨a, fun u => ?_, qb⟩
        have := Option.some.inj e
        rw [← qa u, ← this]
      have hV' : V0 C1 (wI I63 0 23 (nI 1)) J1 := by
        refine V0_eq hV (fun o ho => by rw [r4 o (by omega), b2 o (by omega)]) ?_
        have c9 : ∀ j, 6 ≤ j → j < 29 → M1 9 j = IM 1 j := fun j h1 h2 => by
          rw [r5 9 (by omega) (by omega) (by omega), hM0, wI_o (by omega)]; exact p2 j h1 h2
        have cell1 : I63 1 = IM 1 := by
          funext j
          by_cases q : 6 ≤ j ∧ j < 29
          · rw [t2 j q.1 q.2, c9 j q.1 q.2]
          · rw [t3 j (by omega), r6 j (by omega), m1]
        have oth : ∀ o, o = 2 ∨ o = 3 ∨ o = 4 → wI I63 0 23 (nI 1) o = IM o := fun o ho => by
          rw [wI_o (by omega), t1 o (by omega), r5 o (by omega) (by omega) (by omega), hM0, wI_o (by omega), p1 o (by omega)]
        have zer : ∀ k, k ≠ 23 → wI I63 0 23 (nI 1) 0 k = IM 0 k := fun k hk => by
          rw [wI_ne (by omega), t1 0 (by omega), r5 0 (by omega) (by omega) (by omega), hM0, wI_ne (by omega), p1 0 (by omega)]
        exact ⟨by rw [wI_o (by omega)]; exact cell1, oth 2 (by omega), oth 3 (by omega), oth 4 (by omega), zer 4 (by omega), zer 5 (by omega), zer 6 (by omega), by rw [wI_eq, h23]⟩
      have eM0 : wI I18 0 23 0 = M0 := hM0.symm
      have so6 : C1 289 5 = nI (S1 10 3) := by have z := v_so6 g1; exact z
      have so7 := v_so7 g1
      have e37 : fX6_foretold_37 FU (nI N) a2 0 I5 = some C1 := x6
      have e55 : fX7_foretold_55 FU (nI N) a2 0 M0 JM = some (M1, J1) := x7
      have e24 : fX7_foretold_24 FU (nI N) a2 6 IM = some I18 := e18
      have e135 : ∀ u, fX7_foretold_135 FU u 6 M1 = some I63 := e63
      obtain ⟨k, hk, rfl⟩ := c2
      have hk2 : k = 0 ∨ k = 1 := by omega
      rcases hk2 with rfl | rfl
      · refine ⟨nI (S1 10 3), C1, wI I63 0 23 (nI 1), J1, ?_, ?_, hV'⟩
        · unfold fX6_foretold
          rw [i6', j6, hI, lzE, e37]
          simp (disch := (first | assumption | trivial | omega)) only [so6, lit, neg1, oI_s, addN, mulN, subN, clN, gdN, ltN, leN, eqN, nIo, oIn, oI_eq, divN, remN, giT, giF, lzE, prE, bdE, smL, smR, shlN, shrN, hasE, andN, orN, bit1, bit0, max7, min7, giTr, giFa, gdp, litL, i2l, addL, mulL, divL, remL, cmLe, cmGt, cmGe, cmEq, eqL]
        · unfold fX7_foretold
          rw [i7', j7, e24, bdE, lzE, eM0, e55, bdE, prE, lzE, so7]
          simp (disch := (first | assumption | trivial | omega)) only [lzE, e63, bdE, lit, eqN, giF]
      · have bn1 := b_nb g1
        obtain ⟨r, r', y6, y7, y8⟩ := lp_2 (fun n k (a : Nat) => fX6_foretold_86 n (nI a) (nI k) C1) (fun n k (a : Nat) => fX7_foretold_101 n (nI a) (nI k) M1) (S1 0 0) (fun k a => a ≤ 1000 * k) (fun r6 r7 => r6 = r7)
          (fun n a hP => by
            try dsimp only at hP ⊢
            have z6 : C1 1 12 = nI (S1 0 0) := by have z := v_nb6 g1; exact z
            have z7 := v_nb7 g1
            refine ⟨nI a, nI a, ?_, ?_, rfl⟩
            · rw [sX6_foretold_86, fX6_foretold_86b]
              simp (disch := (first | assumption | trivial | omega)) only [z6, lit, neg1, oI_s, addN, mulN, subN, clN, gdN, ltN, leN, eqN, nIo, oIn, oI_eq, divN, remN, giT, giF, lzE, prE, bdE, smL, smR, shlN, shrN, hasE, andN, orN, bit1, bit0, max7, min7, giTr, giFa, gdp, litL, i2l, addL, mulL, divL, remL, cmLe, cmGt, cmGe, cmEq, eqL]
            · rw [sX7_foretold_101, fX7_foretold_101b]
              simp (disch := (first | assumption | trivial | omega)) only [z7, lit, neg1, oI_s, addN, mulN, subN, clN, gdN, ltN, leN, eqN, nIo, oIn, oI_eq, divN, remN, giT, giF, lzE, prE, bdE, smL, smR, shlN, shrN, hasE, andN, orN, bit1, bit0, max7, min7, giTr, giFa, gdp, litL, i2l, addL, mulL, divL, remL, cmLe, cmGt, cmGe, cmEq, eqL])
          (fun n b a hb hP => by
            try dsimp only at hP ⊢
            right
            have hb6 : b < 6 := by omega
            have z6 : C1 1 12 = nI (S1 0 0) := by have z := v_nb6 g1; exact z
            have z7 := v_nb7 g1
            have y6 : C1 290 b = nI (S1 13 b) := by have z := v_pu6 g1 hb6; exact z
            have y7 := v_pu7 g1 hb6
            have bp := b_pu g1 hb6
            refine ⟨a + S1 13 b, ?_, ?_, by omega⟩
            · rw [sX6_foretold_86, fX6_foretold_86b]
              simp (disch := (first | assumption | trivial | omega)) only [z6, y6, lit, neg1, oI_s, addN, mulN, subN, clN, gdN, ltN, leN, eqN, nIo, oIn, oI_eq, divN, remN, giT, giF, lzE, prE, bdE, smL, smR, shlN, shrN, hasE, andN, orN, bit1, bit0, max7, min7, giTr, giFa, gdp, litL, i2l, addL, mulL, divL, remL, cmLe, cmGt, cmGe, cmEq, eqL]
            · rw [sX7_foretold_101, fX7_foretold_101b]
              simp (disch := (first | assumption | trivial | omega)) only [z7, y7, lit, neg1, oI_s, addN, mulN, subN, clN, gdN, ltN, leN, eqN, nIo, oIn, oI_eq, divN, remN, giT, giF, lzE, prE, bdE, smL, smR, shlN, shrN, hasE, andN, orN, bit1, bit0, max7, min7, giTr, giFa, gdp, litL, i2l, addL, mulL, divL, remL, cmLe, cmGt, cmGe, cmEq, eqL]) (S1 0 0) 0 0 FU (by omega) (by omega) (by show _ < 5000; omega)
        subst y8
        have y6' : fX6_foretold_86 FU 0 0 C1 = some r := y6
        have y7' : fX7_foretold_101 FU 0 0 M1 = some r := y7
        refine ⟨r, C1, wI I63 0 23 (nI 1), J1, ?_, ?_, hV'⟩
        · unfold fX6_foretold
          rw [i6', j6, hI, lzE, e37, bdE, y6']
          simp (disch := (first | assumption | trivial | omega)) only [lit, neg1, oI_s, addN, mulN, subN, clN, gdN, ltN, leN, eqN, nIo, oIn, oI_eq, divN, remN, giT, giF, lzE, prE, bdE, smL, smR, shlN, shrN, hasE, andN, orN, bit1, bit0, max7, min7, giTr, giFa, gdp, litL, i2l, addL, mulL, divL, remL, cmLe, cmGt, cmGe, cmEq, eqL]
        · unfold fX7_foretold
          rw [i7', j7, e24, bdE, lzE, eM0, e55, bdE, prE, lzE, so7, y7']
          simp (disch := (first | assumption | trivial | omega)) only [lzE, e63, bdE, lit, eqN, giF, giT, giTr]
    · have j7 : fX7_isIn a2 0 1 = nI 0 := isIn_neg (lo := 0) (hi := 1) (n := 1) (by decide) rfl rfl c2
      have j6 : fX6_within a2 0 1 = nI 0 := j7
      refine ⟨-1, IC, IM, JM, ?_, ?_, hV⟩
      · unfold fX6_foretold
        rw [i6', j6]
        simp (disch := (first | assumption | trivial | omega)) only [lit, neg1, oI_s, addN, mulN, subN, clN, gdN, ltN, leN, eqN, nIo, oIn, oI_eq, divN, remN, giT, giF, lzE, prE, bdE, smL, smR, shlN, shrN, hasE, andN, orN, bit1, bit0, max7, min7, giTr, giFa, gdp, litL, i2l, addL, mulL, divL, remL, cmLe, cmGt, cmGe, cmEq, eqL]
      · unfold fX7_foretold
        rw [i7', j7]
        simp (disch := (first | assumption | trivial | omega)) only [lit, neg1, oI_s, addN, mulN, subN, clN, gdN, ltN, leN, eqN, nIo, oIn, oI_eq, divN, remN, giT, giF, lzE, prE, bdE, smL, smR, shlN, shrN, hasE, andN, orN, bit1, bit0, max7, min7, giTr, giFa, gdp, litL, i2l, addL, mulL, divL, remL, cmLe, cmGt, cmGe, cmEq, eqL]
  · have i7' : fX7_isIn a1 1 60 = nI 0 := i7
    have i6' : fX6_within a1 1 60 = nI 0 := i7
    refine ⟨-1, IC, IM, JM, ?_, ?_, hV⟩
    · unfold fX6_foretold
      rw [i6']
      simp (disch := (first | assumption | trivial | omega)) only [lit, neg1, oI_s, addN, mulN, subN, clN, gdN, ltN, leN, eqN, nIo, oIn, oI_eq, divN, remN, giT, giF, lzE, prE, bdE, smL, smR, shlN, shrN, hasE, andN, orN, bit1, bit0, max7, min7, giTr, giFa, gdp, litL, i2l, addL, mulL, divL, remL, cmLe, cmGt, cmGe, cmEq, eqL]
    · unfold fX7_foretold
      rw [i7']
      simp (disch := (first | assumption | trivial | omega)) only [lit, neg1, oI_s, addN, mulN, subN, clN, gdN, ltN, leN, eqN, nIo, oIn, oI_eq, divN, remN, giT, giF, lzE, prE, bdE, smL, smR, shlN, shrN, hasE, andN, orN, bit1, bit0, max7, min7, giTr, giFa, gdp, litL, i2l, addL, mulL, divL, remL, cmLe, cmGt, cmGe, cmEq, eqL]
