-- 50: PURE PART: feeding (out of wip/whole/pure by pure.py)
theorem byt (x : Int32) (s : Nat) (hs : s = 0 ∨ s = 8 ∨ s = 16 ∨ s = 24) : ∃ k, k < 256 ∧ jushr x (nI s) &&& nI 255 = nI k ∧ jshr x (nI s) &&& nI 255 = nI k := by
  refine ⟨x.toBitVec.toNat / 2 ^ s % 2 ^ 8, Nat.mod_lt _ (by decide), ?_, ?_⟩
  · have e2 : (jushr x (nI s)).toBitVec = x.toBitVec >>> s := by
      rcases hs with rfl | rfl | rfl | rfl <;> rfl
    apply Int32.toBitVec_inj.mp
    show (jushr x (nI s)).toBitVec &&& BitVec.ofNat 32 255 = BitVec.ofNat 32 _
    rw [e2]
    apply BitVec.eq_of_getLsbD_eq
    intro i hi
    rw [BitVec.getLsbD_and, BitVec.getLsbD_ushiftRight, BitVec.getLsbD_ofNat, BitVec.getLsbD_ofNat, Nat.testBit_mod_two_pow, Nat.testBit_div_two_pow, show (255 : Nat) = 2 ^ 8 - 1 from rfl, Nat.testBit_two_pow_sub_one]
    show (x.toBitVec.toNat.testBit (s + i) && _) = _
    by_cases c : i < 8
    · simp [c, hi]
      rw [Nat.add_comm]
    · simp [c]
  · have e1 : (jshr x (nI s)).toBitVec = x.toBitVec.sshiftRight s := by
      show x.toBitVec.sshiftRight (((nI s &&& 31).toBitVec.smod 32).toNat) = _
      rw [shlC s (by omega)]
    apply Int32.toBitVec_inj.mp
    show (jshr x (nI s)).toBitVec &&& BitVec.ofNat 32 255 = BitVec.ofNat 32 _
    rw [e1]
    apply BitVec.eq_of_getLsbD_eq
    intro i hi
    rw [BitVec.getLsbD_and, BitVec.getLsbD_sshiftRight, BitVec.getLsbD_ofNat, BitVec.getLsbD_ofNat, Nat.testBit_mod_two_pow, Nat.testBit_div_two_pow, show (255 : Nat) = 2 ^ 8 - 1 from rfl, Nat.testBit_two_pow_sub_one]
    by_cases c : i < 8
    · have c2 : s + i < 32 := by omega
      have c3 : ¬ 32 ≤ i := by omega
      simp [c, hi, c2, c3]
      rw [Nat.add_comm i s]
      rfl
    · simp [c]
theorem byC : ∀ k, k < 256 → nchar (ji2c (nI k)) = nI k := by decide +kernel
/-- the tape holds n bytes -/
def rT (n : Nat) (IC IM : gI) : Prop := IC 0 10 = nI n ∧ IM 0 4 = nI n ∧ ∀ i, i < n → inR (IM 4 i) 256 ∧ IC 274 i = IM 4 i
def fT (IC IM IC' IM' : gI) : Prop := (∀ o, o ≠ 0 → o ≠ 274 → IC' o = IC o) ∧ (∀ k, k ≠ 10 → IC' 0 k = IC 0 k) ∧ (∀ o, o ≠ 0 → o ≠ 4 → IM' o = IM o) ∧ ∀ k, k ≠ 4 → IM' 0 k = IM 0 k
theorem fT_tr {A B A' B' A2 B2 : gI} (h : fT A B A' B') (g : fT A' B' A2 B2) : fT A B A2 B2 :=
  ⟨fun o a b => (g.1 o a b).trans (h.1 o a b), fun k a => (g.2.1 k a).trans (h.2.1 k a), fun o a b => (g.2.2.1 o a b).trans (h.2.2.1 o a b), fun k a => (g.2.2.2 k a).trans (h.2.2.2 k a)⟩
theorem by1 {n s : Nat} {IC IM : gI} (x : Int32) (h : rT n IC IM) (hn : n < 300) (hs : s = 0 ∨ s = 8 ∨ s = 16 ∨ s = 24) : ∃ IC' IM', (∀ m, fX6_putBytes_3 (m + 1) x (nI s) IC = fX6_putBytes_3 m x (nI s + -8) IC') ∧ (∀ m, fX7_four_3 (m + 1) x (nI s) IM = fX7_four_3 m x (nI s + -8) IM') ∧ rT (n + 1) IC' IM' ∧ fT IC IM IC' IM' := by
  obtain ⟨k, hk, k1, k2⟩ := byt x s hs
  obtain ⟨t1, t2, t3⟩ := h
  have hb := byC k hk
  have hs' : s < 25 := by omega
  refine ⟨wI (wI IC 274 n (nI k)) 0 10 (nI (n + 1)), wI (wI IM 4 n (nI k)) 0 4 (nI (n + 1)), fun m => ?_, fun m => ?_, ⟨wI_eq, wI_eq, fun i hi => ?_⟩, fun o h1 h2 => by rw [wI_o h1, wI_o h2], fun k hk => by rw [wI_ne (by omega), wI_o (by omega)], fun o h1 h2 => by rw [wI_o h1, wI_o h2], fun k hk => by rw [wI_ne (by omega), wI_o (by omega)]⟩
  · rw [sX6_putBytes_3, fX6_putBytes_3b, gi_neg (nI_pos (by omega)), show (255 : Int32) = nI 255 from rfl, k1, hb]
    simp (disch := (first | assumption | trivial | omega)) only [t1, wI_o, lit, neg1, oI_s, addN, mulN, subN, clN, gdN, ltN, leN, eqN, nIo, oIn, oI_eq, divN, remN, giT, giF, lzE, prE, bdE, smL, smR, shlN, shrN, hasE, andN, orN, bit1, bit0, max7, min7, giTr, giFa, gdp, litL, i2l, addL, mulL, divL, remL, cmLe, cmGt, cmGe, cmEq, eqL]
    all_goals rfl
  · rw [sX7_four_3, fX7_four_3b, gi_neg (nI_pos (by omega)), show (255 : Int32) = nI 255 from rfl, k2]
    simp (disch := (first | assumption | trivial | omega)) only [t2, wI_o, lit, neg1, oI_s, addN, mulN, subN, clN, gdN, ltN, leN, eqN, nIo, oIn, oI_eq, divN, remN, giT, giF, lzE, prE, bdE, smL, smR, shlN, shrN, hasE, andN, orN, bit1, bit0, max7, min7, giTr, giFa, gdp, litL, i2l, addL, mulL, divL, remL, cmLe, cmGt, cmGe, cmEq, eqL]
    all_goals rfl
  · simp (disch := omega) only [wI_o]
    by_cases e : i = n
    · subst e
      rw [wI_eq, wI_eq]
      exact ⟨inR_nI hk, rfl⟩
    · rw [wI_ne (by omega), wI_ne (by omega)]
      exact t3 i (by omega)
theorem four {n : Nat} {IC IM : gI} (x : Int32) (h : rT n IC IM) (hn : n + 4 ≤ 300) : ∃ IC' IM', fX6_putBytes x IC = some IC' ∧ fX7_four x IM = some IM' ∧ rT (n + 4) IC' IM' ∧ fT IC IM IC' IM' := by
  obtain ⟨C1, M1, a1, b1, r1, f1⟩ := by1 (s := 24) x h (by omega) (by omega)
  obtain ⟨C2, M2, a2, b2, r2, f2⟩ := by1 (s := 16) x r1 (by omega) (by omega)
  obtain ⟨C3, M3, a3, b3, r3, f3⟩ := by1 (s := 8) x r2 (by omega) (by omega)
  obtain ⟨C4, M4, a4, b4, r4, f4⟩ := by1 (s := 0) x r3 (by omega) (by omega)
  refine ⟨C4, M4, ?_, ?_, r4, fT_tr f1 (fT_tr f2 (fT_tr f3 f4))⟩
  · unfold fX6_putBytes
    rw [show fX6_putBytes_3 FU x 24 IC = fX6_putBytes_3 (4999 + 1) x (nI 24) IC from rfl, a1, show nI 24 + -8 = nI 16 from rfl, show (4999 : Nat) = 4998 + 1 from rfl, a2, show nI 16 + -8 = nI 8 from rfl, show (4998 : Nat) = 4997 + 1 from rfl, a3, show nI 8 + -8 = nI 0 from rfl, show (4997 : Nat) = 4996 + 1 from rfl, a4, show (4996 : Nat) = 4995 + 1 from rfl, sX6_putBytes_3, fX6_putBytes_3b, gi_pos (by decide)]
    rfl
  · unfold fX7_four
    rw [show fX7_four_3 FU x 24 IM = fX7_four_3 (4999 + 1) x (nI 24) IM from rfl, b1, show nI 24 + -8 = nI 16 from rfl, show (4999 : Nat) = 4998 + 1 from rfl, b2, show nI 16 + -8 = nI 8 from rfl, show (4998 : Nat) = 4997 + 1 from rfl, b3, show nI 8 + -8 = nI 0 from rfl, show (4997 : Nat) = 4996 + 1 from rfl, b4, show (4996 : Nat) = 4995 + 1 from rfl, sX7_four_3, fX7_four_3b, gi_pos (by decide)]
    rfl
theorem case_2 : st_2 V0 := by
  intro a1 a2 a3 a4 a5 IC IM JM hV
  have hV' := hV
  obtain ⟨nb, nt, mb, mt, h1, h2, h3, h4, h5⟩ := hV
  obtain ⟨n, b1, b2, b3, b4, b5, b6, b7⟩ := h4
  by_cases c : n + 20 ≤ 300
  · obtain ⟨C1, M1, x1, y1, r1, f1⟩ := four a1 (n := n) (IC := IC) (IM := IM) ⟨b2, b3, b4⟩ (by omega)
    obtain ⟨C2, M2, x2, y2, r2, f2⟩ := four a2 r1 (by omega)
    obtain ⟨C3, M3, x3, y3, r3, f3⟩ := four a3 r2 (by omega)
    obtain ⟨C4, M4, x4, y4, r4, f4⟩ := four a4 r3 (by omega)
    obtain ⟨C5, M5, x5, y5, r5, f5⟩ := four a5 r4 (by omega)
    obtain ⟨f1, f2, f3, f4⟩ := fT_tr f1 (fT_tr f2 (fT_tr f3 (fT_tr f4 f5)))
    refine ⟨nI (n + 20), C5, M5, ?_, ?_, nb, nt, mb, mt, h1, rPort_congr h2 (fun o _ _ => f1 o (by omega) (by omega)) (f3 1 (by omega) (by omega)), rPort_congr h3 (fun o _ _ => f1 o (by omega) (by omega)) (f3 2 (by omega) (by omega)), ⟨n + 20, c, r5.1, r5.2.1, r5.2.2, ?_, ?_, ?_⟩, fun t ht => rText_congr (h5 t ht) (fun k _ => f1 _ (by omega) (by omega)) (fun k _ => by rw [f3 3 (by omega) (by omega)])⟩
    · unfold fX6_feed
      simp (disch := (first | assumption | trivial | omega)) only [b2, x1, x2, x3, x4, x5, r5.1, lit, neg1, oI_s, addN, mulN, subN, clN, gdN, ltN, leN, eqN, nIo, oIn, oI_eq, divN, remN, giT, giF, lzE, prE, bdE, smL, smR, shlN, shrN, hasE, andN, orN, bit1, bit0, max7, min7, giTr, giFa, gdp, litL, i2l, addL, mulL, divL, remL, cmLe, cmGt, cmGe, cmEq, eqL]
    · unfold fX7_feed
      simp (disch := (first | assumption | trivial | omega)) only [b3, y1, y2, y3, y4, y5, r5.2.1, lit, neg1, oI_s, addN, mulN, subN, clN, gdN, ltN, leN, eqN, nIo, oIn, oI_eq, divN, remN, giT, giF, lzE, prE, bdE, smL, smR, shlN, shrN, hasE, andN, orN, bit1, bit0, max7, min7, giTr, giFa, gdp, litL, i2l, addL, mulL, divL, remL, cmLe, cmGt, cmGe, cmEq, eqL]
    · rw [f2 11 (by omega), f4 5 (by omega)]; exact b5
    · rw [f2 12 (by omega), f4 6 (by omega)]; exact b6
    · rw [f4 23 (by omega)]; exact b7
  · refine ⟨-1, IC, IM, ?_, ?_, hV'⟩
    · unfold fX6_feed
      simp (disch := (first | assumption | trivial | omega)) only [b2, lit, neg1, oI_s, addN, mulN, subN, clN, gdN, ltN, leN, eqN, nIo, oIn, oI_eq, divN, remN, giT, giF, lzE, prE, bdE, smL, smR, shlN, shrN, hasE, andN, orN, bit1, bit0, max7, min7, giTr, giFa, gdp, litL, i2l, addL, mulL, divL, remL, cmLe, cmGt, cmGe, cmEq, eqL]
      all_goals rfl
    · unfold fX7_feed
      simp (disch := (first | assumption | trivial | omega)) only [b3, lit, neg1, oI_s, addN, mulN, subN, clN, gdN, ltN, leN, eqN, nIo, oIn, oI_eq, divN, remN, giT, giF, lzE, prE, bdE, smL, smR, shlN, shrN, hasE, andN, orN, bit1, bit0, max7, min7, giTr, giFa, gdp, litL, i2l, addL, mulL, divL, remL, cmLe, cmGt, cmGe, cmEq, eqL]
      all_goals rfl
