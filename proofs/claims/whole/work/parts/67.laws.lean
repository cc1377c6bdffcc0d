-- 67: PURE PART: bids and earnings, alike (out of wip/whole/pure by pure.py)
theorem held_eq (x lo hi : Int32) : fX7_held x.toInt64 lo hi = fX6_held x lo hi := by
  have e1 : (0 ≤ lg_cmp x.toInt64 lo.toInt64) ↔ lo ≤ x := by
    rw [lg_cmp_ge, Int64.le_iff_toInt_le, Int32.toInt_toInt64, Int32.toInt_toInt64, le_toInt]
  have e2 : (lg_cmp x.toInt64 hi.toInt64 ≤ 0) ↔ x ≤ hi := by
    rw [lg_cmp_le, Int64.le_iff_toInt_le, Int32.toInt_toInt64, Int32.toInt_toInt64, le_toInt]
  unfold fX7_held fX6_held
  by_cases c1 : lo ≤ x
  · rw [gi_pos c1, gi_pos (e1.mpr c1)]
    by_cases c2 : x ≤ hi
    · rw [gi_pos c2, gi_pos (e2.mpr c2), Int32.toInt32_toInt64]
    · rw [gi_neg c2, gi_neg (fun z => c2 (e2.mp z))]
  · rw [gi_neg c1, gi_neg (fun z => c1 (e1.mp z))]
theorem held99 (x : Int32) : ∃ v, v < 100 ∧ fX6_held x (nI 0) (nI 99) = nI v := by
  unfold fX6_held
  by_cases c1 : nI 0 ≤ x
  · rw [gi_pos c1]
    by_cases c2 : x ≤ nI 99
    · rw [gi_pos c2]
      have : inR x 100 := by
        rw [inR_toInt (by decide)]
        rw [le_toInt, nI_toInt (by omega)] at c1 c2
        omega
      obtain ⟨k, hk, e⟩ := this
      exact ⟨k, hk, e⟩
    · rw [gi_neg c2]
      exact ⟨99, by omega, rfl⟩
  · rw [gi_neg c1]
    exact ⟨0, by omega, rfl⟩
theorem held18 (x : Int32) : ∃ v, v ≤ 18 ∧ fX6_held x (-9) (nI 9) = nI v - nI 9 := by
  have e9 : (-9 : Int32).toInt = -9 := by decide
  unfold fX6_held
  by_cases c1 : -9 ≤ x
  · rw [gi_pos c1]
    by_cases c2 : x ≤ nI 9
    · rw [gi_pos c2]
      rw [le_toInt, e9] at c1
      rw [le_toInt, nI_toInt (by omega)] at c2
      have hv : ∀ k, k ≤ 18 → (nI k - nI 9 : Int32).toInt = (k : Int) - 9 := by decide
      refine ⟨(x.toInt + 9).toNat, by omega, Int32.toInt_inj.mp ?_⟩
      rw [hv _ (by omega)]
      omega
    · rw [gi_neg c2]
      exact ⟨18, by omega, by decide⟩
  · rw [gi_neg c1]
    exact ⟨0, by omega, by decide⟩
section LW
variable {S : Nat → Nat → Nat} {w b s t law : Nat} {IC IM C M : gI} {J : gJ}
theorem nm7 (g : sv S (fw w C) M) (hb : b < 6) (hs : s < 5) : ∃ M', fX7_name (nI b) (nI s) M = some M' ∧ (∀ o, o ≠ 6 → M' o = M o) ∧ ∀ v, v < 8 → M' 6 v = nI (nvS S b s v) := by
  have bw := b_w g
  have bo := b_ow g hb
  have hs32 : s < 32 := by omega
  have f6 : ∀ (A : gI) k x, fM A (wI A 6 k x) := fun A k x o h1 _ => wI_o h1
  obtain ⟨A1, hA1⟩ : ∃ A, A = wI M 6 0 (nI (S 10 0)) := ⟨_, rfl⟩
  have g1 : sv S (fw w C) A1 := by rw [hA1]; exact sv_f g fC_rf (f6 _ _ _)
  obtain ⟨A2, hA2⟩ : ∃ A, A = wI A1 6 1 (nI b) := ⟨_, rfl⟩
  have g2 : sv S (fw w C) A2 := by rw [hA2]; exact sv_f g1 fC_rf (f6 _ _ _)
  obtain ⟨A3, hA3⟩ : ∃ A, A = wI A2 6 2 (nI s) := ⟨_, rfl⟩
  have g3 : sv S (fw w C) A3 := by rw [hA3]; exact sv_f g2 fC_rf (f6 _ _ _)
  obtain ⟨A4, hA4⟩ : ∃ A, A = wI A3 6 3 (nI (S 5 b - S 4 b + 1)) := ⟨_, rfl⟩
  have g4 : sv S (fw w C) A4 := by rw [hA4]; exact sv_f g3 fC_rf (f6 _ _ _)
  obtain ⟨A5, hA5⟩ : ∃ A, A = wI A4 6 4 (nI (S 13 b)) := ⟨_, rfl⟩
  have g5 : sv S (fw w C) A5 := by rw [hA5]; exact sv_f g4 fC_rf (f6 _ _ _)
  obtain ⟨A6, hA6⟩ : ∃ A, A = wI A5 6 5 (nI (pc (S 10 5))) := ⟨_, rfl⟩
  have g6 : sv S (fw w C) A6 := by rw [hA6]; exact sv_f g5 fC_rf (f6 _ _ _)
  obtain ⟨A7, hA7⟩ : ∃ A, A = wI A6 6 6 (nI (S 3 b / 2 ^ s &&& 1)) := ⟨_, rfl⟩
  have g7 : sv S (fw w C) A7 := by rw [hA7]; exact sv_f g6 fC_rf (f6 _ _ _)
  have d7 := v_da7 g
  have l3 := lo7 g3 hb
  have p4 := v_pu7 g4 hb
  have fr := fn7 g5
  have b5 := bits7 bw.2.2.2.2.2
  have h7 := hn7 g7 hb
  refine ⟨wI A7 6 7 (nI (pc (S 12 b))), ?_, fun o ho => ?_, fun v hv => ?_⟩
  · unfold fX7_name
    rw [d7, lzE, ← hA1, lzE, ← hA2, lzE, ← hA3, l3, bdE, lzE, ← hA4]
    simp (disch := (first | assumption | trivial | omega)) only [lit, addN, gdN, clN, p4, lzE]
    rw [← hA5, fr, bdE, b5, bdE, ← hA6]
    by_cases w1 : (S 3 b).testBit s = true
    · rw [dw7p g6 hb hs32 w1, bdE, gi_neg (show ¬ nI 1 = nI 0 by decide)]
      have : nI 1 = nI (S 3 b / 2 ^ s &&& 1) := by rw [bit1 w1]
      rw [this, ← hA7, h7]
      rfl
    · rw [dw7n g6 hb hs32 w1, bdE, gi_pos (show nI 0 = nI 0 from rfl)]
      have : nI 0 = nI (S 3 b / 2 ^ s &&& 1) := by rw [bit0 w1]
      rw [this, ← hA7, h7]
      rfl
  · rw [wI_o ho, hA7, wI_o ho, hA6, wI_o ho, hA5, wI_o ho, hA4, wI_o ho, hA3, wI_o ho, hA2, wI_o ho, hA1, wI_o ho]
  · rw [hA7, hA6, hA5, hA4, hA3, hA2, hA1]
    rcases v8 hv with rfl | rfl | rfl | rfl | rfl | rfl | rfl | rfl <;> simp (disch := omega) only [wI_ne, wI_eq, nvS]
/-- what a text says by one of its laws -/
theorem law_ok (hw : w = 11 ∨ w = 289) (hnb : S 0 0 ≤ 6) (hb : b < 6) (hs : s < 5) (ht : t < 4) (hl : law < 2) (hr : rText IC (IM 3) t) :
    ((∀ C, (∀ o, 296 ≤ o → C o = IC o) → fX3_rules (296 + 8 * t) (nI law) C = some (nI 0)) ∧ ∀ M, M 3 = IM 3 → ∀ u v x, fX7_says_3 FU (nI t) (nI law) u v x (nI 0) M = some (Sum.inr ())) ∨
    ∃ x, (∀ C M, sv S (fw w C) M → (∀ o, 296 ≤ o → C o = IC o) → fX3_rules (296 + 8 * t) (nI law) C = some (nI 1) ∧ ∃ C', fX2_worked (296 + 8 * t) w (nI law) (nI b) (nI s) C = some (x, C') ∧ fC C C') ∧
      ∀ C M (J : gJ), sv S (fw w C) M → M 3 = IM 3 → (∀ v, v < 8 → M 6 v = nI (nvS S b s v)) → ∃ c M' J', (∀ u v x, fX7_says_3 FU (nI t) (nI law) u v x (nI 0) M = some (Sum.inl (nI c))) ∧ fX7_summedUp (nI t) (nI c) M J = some (x.toInt64, M', J') ∧ ∀ o, o ≠ 8 → M' o = M o := by
  obtain ⟨m, h1, h2, h3, h4, h5⟩ := hr
  have hnt : ¬ nI t < 0 := nI_pos (by omega)
  rcases h5 law hl with ⟨⟨i, j, a1, a2, a3, a4⟩, a5⟩ | ⟨c, d, i, j, p, q, a1, a2, a3, a4, a5, a6, a7, a8, a9, a10, a11, a12⟩
  · refine Or.inl ⟨fun C hC => ?_, fun M hM u v x => ?_⟩
    · unfold fX3_rules
      have e6 : C (296 + 8 * t + 6) law = nI i := by rw [hC _ (by omega)]; exact a3
      have e7 : C (296 + 8 * t + 7) law = nI j := by rw [hC _ (by omega)]; exact a4
      simp (disch := (first | assumption | trivial | omega)) only [e6, e7, lit, neg1, oI_s, addN, mulN, subN, clN, gdN, ltN, leN, eqN, nIo, oIn, oI_eq, divN, remN, giT, giF, lzE, prE, bdE, smL, smR, shlN, shrN, hasE, andN, orN, bit1, bit0, max7, min7, giTr, giFa, gdp, litL, i2l, addL, mulL, divL, remL, cmLe, cmGt, cmGe, cmEq, eqL]
    · obtain ⟨r, e, rfl⟩ := lp_ex (fun n k (_ : Unit) => fX7_says_3 n (nI t) (nI law) u v x (nI k) M) m (fun _ _ => True) (fun r => r = Sum.inr ())
        (fun n a _ => by
          have e0 : M 3 (681 * t) = nI m := by rw [hM]; exact h3
          refine ⟨_, ?_, rfl⟩
          rw [sX7_says_3, fX7_says_3b, gi_neg hnt]
          simp (disch := (first | assumption | trivial | omega)) only [e0, lit, neg1, oI_s, addN, mulN, subN, clN, gdN, ltN, leN, eqN, nIo, oIn, oI_eq, divN, remN, giT, giF, lzE, prE, bdE, smL, smR, shlN, shrN, hasE, andN, orN, bit1, bit0, max7, min7, giTr, giFa, gdp, litL, i2l, addL, mulL, divL, remL, cmLe, cmGt, cmGe, cmEq, eqL])
        (fun n k a hk _ => by
          right
          have e0 : M 3 (681 * t) = nI m := by rw [hM]; exact h3
          have e1 : ¬ M 3 (681 * t + 1 + 3 * k) = nI law := by rw [hM, Nat.add_assoc]; exact a5 k hk
          refine ⟨(), ?_, trivial⟩
          rw [sX7_says_3, fX7_says_3b, gi_neg hnt]
          simp (disch := (first | assumption | trivial | omega)) only [e0, e1, lit, neg1, oI_s, addN, mulN, subN, clN, gdN, ltN, leN, eqN, nIo, oIn, oI_eq, divN, remN, giT, giF, lzE, prE, bdE, smL, smR, shlN, shrN, hasE, andN, orN, bit1, bit0, max7, min7, giTr, giFa, gdp, litL, i2l, addL, mulL, divL, remL, cmLe, cmGt, cmGe, cmEq, eqL]) m 0 () FU (by omega) trivial (by show _ < 5000; omega)
      exact e
  · have hQ : IM 3 (681 * t + 1 + 3 * c + 2) = nI q := by rw [← a11]; congr 1; omega
    have hP : IM 3 (681 * t + 1 + 3 * c + 1) = nI p := by rw [← a10]; congr 1; omega
    obtain ⟨hij, hpq, hd1, hx⟩ := ev_all (b := b) (s := s) hw hnb hb hs ht hl a9 a6 (by omega) hQ a7 a12
    obtain ⟨x, hx0, x6, x7⟩ := hx a7
    refine Or.inr ⟨x, fun C M g hC => ?_, fun C M J g hM hN => ?_⟩
    · have e6 : C (296 + 8 * t + 6) law = nI i := by rw [hC _ (by omega)]; exact a8
      have e7 : C (296 + 8 * t + 7) law = nI j := by rw [hC _ (by omega)]; exact a9
      refine ⟨?_, ?_⟩
      · unfold fX3_rules
        simp (disch := (first | assumption | trivial | omega)) only [e6, e7, lit, neg1, oI_s, addN, mulN, subN, clN, gdN, ltN, leN, eqN, nIo, oIn, oI_eq, divN, remN, giT, giF, lzE, prE, bdE, smL, smR, shlN, shrN, hasE, andN, orN, bit1, bit0, max7, min7, giTr, giFa, gdp, litL, i2l, addL, mulL, divL, remL, cmLe, cmGt, cmGe, cmEq, eqL]
      · obtain ⟨C1, m1, y1, y2, y3, y4, y5⟩ := x6 C M 0 0 g hC (by omega) (by omega) (Nat.le_refl _)
        have e7' : C1 (296 + 8 * t + 7) law = nI j := by rw [y2 _ (by omega)]; exact e7
        have z := y5 (5000 - m1)
        rw [show 5000 - m1 + m1 = FU by show _ = 5000; omega] at z
        obtain ⟨n, hn⟩ : ∃ n, 5000 - m1 = n + 1 := ⟨4999 - m1, by omega⟩
        have z2 : fX2_worked_14 (296 + 8 * t) w (5000 - m1) (nI law) (nI b) (nI s) (nI (0 + 1)) (nI j) (nI (0 + m1)) C1 = some (Sum.inr (Sum.inr C1)) := by
          rw [hn, sX2_worked_14, fX2_worked_14b]
          by_cases c3 : 300 ≤ 0 + m1
          · simp (disch := (first | assumption | trivial | omega)) only [c3, lit, neg1, oI_s, addN, mulN, subN, clN, gdN, ltN, leN, eqN, nIo, oIn, oI_eq, divN, remN, giT, giF, lzE, prE, bdE, smL, smR, shlN, shrN, hasE, andN, orN, bit1, bit0, max7, min7, giTr, giFa, gdp, litL, i2l, addL, mulL, divL, remL, cmLe, cmGt, cmGe, cmEq, eqL]
          · simp (disch := (first | assumption | trivial | omega)) only [c3, e7', Nat.le_refl, lit, neg1, oI_s, addN, mulN, subN, clN, gdN, ltN, leN, eqN, nIo, oIn, oI_eq, divN, remN, giT, giF, lzE, prE, bdE, smL, smR, shlN, shrN, hasE, andN, orN, bit1, bit0, max7, min7, giTr, giFa, gdp, litL, i2l, addL, mulL, divL, remL, cmLe, cmGt, cmGe, cmEq, eqL]
        rw [z2] at z
        refine ⟨C1, ?_, y2⟩
        unfold fX2_worked
        simp (disch := (first | assumption | trivial | omega)) only [gdN, clN, e6, lzE]
        rw [show (0 : Int32) = nI 0 from rfl, z, bdE, smR, smR, y3]
    · have e0 : M 3 (681 * t) = nI m := by rw [hM]; exact h3
      have ec : M 3 (681 * t + 1 + 3 * c) = nI law := by rw [hM, Nat.add_assoc]; exact a2
      obtain ⟨M1, J1, y1, y2, y3, y4, y5, y6⟩ := x7 C M J 0 0 g hM hN (by omega) (by omega) (Nat.le_refl _)
      have eQ : M1 3 (681 * t + 1 + 3 * c + 2) = nI q := by rw [y1 3 (by omega), hM]; exact hQ
      have eP : M 3 (681 * t + 1 + 3 * c + 1) = nI p := by rw [hM]; exact hP
      have z := y6 (5000 - (q - p))
      rw [show 5000 - (q - p) + (q - p) = FU by show _ = 5000; omega] at z
      obtain ⟨n, hn⟩ : ∃ n, 5000 - (q - p) = n + 1 := ⟨4999 - (q - p), by omega⟩
      have z2 : fX7_summedUp_38 (5000 - (q - p)) (nI (681 * t + 1 + 3 * c)) (nI (681 * t + 73)) (nI (0 + (1 - 0))) (nI (0 + 0)) (nI q) M1 J1 = some (M1, J1) := by
        rw [hn, sX7_summedUp_38, fX7_summedUp_38b]
        simp (disch := (first | assumption | trivial | omega)) only [eQ, Nat.le_refl, lit, neg1, oI_s, addN, mulN, subN, clN, gdN, ltN, leN, eqN, nIo, oIn, oI_eq, divN, remN, giT, giF, lzE, prE, bdE, smL, smR, shlN, shrN, hasE, andN, orN, bit1, bit0, max7, min7, giTr, giFa, gdp, litL, i2l, addL, mulL, divL, remL, cmLe, cmGt, cmGe, cmEq, eqL]
      rw [z2] at z
      refine ⟨c, M1, J1, fun u v xx => ?_, ?_, y1⟩
      · obtain ⟨r, e, rfl⟩ := lp_ex (fun n k (_ : Unit) => fX7_says_3 n (nI t) (nI law) u v xx (nI k) M) m (fun k _ => k ≤ c) (fun r => r = Sum.inl (nI c))
          (fun n a hP => absurd hP (by omega))
          (fun n k a hk hP => by
            by_cases ek : k = c
            · left
              subst ek
              refine ⟨_, ?_, rfl⟩
              rw [sX7_says_3, fX7_says_3b, gi_neg hnt]
              simp (disch := (first | assumption | trivial | omega)) only [e0, ec, lit, neg1, oI_s, addN, mulN, subN, clN, gdN, ltN, leN, eqN, nIo, oIn, oI_eq, divN, remN, giT, giF, lzE, prE, bdE, smL, smR, shlN, shrN, hasE, andN, orN, bit1, bit0, max7, min7, giTr, giFa, gdp, litL, i2l, addL, mulL, divL, remL, cmLe, cmGt, cmGe, cmEq, eqL]
            · right
              have e1 : ¬ M 3 (681 * t + 1 + 3 * k) = nI law := by rw [hM, Nat.add_assoc]; exact a3 k (by omega)
              refine ⟨(), ?_, by omega⟩
              rw [sX7_says_3, fX7_says_3b, gi_neg hnt]
              simp (disch := (first | assumption | trivial | omega)) only [e0, e1, lit, neg1, oI_s, addN, mulN, subN, clN, gdN, ltN, leN, eqN, nIo, oIn, oI_eq, divN, remN, giT, giF, lzE, prE, bdE, smL, smR, shlN, shrN, hasE, andN, orN, bit1, bit0, max7, min7, giTr, giFa, gdp, litL, i2l, addL, mulL, divL, remL, cmLe, cmGt, cmGe, cmEq, eqL]) m 0 () FU (by omega) (Nat.zero_le _) (by show _ < 5000; omega)
        exact e
      · unfold fX7_summedUp
        simp (disch := (first | assumption | trivial | omega)) only [lit, mulN, addN, gdN, clN, eP, lzE]
        rw [z, bdE, prE, y4 rfl]
theorem bids_main (h : sv S IC IM) (ht : txs IC IM (S 0 1)) {t1 : Nat} (ht1 : t1 ≤ S 0 1) (hb : b < S 0 0) (hs : s < 5) : ∃ v, v < 100 ∧ ∀ C M, sv S C M → lik IC IM C M → (∃ C', fX6_bidsBy (oI t1) (nI b) (nI s) C = some (nI v, C') ∧ fC C C') ∧ ∀ J, ∃ M' J', fX7_bidsOf (oI t1) (nI b) (nI s) M J = some (nI v, M', J') ∧ fM M M' := by
  have bn := b_nb h
  have hb6 : b < 6 := by omega
  have bb := b_bu h hb6
  have bw := b_od h hs
  have hd : S 2 s * (S 5 b - S 4 b + 1) / 12 < 100 := by
    have : S 2 s * (S 5 b - S 4 b + 1) ≤ 99 * 12 := Nat.mul_le_mul (by omega) (by omega)
    omega
  have hm : S 2 s * (S 5 b - S 4 b + 1) ≤ 1188 := by
    have : S 2 s * (S 5 b - S 4 b + 1) ≤ 99 * 12 := Nat.mul_le_mul (by omega) (by omega)
    omega
  -- no law: the worth
  have dflt6 : ∀ C M, sv S C M → gd (vp_in (nI s) 5) (bd (fX0_longOf (nI b) C) (fun (u6 : Int32) => some ((((C 3 (nI s).toNatClampNeg) * u6) / nI 12), C))) = some (nI (S 2 s * (S 5 b - S 4 b + 1) / 12), C) := by
    intro C M g
    simp (disch := (first | assumption | trivial | omega)) only [gdN, clN, lo6 g, v_wo6 g, bdE, mulN, divN]
  cases t1 with
  | zero =>
    refine ⟨_, hd, fun C M g l => ⟨⟨C, ?_, fC_rf⟩, fun J => ?_⟩⟩
    · unfold fX6_bidsBy
      have nt : ¬ inR (oI 0) (S 0 1) := by
        rintro ⟨k, hk, e⟩
        exact nI_none (n := k) (by omega) e.symm
      rw [isT6n g nt, lzE, gi_pos (show nI 0 = (0 : Int32) from rfl)]
      exact dflt6 C M g
    · obtain ⟨M1, e1, f1, n1⟩ := nm7 (w := 11) (C := C) (by rw [fw_eq]; exact g) hb6 hs
      have g1 : sv S C M1 := sv_f g fC_rf (fun o a _ => f1 o a)
      refine ⟨M1, J, ?_, fun o a _ => f1 o a⟩
      unfold fX7_bidsOf fX7_says
      rw [e1, bdE]
      simp (disch := (first | assumption | trivial | omega)) only [lit, addN, gdN, clN, lo7 g1, v_wo7 g1, bdE, mulN, divN]
      have e3 : ∀ u v x, fX7_says_3 FU (oI 0) (nI 0) u v x (nI 0) M1 = some (Sum.inr ()) := by
        intro u v x
        show fX7_says_3 (4999 + 1) (oI 0) (nI 0) u v x (nI 0) M1 = _
        rw [sX7_says_3, fX7_says_3b, gi_pos (by decide)]
      rw [e3]
      rfl
  | succ t =>
    have ht4 : t < 4 := by omega
    rcases law_ok (S := S) (w := 11) (b := b) (s := s) (law := 0) (Or.inl rfl) bn.1 hb6 hs ht4 (by omega) (ht t (by omega)) with ⟨n6, n7⟩ | ⟨x, l6, l7⟩
    · refine ⟨_, hd, fun C M g l => ⟨⟨C, ?_, fC_rf⟩, fun J => ?_⟩⟩
      · unfold fX6_bidsBy
        rw [oI_s, isT6p g (inR_nI (by omega)), lzE, gi_neg (show ¬ nI 1 = (0 : Int32) from one_ne)]
        have z := n6 C l.1
        simp (disch := (first | assumption | trivial | omega)) only [lit, gdN, clN, z, bdE, giTr]
        have z2 := dflt6 C M g
        rw [gdN hs (by omega), clN (by omega)] at z2
        exact z2
      · obtain ⟨M1, e1, f1, n1⟩ := nm7 (w := 11) (C := C) (by rw [fw_eq]; exact g) hb6 hs
        have g1 : sv S C M1 := sv_f g fC_rf (fun o a _ => f1 o a)
        refine ⟨M1, J, ?_, fun o a _ => f1 o a⟩
        unfold fX7_bidsOf fX7_says
        rw [e1, bdE, oI_s]
        simp (disch := (first | assumption | trivial | omega)) only [lit, addN, gdN, clN, lo7 g1, v_wo7 g1, bdE, mulN, divN]
        rw [n7 M1 ((f1 3 (by omega)).trans l.2)]
        rfl
    · obtain ⟨v, hv, hh⟩ := held99 x
      refine ⟨v, hv, fun C M g l => ⟨?_, fun J => ?_⟩⟩
      · obtain ⟨r1, C1, r2, r3⟩ := l6 C M (by rw [fw_eq]; exact g) l.1
        refine ⟨C1, ?_, r3⟩
        unfold fX6_bidsBy
        rw [oI_s, isT6p g (inR_nI (by omega)), lzE, gi_neg (show ¬ nI 1 = (0 : Int32) from one_ne)]
        simp (disch := (first | assumption | trivial | omega)) only [lit, gdN, clN, r1, bdE, eqN, giF, r2, prE, hh]
      · obtain ⟨M1, e1, f1, n1⟩ := nm7 (w := 11) (C := C) (by rw [fw_eq]; exact g) hb6 hs
        have g1 : sv S C M1 := sv_f g fC_rf (fun o a _ => f1 o a)
        obtain ⟨c, M2, J2, s1, s2, s3⟩ := l7 C M1 J (by rw [fw_eq]; exact g1) ((f1 3 (by omega)).trans l.2) n1
        refine ⟨M2, J2, ?_, fun o a c => (s3 o c).trans (f1 o a)⟩
        unfold fX7_bidsOf fX7_says
        rw [e1, bdE, oI_s]
        simp (disch := (first | assumption | trivial | omega)) only [lit, addN, gdN, clN, lo7 g1, v_wo7 g1, bdE, mulN, divN]
        rw [s1, bdE, smL, s2, bdE, prE, prE, held_eq, hh]
        rfl
theorem BIDS_ok : BIDS := by
  intro S IC IM h ht
  have key : ∀ t b s, ∃ v, t ≤ S 0 1 → b < S 0 0 → s < 5 → v < 100 ∧ ∀ C M, sv S C M → lik IC IM C M → (∃ C', fX6_bidsBy (oI t) (nI b) (nI s) C = some (nI v, C') ∧ fC C C') ∧ ∀ J, ∃ M' J', fX7_bidsOf (oI t) (nI b) (nI s) M J = some (nI v, M', J') ∧ fM M M' := by
    intro t b s
    by_cases c : t ≤ S 0 1 ∧ b < S 0 0 ∧ s < 5
    · obtain ⟨v, hv⟩ := bids_main h ht c.1 c.2.1 c.2.2
      exact ⟨v, fun _ _ _ => hv⟩
    · exact ⟨0, fun a1 a2 a3 => absurd ⟨a1, a2, a3⟩ c⟩
  refine ⟨fun t b s => Classical.choose (key t b s), fun C M g l t b s h1 h2 h3 => ?_⟩
  obtain ⟨q1, q2⟩ := Classical.choose_spec (key t b s) h1 h2 h3
  exact ⟨q1, q2 C M g l⟩
theorem EARN_ok : EARN := by
  intro S w IC IM b hw h ht hb
  have bn := b_nb h
  have bw := b_w h
  have hb6 : b < 6 := by omega
  have c14 : IC 1 14 = oI (S 0 2) := by have z := v_ru6 h; exact z
  have c13 : IC 1 13 = nI (S 0 1) := by have z := v_nt6 h; exact z
  have c5 : IC w 5 = nI (S 10 3) := by have z := v_so6 h; exact z
  have isT : ∀ x, fX6_isText x IC = fX6_isText x (fw w IC) := fun x => by
    unfold fX6_isText
    rw [fw_o (by omega) (by omega) (by omega)]
  have nm : ∃ M1, fX7_name (nI b) (nI (S 10 3)) IM = some M1 ∧ (∀ o, o ≠ 6 → M1 o = IM o) ∧ ∀ v, v < 8 → M1 6 v = nI (nvS S b (S 10 3) v) := nm7 h hb6 bw.2.2.2.1
  obtain ⟨M1, e1, f1, n1⟩ := nm
  have g1 : sv S (fw w IC) M1 := sv_f h fC_rf (fun o a _ => f1 o a)
  have one : (1 : Int32) = nI 10 - nI 9 := by decide
  cases hc : S 0 2 with
  | zero =>
    refine ⟨10, by omega, ⟨IC, ?_, fC_rf⟩, fun JM => ⟨M1, JM, ?_, fun o a _ => f1 o a⟩⟩
    · unfold fX6_earns
      have nt : ¬ inR (oI 0) (S 0 1) := by
        rintro ⟨k, hk, e⟩
        exact nI_none (n := k) (by omega) e.symm
      rw [c14, hc, isT, isT6n h nt, gi_pos (show nI 0 = (0 : Int32) from rfl), one]
    · unfold fX7_earnsOf fX7_says
      rw [v_so7 h, e1, bdE, v_ru7 g1, hc]
      have e3 : ∀ u v x, fX7_says_3 FU (oI 0) 1 u v x 0 M1 = some (Sum.inr ()) := by
        intro u v x
        show fX7_says_3 (4999 + 1) (oI 0) (nI 1) u v x (nI 0) M1 = _
        rw [sX7_says_3, fX7_says_3b, gi_pos (by decide)]
      rw [e3]
      show some ((1 : Int32), M1, JM) = _
      rw [one]
  | succ t =>
    have ht4 : t < 4 := by omega
    rcases law_ok (S := S) (w := w) (b := b) (s := S 10 3) (law := 1) hw bn.1 hb6 bw.2.2.2.1 ht4 (by omega) (ht t (by omega)) with ⟨n6, n7⟩ | ⟨x, l6, l7⟩
    · refine ⟨10, by omega, ⟨IC, ?_, fC_rf⟩, fun JM => ⟨M1, JM, ?_, fun o a _ => f1 o a⟩⟩
      · unfold fX6_earns
        have z := n6 IC (fun _ _ => rfl)
        rw [c14, hc, oI_s, isT, isT6p h (inR_nI (by omega)), gi_neg (show ¬ nI 1 = (0 : Int32) from one_ne)]
        simp (disch := (first | assumption | trivial | omega)) only [lit, gdN, clN, z, bdE, giTr]
        exact congrArg (fun q => some (q, IC)) one
      · unfold fX7_earnsOf fX7_says
        rw [v_so7 h, e1, bdE, v_ru7 g1, hc, oI_s]
        have z := n7 M1 (f1 3 (by omega))
        have z' : ∀ u v x, fX7_says_3 FU (nI t) 1 u v x 0 M1 = some (Sum.inr ()) := z
        rw [z']
        show some ((1 : Int32), M1, JM) = _
        rw [one]
    · obtain ⟨v, hv, hh⟩ := held18 x
      refine ⟨v, hv, ?_, fun JM => ?_⟩
      · obtain ⟨r1, C1, r2, r3⟩ := l6 IC IM h (fun _ _ => rfl)
        refine ⟨C1, ?_, r3⟩
        unfold fX6_earns
        rw [c14, hc, oI_s, isT, isT6p h (inR_nI (by omega)), gi_neg (show ¬ nI 1 = (0 : Int32) from one_ne), c5]
        have hh' : fX6_held x (-9) 9 = nI v - nI 9 := hh
        have r1' : fX3_rules (296 + 8 * t) 1 IC = some (nI 1) := r1
        have r2' : fX2_worked (296 + 8 * t) w 1 (nI b) (nI (S 10 3)) IC = some (x, C1) := r2
        rw [gdN (by omega) (by omega), clN (by omega), r1', bdE, gi_neg (show ¬ nI 1 = (0 : Int32) from one_ne), r2', bdE, prE, hh']
      · obtain ⟨c, M2, J2, s1, s2, s3⟩ := l7 IC M1 JM g1 (f1 3 (by omega)) n1
        refine ⟨M2, J2, ?_, fun o a c => (s3 o c).trans (f1 o a)⟩
        unfold fX7_earnsOf fX7_says
        have hh' : fX6_held x (-9) 9 = nI v - nI 9 := hh
        have s1' : ∀ u v x, fX7_says_3 FU (nI t) 1 u v x 0 M1 = some (Sum.inl (nI c)) := s1
        rw [v_so7 h, e1, bdE, v_ru7 g1, hc, oI_s, s1', bdE, smL, s2, bdE, prE, prE, held_eq, hh']
        rfl
end LW
