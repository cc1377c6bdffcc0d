-- 52: PURE PART: bids, as the texts give them; a sale (out of wip/whole/pure by pure.py)
def fC (I I' : gI) : Prop := ∀ o, o ≠ 288 → I' o = I o
def fM (I I' : gI) : Prop := ∀ o, o ≠ 6 → o ≠ 8 → I' o = I o
theorem fC_rf {I : gI} : fC I I := fun _ _ => rfl
theorem fM_rf {I : gI} : fM I I := fun _ _ _ => rfl
theorem fC_tr {I1 I2 I3 : gI} (h : fC I1 I2) (g : fC I2 I3) : fC I1 I3 := fun o a => (g o a).trans (h o a)
theorem fM_tr {I1 I2 I3 : gI} (h : fM I1 I2) (g : fM I2 I3) : fM I1 I3 := fun o a b => (g o a b).trans (h o a b)
theorem eqC_f {I I' : gI} (h : fC I I') : eqC I I' := fun o ho => h o (by omega)
theorem eqM_f {I I' : gI} (h : fM I I') : eqM I I' := by
  refine ⟨h 1 (by omega) (by omega), h 2 (by omega) (by omega), h 3 (by omega) (by omega), h 4 (by omega) (by omega), ?_, ?_, ?_, ?_⟩ <;> rw [h 0 (by omega) (by omega)]
theorem V0_f {IC IC' IM IM' : gI} {JM JM' : gJ} (h : V0 IC IM JM) (hC : fC IC IC') (hM : fM IM IM') : V0 IC' IM' JM' := V0_eq h (eqC_f hC) (eqM_f hM)
theorem sv_f {S : Nat → Nat → Nat} {IC IC' IM IM' : gI} (h : sv S IC IM) (hC : fC IC IC') (hM : fM IM IM') : sv S IC' IM' := sv_eq h (eqC_f hC) (eqM_f hM)
def txs (IC IM : gI) (nt : Nat) : Prop := ∀ t, t < nt → rText IC (IM 3) t
def lik (IC IM IC' IM' : gI) : Prop := (∀ o, 296 ≤ o → IC' o = IC o) ∧ IM' 3 = IM 3
theorem lik_f {IC IC' IM IM' : gI} (hC : fC IC IC') (hM : fM IM IM') : lik IC IM IC' IM' := ⟨fun o ho => hC o (by omega), hM 3 (by omega) (by omega)⟩
theorem lik_rf {IC IM : gI} : lik IC IM IC IM := ⟨fun _ _ => rfl, rfl⟩
theorem lik_tr {A A' B B' C C' : gI} (h : lik A A' B B') (g : lik B B' C C') : lik A A' C C' := ⟨fun o ho => (g.1 o ho).trans (h.1 o ho), g.2.trans h.2⟩
/-- both sides bid alike: text t (one more; 0 none), buyer b, sort s -/
def bidOK (S : Nat → Nat → Nat) (bV : Nat → Nat → Nat → Nat) (IC IM : gI) : Prop := ∀ t b s, t ≤ S 0 1 → b < S 0 0 → s < 5 → bV t b s < 100 ∧ (∃ I', fX6_bidsBy (oI t) (nI b) (nI s) IC = some (nI (bV t b s), I') ∧ fC IC I') ∧ ∀ JM, ∃ I' J', fX7_bidsOf (oI t) (nI b) (nI s) IM JM = some (nI (bV t b s), I', J') ∧ fM IM I'
def BIDS : Prop := ∀ S IC IM, sv S IC IM → txs IC IM (S 0 1) → ∃ bV, ∀ IC' IM', sv S IC' IM' → lik IC IM IC' IM' → bidOK S bV IC' IM'
theorem view2 {IC IM : gI} {JM : gJ} (hV : V0 IC IM JM) : ∃ S, sv S IC IM ∧ txs IC IM (S 0 1) := by
  obtain ⟨S, h⟩ := view hV
  obtain ⟨nb, nt, mb, mt, h1, ⟨p1, p2, p3, p4, p5, p6, p7, p8, p9⟩, h3, h4, h5⟩ := hV
  obtain ⟨n1, n2⟩ := nb_of h p1
  exact ⟨S, h, fun t ht => h5 t (by omega)⟩
theorem view3 (hB : BIDS) {IC IM : gI} {JM : gJ} (hV : V0 IC IM JM) : ∃ S bV, sv S IC IM ∧ ∀ IC' IM', sv S IC' IM' → lik IC IM IC' IM' → bidOK S bV IC' IM' := by
  obtain ⟨S, h, ht⟩ := view2 hV
  obtain ⟨bV, hb⟩ := hB S IC IM h ht
  exact ⟨S, bV, h, hb⟩
theorem l2i (a : Nat) : (lN a).toInt32 = nI a := Int64.toInt32_ofNat'
theorem held7 {a hi : Nat} (ha : a < 2147483648) (hh : hi < 2147483648) : fX7_held (nI a).toInt64 (nI 0) (nI hi) = nI (min a hi) := by
  unfold fX7_held
  rw [i2l ha]
  by_cases c : a ≤ hi
  · rw [Nat.min_eq_left c]
    simp (disch := (first | assumption | trivial | omega)) only [l2i, lit, neg1, oI_s, addN, mulN, subN, clN, gdN, ltN, leN, eqN, nIo, oIn, oI_eq, divN, remN, giT, giF, lzE, prE, bdE, smL, smR, shlN, shrN, hasE, andN, orN, bit1, bit0, max7, min7, giTr, giFa, gdp, litL, i2l, addL, mulL, divL, remL, cmLe, cmGt, cmGe, cmEq, eqL]
  · rw [Nat.min_eq_right (by omega)]
    simp (disch := (first | assumption | trivial | omega)) only [l2i, lit, neg1, oI_s, addN, mulN, subN, clN, gdN, ltN, leN, eqN, nIo, oIn, oI_eq, divN, remN, giT, giF, lzE, prE, bdE, smL, smR, shlN, shrN, hasE, andN, orN, bit1, bit0, max7, min7, giTr, giFa, gdp, litL, i2l, addL, mulL, divL, remL, cmLe, cmGt, cmGe, cmEq, eqL]
theorem heldL {a hi : Nat} (ha : a < 2147483648) (hh : hi < 2147483648) : fX7_held (lN a) (nI 0) (nI hi) = nI (min a hi) := by
  rw [← i2l ha]
  exact held7 ha hh
/-- what buyer b bids now -/
def bnw (S : Nat → Nat → Nat) (bV : Nat → Nat → Nat → Nat) (b : Nat) : Nat := bV (S 0 2) b (S 10 3)
section BN
variable {S : Nat → Nat → Nat} {bV : Nat → Nat → Nat → Nat} {IC IM : gI} {JM : gJ} {b : Nat}
theorem bnw_lt (h : sv S IC IM) (hb : bidOK S bV IC IM) (hn : b < S 0 0) : bnw S bV b < 100 := (hb _ b _ (b_nb h).2.2 hn (b_w h).2.2.2.1).1
theorem bn6 (h : sv S IC IM) (hb : bidOK S bV IC IM) (hn : b < S 0 0) : ∃ I', fX6_bidsNow (nI b) IC = some (nI (bnw S bV b), I') ∧ fC IC I' := by
  obtain ⟨_, ⟨I', e, f⟩, _⟩ := hb _ b _ (b_nb h).2.2 hn (b_w h).2.2.2.1
  refine ⟨I', ?_, f⟩
  unfold fX6_bidsNow
  rw [v_ru6 h, v_so6 h, e]
  rfl
theorem bn7 (h : sv S IC IM) (hb : bidOK S bV IC IM) (hn : b < S 0 0) (JM : gJ) : ∃ I' J', fX7_bidsNow (nI b) IM JM = some (nI (bnw S bV b), I', J') ∧ fM IM I' := by
  obtain ⟨_, _, e⟩ := hb _ b _ (b_nb h).2.2 hn (b_w h).2.2.2.1
  obtain ⟨I', J', e, f⟩ := e JM
  refine ⟨I', J', ?_, f⟩
  unfold fX7_bidsNow
  rw [v_ru7 h, v_so7 h, e]
  rfl
/-- buyer b can be sold to -/
def cs (S : Nat → Nat → Nat) (bV : Nat → Nat → Nat → Nat) (b : Nat) : Prop := (S 3 b).testBit (S 10 3) = true ∧ andn (sq S b) (S 10 5) = 0 ∧ bnw S bV b ≤ S 13 b
theorem price (h : sv S IC IM) (hb : bidOK S bV IC IM) (a1 : Int32) : (∃ b, a1 = nI b ∧ b < S 0 0 ∧ cs S bV b ∧ (∃ I', fX6_priceFor a1 IC = some (nI (bnw S bV b), I') ∧ fC IC I') ∧ ∀ JM, ∃ I' J', fX7_canSell a1 IM JM = some (1, I', J') ∧ fM IM I') ∨ ((∃ I', fX6_priceFor a1 IC = some (oI 0, I') ∧ fC IC I') ∧ ∀ JM, ∃ I' J', fX7_canSell a1 IM JM = some (0, I', J') ∧ fM IM I') := by
  have bn := b_nb h
  have bw := b_w h
  by_cases c : inR a1 (S 0 0)
  · have i6 := isB6p h c
    have i7 := isB7p h c
    obtain ⟨b, hn, rfl⟩ := c
    have hb6 : b < 6 := by omega
    have hs5 : S 10 3 < 32 := by omega
    by_cases c1 : (S 3 b).testBit (S 10 3) = true
    · have w6 := ws6p h hb6 hs5 c1
      have w7 := dw7p h hb6 hs5 c1
      have hq := sq_lt h hb6
      have hal : andn (sq S b) (S 10 5) < 4096 := Nat.lt_of_le_of_lt andn_le hq
      by_cases c2 : andn (sq S b) (S 10 5) = 0
      · obtain ⟨C1, e6, f6⟩ := bn6 h hb hn
        have e12 : C1 12 b = nI (S 13 b) := by rw [f6 12 (by omega)]; exact v_pu6 h hb6
        have hv := bnw_lt h hb hn
        have hp := b_pu h hb6
        have e6' : fX6_bidsBy (oI (S 0 2)) (nI b) (nI (S 10 3)) IC = some (nI (bnw S bV b), C1) := by
          unfold fX6_bidsNow at e6
          rw [v_ru6 h, v_so6 h] at e6
          obtain ⟨_, ⟨I', e, f⟩, _⟩ := hb _ b _ (b_nb h).2.2 hn (b_w h).2.2.2.1
          rw [e] at e6 ⊢
          exact e6
        by_cases c3 : bnw S bV b ≤ S 13 b
        · left
          refine ⟨b, rfl, hn, ⟨c1, c2, c3⟩, ⟨C1, ?_, f6⟩, fun JM => ?_⟩
          · unfold fX6_priceFor
            rw [i6]
            simp (disch := (first | assumption | trivial | omega)) only [v_so6 h, w6, sl6 h, v_f6 h]
            simp (disch := (first | assumption | trivial | omega)) only [notN', show sq S b &&& (4294967295 - S 10 5) = 0 from c2, v_ru6 h, e6', e12, lit, neg1, oI_s, addN, mulN, subN, clN, gdN, ltN, leN, eqN, nIo, oIn, oI_eq, divN, remN, giT, giF, lzE, prE, bdE, smL, smR, shlN, shrN, hasE, andN, orN, bit1, bit0, max7, min7, giTr, giFa, gdp, litL, i2l, addL, mulL, divL, remL, cmLe, cmGt, cmGe, cmEq, eqL]
          · obtain ⟨M1, J1, e7, f7⟩ := bn7 h hb hn JM
            refine ⟨M1, J1, ?_, f7⟩
            unfold fX7_canSell
            rw [i7]
            simp (disch := (first | assumption | trivial | omega)) only [v_so7 h, w7, sl7 h, fn7 h]
            simp (disch := (first | assumption | trivial | omega)) only [notN', show sq S b &&& (4294967295 - S 10 5) = 0 from c2, e7, v_pu7 h, lit, neg1, oI_s, addN, mulN, subN, clN, gdN, ltN, leN, eqN, nIo, oIn, oI_eq, divN, remN, giT, giF, lzE, prE, bdE, smL, smR, shlN, shrN, hasE, andN, orN, bit1, bit0, max7, min7, giTr, giFa, gdp, litL, i2l, addL, mulL, divL, remL, cmLe, cmGt, cmGe, cmEq, eqL]
        · right
          refine ⟨⟨C1, ?_, f6⟩, fun JM => ?_⟩
          · unfold fX6_priceFor
            rw [i6]
            simp (disch := (first | assumption | trivial | omega)) only [v_so6 h, w6, sl6 h, v_f6 h]
            simp (disch := (first | assumption | trivial | omega)) only [notN', show sq S b &&& (4294967295 - S 10 5) = 0 from c2, v_ru6 h, e6', e12, lit, neg1, oI_s, addN, mulN, subN, clN, gdN, ltN, leN, eqN, nIo, oIn, oI_eq, divN, remN, giT, giF, lzE, prE, bdE, smL, smR, shlN, shrN, hasE, andN, orN, bit1, bit0, max7, min7, giTr, giFa, gdp, litL, i2l, addL, mulL, divL, remL, cmLe, cmGt, cmGe, cmEq, eqL]
          · obtain ⟨M1, J1, e7, f7⟩ := bn7 h hb hn JM
            refine ⟨M1, J1, ?_, f7⟩
            unfold fX7_canSell
            rw [i7]
            simp (disch := (first | assumption | trivial | omega)) only [v_so7 h, w7, sl7 h, fn7 h]
            simp (disch := (first | assumption | trivial | omega)) only [notN', show sq S b &&& (4294967295 - S 10 5) = 0 from c2, e7, v_pu7 h, lit, neg1, oI_s, addN, mulN, subN, clN, gdN, ltN, leN, eqN, nIo, oIn, oI_eq, divN, remN, giT, giF, lzE, prE, bdE, smL, smR, shlN, shrN, hasE, andN, orN, bit1, bit0, max7, min7, giTr, giFa, gdp, litL, i2l, addL, mulL, divL, remL, cmLe, cmGt, cmGe, cmEq, eqL]
      · right
        have c2' : ¬ sq S b &&& (4294967295 - S 10 5) = 0 := c2
        have hal' : sq S b &&& (4294967295 - S 10 5) < 4096 := hal
        refine ⟨⟨IC, ?_, fC_rf⟩, fun JM => ⟨IM, JM, ?_, fM_rf⟩⟩
        · unfold fX6_priceFor
          rw [i6]
          simp (disch := (first | assumption | trivial | omega)) only [v_so6 h, w6, sl6 h, v_f6 h]
          simp (disch := (first | assumption | trivial | omega)) only [notN', c2', lit, neg1, oI_s, addN, mulN, subN, clN, gdN, ltN, leN, eqN, nIo, oIn, oI_eq, divN, remN, giT, giF, lzE, prE, bdE, smL, smR, shlN, shrN, hasE, andN, orN, bit1, bit0, max7, min7, giTr, giFa, gdp, litL, i2l, addL, mulL, divL, remL, cmLe, cmGt, cmGe, cmEq, eqL]
        · unfold fX7_canSell
          rw [i7]
          simp (disch := (first | assumption | trivial | omega)) only [v_so7 h, w7, sl7 h, fn7 h]
          simp (disch := (first | assumption | trivial | omega)) only [notN', c2', lit, neg1, oI_s, addN, mulN, subN, clN, gdN, ltN, leN, eqN, nIo, oIn, oI_eq, divN, remN, giT, giF, lzE, prE, bdE, smL, smR, shlN, shrN, hasE, andN, orN, bit1, bit0, max7, min7, giTr, giFa, gdp, litL, i2l, addL, mulL, divL, remL, cmLe, cmGt, cmGe, cmEq, eqL]
    · right
      refine ⟨⟨IC, ?_, fC_rf⟩, fun JM => ⟨IM, JM, ?_, fM_rf⟩⟩
      · unfold fX6_priceFor
        rw [i6, v_so6 h, ws6n h hb6 hs5 c1]
        simp (disch := (first | assumption | trivial | omega)) only [lit, neg1, oI_s, addN, mulN, subN, clN, gdN, ltN, leN, eqN, nIo, oIn, oI_eq, divN, remN, giT, giF, lzE, prE, bdE, smL, smR, shlN, shrN, hasE, andN, orN, bit1, bit0, max7, min7, giTr, giFa, gdp, litL, i2l, addL, mulL, divL, remL, cmLe, cmGt, cmGe, cmEq, eqL]
      · unfold fX7_canSell
        rw [i7, v_so7 h, dw7n h hb6 hs5 c1]
        simp (disch := (first | assumption | trivial | omega)) only [lit, neg1, oI_s, addN, mulN, subN, clN, gdN, ltN, leN, eqN, nIo, oIn, oI_eq, divN, remN, giT, giF, lzE, prE, bdE, smL, smR, shlN, shrN, hasE, andN, orN, bit1, bit0, max7, min7, giTr, giFa, gdp, litL, i2l, addL, mulL, divL, remL, cmLe, cmGt, cmGe, cmEq, eqL]
  · right
    refine ⟨⟨IC, ?_, fC_rf⟩, fun JM => ⟨IM, JM, ?_, fM_rf⟩⟩
    · unfold fX6_priceFor
      rw [isB6n h c]
      simp (disch := (first | assumption | trivial | omega)) only [lit, neg1, oI_s, addN, mulN, subN, clN, gdN, ltN, leN, eqN, nIo, oIn, oI_eq, divN, remN, giT, giF, lzE, prE, bdE, smL, smR, shlN, shrN, hasE, andN, orN, bit1, bit0, max7, min7, giTr, giFa, gdp, litL, i2l, addL, mulL, divL, remL, cmLe, cmGt, cmGe, cmEq, eqL]
    · unfold fX7_canSell
      rw [isB7n h c]
      simp (disch := (first | assumption | trivial | omega)) only [lit, neg1, oI_s, addN, mulN, subN, clN, gdN, ltN, leN, eqN, nIo, oIn, oI_eq, divN, remN, giT, giF, lzE, prE, bdE, smL, smR, shlN, shrN, hasE, andN, orN, bit1, bit0, max7, min7, giTr, giFa, gdp, litL, i2l, addL, mulL, divL, remL, cmLe, cmGt, cmGe, cmEq, eqL]
end BN
theorem case_52 (hB : BIDS) : st_52 V0 := by
  intro a1 IC IM JM hV
  obtain ⟨S, bV, h, hb⟩ := view3 hB hV
  rcases price h (hb _ _ h lik_rf) a1 with ⟨b, rfl, hn, hc, ⟨C1, e6, f6⟩, e7⟩ | ⟨⟨C1, e6, f6⟩, e7⟩
  · obtain ⟨M1, J1, e7, f7⟩ := e7 JM
    have hv := bnw_lt h (hb _ _ h lik_rf) hn
    refine ⟨1, C1, M1, J1, ?_, ?_, V0_f hV f6 f7⟩
    · unfold fX6_can
      simp (disch := (first | assumption | trivial | omega)) only [e6, lit, neg1, oI_s, addN, mulN, subN, clN, gdN, ltN, leN, eqN, nIo, oIn, oI_eq, divN, remN, giT, giF, lzE, prE, bdE, smL, smR, shlN, shrN, hasE, andN, orN, bit1, bit0, max7, min7, giTr, giFa, gdp, litL, i2l, addL, mulL, divL, remL, cmLe, cmGt, cmGe, cmEq, eqL]
    · unfold fX7_can
      rw [e7]
      rfl
  · obtain ⟨M1, J1, e7, f7⟩ := e7 JM
    refine ⟨0, C1, M1, J1, ?_, ?_, V0_f hV f6 f7⟩
    · unfold fX6_can
      simp (disch := (first | assumption | trivial | omega)) only [e6, lit, neg1, oI_s, addN, mulN, subN, clN, gdN, ltN, leN, eqN, nIo, oIn, oI_eq, divN, remN, giT, giF, lzE, prE, bdE, smL, smR, shlN, shrN, hasE, andN, orN, bit1, bit0, max7, min7, giTr, giFa, gdp, litL, i2l, addL, mulL, divL, remL, cmLe, cmGt, cmGe, cmEq, eqL]
    · unfold fX7_can
      rw [e7]
      rfl
/-- a sale -/
theorem se_ok {S : Nat → Nat → Nat} {bV : Nat → Nat → Nat → Nat} {IC IM : gI} {JM : gJ} {b : Nat} (kV : V0 IC IM JM) (g : sv S IC IM) (hb : bidOK S bV IC IM) (hn : b < S 0 0) (hc : cs S bV b) : ∃ IC' IM' JM', fX6_sellTo (nI b) (nI (bnw S bV b)) IC = some IC' ∧ fX7_sellNow (nI b) IM JM = some (nI (bnw S bV b), IM', JM') ∧ V0 IC' IM' JM' := by
  obtain ⟨c1, c2, c3⟩ := hc
  have bn := b_nb g
  have bw := b_w g
  have hb6 : b < 6 := by omega
  have bb := b_bu g hb6
  have hv := bnw_lt g hb hn
  have hp := b_pu g hb6
  have hq := sq_lt g hb6
  have ow1 := own_of kV g
  obtain ⟨M1, J1, e7, f7⟩ := bn7 g hb hn JM
  have g1 : sv S IC M1 := sv_f g fC_rf f7
  have kV1 : V0 IC M1 J1 := V0_f kV fC_rf f7
  generalize bnw S bV b = v at hv c3 e7 ⊢
  have hsub : ∀ j, j < 12 → S 4 b ≤ j → j ≤ S 5 b → S 11 j = 0 := fun j hj h1 h2 => by
    by_cases q : S 11 j = 0
    · exact q
    · exfalso
      have z := (bit_z (n := 12) (Nat.lt_of_le_of_lt andn_le hq)).mp c2 j hj
      apply z
      rw [andn_bit (by omega) (by omega), sq_bit g hb6 hj, (b_sl g hj).2]
      exact ⟨⟨h1, h2⟩, q⟩
  have hlt : andn (S 10 5) (sq S b) < 4096 := Nat.lt_of_le_of_lt andn_le bw.2.2.2.2.2
  obtain ⟨M2, t1, t2, t3, t4, t5⟩ := lp_sl (fun n k a => fX7_sellNow_52 n (nI b) (nI v) (nI k) a) (S 4 b) (S 5 b + 1) (fun j => b + 1) (S 11) (wI (wI M1 1 (23 + b) (nI (S 13 b - v))) 1 8 (nI (min (S 10 2 + v) 99999))) (fun j hj => by rw [wI_ne (by omega), wI_ne (by omega)]; exact v_sl7 g1 hj)
    (fun n a hP => by
      try dsimp only
      have e51 : a 1 (51 + b) = nI (S 5 b) := by rw [hP _ (by omega), wI_ne (by omega), wI_ne (by omega)]; exact v_to7 g1 hb6
      rw [sX7_sellNow_52, fX7_sellNow_52b]
      simp (disch := (first | assumption | trivial | omega)) only [e51, lit, neg1, oI_s, addN, mulN, subN, clN, gdN, ltN, leN, eqN, nIo, oIn, oI_eq, divN, remN, giT, giF, lzE, prE, bdE, smL, smR, shlN, shrN, hasE, andN, orN, bit1, bit0, max7, min7, giTr, giFa, gdp, litL, i2l, addL, mulL, divL, remL, cmLe, cmGt, cmGe, cmEq, eqL])
    (fun n k a h1 h2 hP e => by
      try dsimp only
      left
      have e51 : a 1 (51 + b) = nI (S 5 b) := by rw [hP _ (by omega), wI_ne (by omega), wI_ne (by omega)]; exact v_to7 g1 hb6
      rw [sX7_sellNow_52, fX7_sellNow_52b]
      simp (disch := (first | assumption | trivial | omega)) only [e51, lit, neg1, oI_s, addN, mulN, subN, clN, gdN, ltN, leN, eqN, nIo, oIn, oI_eq, divN, remN, giT, giF, lzE, prE, bdE, smL, smR, shlN, shrN, hasE, andN, orN, bit1, bit0, max7, min7, giTr, giFa, gdp, litL, i2l, addL, mulL, divL, remL, cmLe, cmGt, cmGe, cmEq, eqL]
      all_goals rfl) (by omega) (by omega)
  try dsimp only at t1 t4
  have hM1 : ∀ k, k < 11 ∨ 23 ≤ k → k ≠ 8 → k ≠ 23 + b → M2 1 k = M1 1 k := fun k h1 h2 h3 => by
    rw [t3 k h1, wI_ne (by omega), wI_ne (by omega)]
  have hmin : min (S 10 2 + v) 99999 < 100000 := by omega
  obtain ⟨IC3, IM3, w1, w2, w3⟩ := mutw (S := S) (IC2 := wI (wI (wI (wI IC 13 b (nI (sq S b))) 11 4 (nI (andn (S 10 5) (sq S b)))) 12 b (nI (S 13 b - v))) 11 6 (nI (min (S 10 2 + v) 99999))) (IM2 := M2) J1 kV1 g1 (S 10 0) (S 10 1) (min (S 10 2 + v) 99999) (S 10 3) (andn (S 10 5) (sq S b)) (fun j => if S 4 b ≤ j ∧ j ≤ S 5 b then b + 1 else S 11 j) (fun j => if j = b then sq S b else S 12 j) (fun j => if j = b then S 13 b - v else S 13 j)
    ⟨bw.1, bw.2.1, hmin, bw.2.2.2.1, hlt⟩
    (by
      rw [hM1 6 (by omega) (by omega) (by omega), hM1 7 (by omega) (by omega) (by omega), hM1 9 (by omega) (by omega) (by omega), t3 8 (by omega)]
      simp (disch := omega) only [wI_ne, wI_eq, wI_o]
      exact ⟨v_da7 g1, v_da6 g1, v_dx7 g1, v_dx6 g1, trivial, trivial, v_so7 g1, v_so6 g1, trivial⟩)
    (fun j hj => by
      have bj := b_sl g hj
      try dsimp only
      by_cases q : S 4 b ≤ j ∧ j ≤ S 5 b
      · rw [if_pos q, andn_bit (by omega) (by omega), sq_bit g hb6 hj]
        refine ⟨by omega, t4 j q.1 (by omega), ⟨fun z => absurd q z.2, fun z => absurd z (by omega)⟩⟩
      · rw [if_neg q, andn_bit (by omega) (by omega), sq_bit g hb6 hj, bj.2]
        refine ⟨bj.1, ?_, ⟨fun z => z.1, fun z => ⟨z, q⟩⟩⟩
        rw [t5 j hj (by omega), wI_ne (by omega), wI_ne (by omega)]
        exact v_sl7 g1 hj)
    (fun d hd => by
      have bd' := b_ow g hd
      try dsimp only
      by_cases e : d = b
      · subst e
        rw [if_pos rfl, wI_o (by omega), wI_o (by omega), wI_o (by omega), wI_eq]
        refine ⟨hq, rfl, fun j hj => ?_⟩
        rw [sq_bit g hb6 hj]
        by_cases q : S 4 d ≤ j ∧ j ≤ S 5 d
        · rw [if_pos q]; exact ⟨fun _ => rfl, fun _ => q⟩
        · rw [if_neg q]; exact ⟨fun z => absurd z q, fun z => absurd (ow1 j d hj hd z) q⟩
      · rw [if_neg e, wI_o (by omega), wI_o (by omega), wI_o (by omega), wI_ne (by omega)]
        refine ⟨bd'.1, v_ow6 g1 hd, fun j hj => ?_⟩
        rw [bd'.2 j hj]
        by_cases q : S 4 b ≤ j ∧ j ≤ S 5 b
        · rw [if_pos q, hsub j hj q.1 q.2]; omega
        · rw [if_neg q])
    (fun d hd => by
      have bd' := b_pu g hd
      try dsimp only
      by_cases e : d = b
      · subst e
        rw [if_pos rfl, t3 _ (by omega), wI_ne (by omega), wI_eq, wI_o (by omega), wI_eq]
        exact ⟨by omega, rfl, rfl⟩
      · rw [if_neg e, hM1 _ (by omega) (by omega) (by omega), wI_o (by omega), wI_ne (by omega), wI_o (by omega), wI_o (by omega)]
        exact ⟨bd', v_pu7 g1 hd, v_pu6 g1 hd⟩)
    (fun j d hj hd e => by
      try dsimp only at e
      by_cases q : S 4 b ≤ j ∧ j ≤ S 5 b
      · rw [if_pos q] at e
        have : d = b := by omega
        subst this; exact q
      · rw [if_neg q] at e; exact ow1 j d hj hd e)
    (fun o h1 h2 h3 => by rw [wI_o h1, wI_o h2, wI_o h1, wI_o h3]) (by rw [wI_ne (by omega), wI_o (by omega), wI_ne (by omega), wI_o (by omega)]) (fun o h1 => by rw [t2 o h1, wI_o h1, wI_o h1]) (fun k hk => hM1 k (by omega) (by omega) (by omega)) (k := 0) (x := b) (q := v) (by omega) (by omega) (by omega)
  refine ⟨IC3, IM3, J1, ?_, ?_, w3⟩
  · have g13 : sv S (wI IC 13 b (nI (sq S b))) M1 → True := fun _ => trivial
    have s6 := sl6 g hb6
    have s6' : fX0_slicesOf (nI b) (wI IC 13 b (nI (sq S b))) = some (nI (sq S b)) := by
      rw [← s6]
      unfold fX0_slicesOf
      rw [wI_o (by omega), wI_o (by omega)]
    unfold fX6_sellTo
    rw [s6, bdE]
    simp (disch := (first | assumption | trivial | omega)) only [clN, gdN, lzE]
    rw [s6', bdE]
    simp (disch := (first | assumption | trivial | omega)) only [v_f6 g, v_pu6 g, v_fu6 g, notN', wI_ne, wI_eq, wI_o, min7, lit, neg1, oI_s, addN, mulN, subN, clN, gdN, ltN, leN, eqN, nIo, oIn, oI_eq, divN, remN, giT, giF, lzE, prE, bdE, smL, smR, shlN, shrN, hasE, andN, orN, bit1, bit0, max7, min7, giTr, giFa, gdp, litL, i2l, addL, mulL, divL, remL, cmLe, cmGt, cmGe, cmEq, eqL]
    rw [Nat.min_comm 99999]
    exact (congrArg (fun z => bd z some) w1).trans rfl
  · unfold fX7_sellNow
    rw [e7]
    have e23 : M1 1 (23 + b) = nI (S 13 b) := v_pu7 g1 hb6
    have e45 : M1 1 (45 + b) = nI (S 4 b) := v_fr7 g1 hb6
    have e8 : M1 1 8 = nI (S 10 2) := v_fu7 g1
    simp (disch := (first | assumption | trivial | omega)) only [e23, e45, e8, wI_ne, wI_eq, heldL, lit, neg1, oI_s, addN, mulN, subN, clN, gdN, ltN, leN, eqN, nIo, oIn, oI_eq, divN, remN, giT, giF, lzE, prE, bdE, smL, smR, shlN, shrN, hasE, andN, orN, bit1, bit0, max7, min7, giTr, giFa, gdp, litL, i2l, addL, mulL, divL, remL, cmLe, cmGt, cmGe, cmEq, eqL]
    rw [t1, bdE, w2]
    rfl
theorem case_7 (hB : BIDS) : st_7 V0 := by
  intro a1 IC IM JM hV
  obtain ⟨S, bV, h, hb⟩ := view3 hB hV
  rcases price h (hb _ _ h lik_rf) a1 with ⟨b, rfl, hn, hc, ⟨C1, e6, f6⟩, e7⟩ | ⟨⟨C1, e6, f6⟩, e7⟩
  · obtain ⟨M1, J1, e7, f7⟩ := e7 JM
    have hv := bnw_lt h (hb _ _ h lik_rf) hn
    obtain ⟨C2, M2, k1, k2, kV, kC, kC1, kM, kM1⟩ := keep (V0_f (JM' := J1) hV f6 f7)
    have g := sv_kp (sv_f h f6 f7) kC kC1 kM1
    obtain ⟨C3, M3, J3, s1, s2, s3⟩ := se_ok kV g (hb _ _ g (lik_tr (lik_f f6 f7) ⟨fun o ho => kC o (by omega) (by omega), kM 3 (by omega)⟩)) hn hc
    refine ⟨nI (bnw S bV b), C3, M3, J3, ?_, ?_, s3⟩
    · unfold fX6_sell
      simp (disch := (first | assumption | trivial | omega)) only [e6, k1, s1, lit, neg1, oI_s, addN, mulN, subN, clN, gdN, ltN, leN, eqN, nIo, oIn, oI_eq, divN, remN, giT, giF, lzE, prE, bdE, smL, smR, shlN, shrN, hasE, andN, orN, bit1, bit0, max7, min7, giTr, giFa, gdp, litL, i2l, addL, mulL, divL, remL, cmLe, cmGt, cmGe, cmEq, eqL]
    · unfold fX7_sell
      rw [e7]
      simp (disch := (first | assumption | trivial | omega)) only [k2, s2, lit, neg1, oI_s, addN, mulN, subN, clN, gdN, ltN, leN, eqN, nIo, oIn, oI_eq, divN, remN, giT, giF, lzE, prE, bdE, smL, smR, shlN, shrN, hasE, andN, orN, bit1, bit0, max7, min7, giTr, giFa, gdp, litL, i2l, addL, mulL, divL, remL, cmLe, cmGt, cmGe, cmEq, eqL]
  · obtain ⟨M1, J1, e7, f7⟩ := e7 JM
    refine ⟨oI 0, C1, M1, J1, ?_, ?_, V0_f hV f6 f7⟩
    · unfold fX6_sell
      rw [e6, bdE, prE, gi_pos (show oI 0 = (-1 : Int32) from rfl)]
      rfl
    · unfold fX7_sell
      rw [e7, bdE, prE, prE, gi_pos rfl]
      rfl
