-- 61: PURE PART: auctions (out of wip/whole/pure by pure.py)
section AU
variable (B : Nat → Prop) (v : Nat → Nat)
/-- the first who bids most (one more), but for e (one more) -/
noncomputable def fb (e : Nat) : Nat → Nat
  | 0 => 0
  | k + 1 => @ite Nat (B k ∧ k + 1 ≠ e) (Classical.propDecidable _) (if fb e k = 0 ∨ v (fb e k - 1) < v k then k + 1 else fb e k) (fb e k)
/-- the most that is bid, but for e (one more) -/
noncomputable def mx (e : Nat) : Nat → Nat
  | 0 => 0
  | k + 1 => @ite Nat (B k ∧ k + 1 ≠ e) (Classical.propDecidable _) (max (mx e k) (v k)) (mx e k)
noncomputable def ct : Nat → Nat
  | 0 => 0
  | k + 1 => @ite Nat (B k) (Classical.propDecidable _) (ct k + 1) (ct k)
end AU
section AV
variable {B : Nat → Prop} {v : Nat → Nat} {e k : Nat}
theorem fb_p (h : B k ∧ k + 1 ≠ e) : fb B v e (k + 1) = if fb B v e k = 0 ∨ v (fb B v e k - 1) < v k then k + 1 else fb B v e k := if_pos h
theorem fb_n (h : ¬ (B k ∧ k + 1 ≠ e)) : fb B v e (k + 1) = fb B v e k := if_neg h
theorem mx_p (h : B k ∧ k + 1 ≠ e) : mx B v e (k + 1) = max (mx B v e k) (v k) := if_pos h
theorem mx_n (h : ¬ (B k ∧ k + 1 ≠ e)) : mx B v e (k + 1) = mx B v e k := if_neg h
theorem ct_p (h : B k) : ct B (k + 1) = ct B k + 1 := if_pos h
theorem ct_n (h : ¬ B k) : ct B (k + 1) = ct B k := if_neg h
theorem ct_le : ∀ k, ct B k ≤ k := by
  intro k
  induction k with
  | zero => exact Nat.le_refl _
  | succ k ih =>
    by_cases h : B k
    · rw [ct_p h]; omega
    · rw [ct_n h]; omega
theorem fb_le : ∀ k, fb B v e k ≤ k ∧ (fb B v e k = 0 ∨ (B (fb B v e k - 1) ∧ fb B v e k ≠ e)) := by
  intro k
  induction k with
  | zero => exact ⟨Nat.le_refl _, Or.inl rfl⟩
  | succ k ih =>
    by_cases h : B k ∧ k + 1 ≠ e
    · rw [fb_p h]
      by_cases c : fb B v e k = 0 ∨ v (fb B v e k - 1) < v k
      · rw [if_pos c]; exact ⟨Nat.le_refl _, Or.inr ⟨h.1, h.2⟩⟩
      · rw [if_neg c]; exact ⟨by omega, ih.2⟩
    · rw [fb_n h]; exact ⟨by omega, ih.2⟩
theorem fb_mx : ∀ k, (fb B v e k = 0 ∧ mx B v e k = 0) ∨ (¬ fb B v e k = 0 ∧ v (fb B v e k - 1) = mx B v e k) := by
  intro k
  induction k with
  | zero => exact Or.inl ⟨rfl, rfl⟩
  | succ k ih =>
    by_cases h : B k ∧ k + 1 ≠ e
    · rw [fb_p h, mx_p h]
      right
      by_cases c : fb B v e k = 0 ∨ v (fb B v e k - 1) < v k
      · rw [if_pos c, Nat.add_sub_cancel]
        refine ⟨by omega, ?_⟩
        rcases ih with ⟨x, y⟩ | ⟨x, y⟩
        · rw [y]; omega
        · have : mx B v e k < v k := by
            rcases c with c | c
            · exact absurd c x
            · omega
          omega
      · rw [if_neg c]
        rcases ih with ⟨x, y⟩ | ⟨x, y⟩
        · exact absurd (Or.inl x) c
        · refine ⟨x, ?_⟩
          have : ¬ v (fb B v e k - 1) < v k := fun q => c (Or.inr q)
          omega
    · rw [fb_n h, mx_n h]; exact ih
theorem mx_far : ∀ k, k < e → mx B v e k = mx B v 0 k := by
  intro k
  induction k with
  | zero => intro _; rfl
  | succ k ih =>
    intro hk
    by_cases h : B k
    · rw [mx_p ⟨h, by omega⟩, mx_p ⟨h, by omega⟩, ih (by omega)]
    · rw [mx_n (fun q => h q.1), mx_n (fun q => h q.1), ih (by omega)]
end AV
section AW
variable {S : Nat → Nat → Nat} {bV : Nat → Nat → Nat → Nat} {IC IM : gI} {sl b : Nat}
/-- buyer b bids for slice sl -/
def bd1 (S : Nat → Nat → Nat) (sl b : Nat) : Prop := (S 3 b).testBit (S 10 3) = true ∧ (sq S b).testBit sl = true
def vl1 (S : Nat → Nat → Nat) (bV : Nat → Nat → Nat → Nat) (b : Nat) : Nat := bnw S bV b / (S 5 b - S 4 b + 1)
theorem vl1_lt (h : sv S IC IM) (hb : bidOK S bV IC IM) (hn : b < S 0 0) : vl1 S bV b < 100 :=
  Nat.lt_of_le_of_lt (Nat.div_le_self _ _) (bnw_lt h hb hn)
theorem bf7 (h : sv S IC IM) (hb : bidOK S bV IC IM) (hn : b < S 0 0) (J : gJ) : ∃ M' J', fX7_bidFor (nI b) IM J = some (nI (vl1 S bV b), M', J') ∧ fM IM M' := by
  obtain ⟨M1, J1, e, f⟩ := bn7 h hb hn J
  have bn := b_nb h
  have hb6 : b < 6 := by omega
  have bb := b_bu h hb6
  have hv := bnw_lt h hb hn
  have g := sv_f h (fC_rf (I := IC)) f
  refine ⟨M1, J1, ?_, f⟩
  unfold fX7_bidFor vl1
  rw [e, bdE, prE, prE, lo7 g hb6, bdE]
  have : ¬ nI (S 5 b - S 4 b + 1) = nI 0 := by
    rw [eqN (by omega) (by omega)]
    omega
  rw [gd_pos (show ¬ nI (S 5 b - S 4 b + 1) = 0 from this)]
  simp (disch := (first | assumption | trivial | omega)) only [lit, neg1, oI_s, addN, mulN, subN, clN, gdN, ltN, leN, eqN, nIo, oIn, oI_eq, divN, remN, giT, giF, lzE, prE, bdE, smL, smR, shlN, shrN, hasE, andN, orN, bit1, bit0, max7, min7, giTr, giFa, gdp, litL, i2l, addL, mulL, divL, remL, cmLe, cmGt, cmGe, cmEq, eqL]
theorem db7 (h : sv S IC IM) (hsl : sl < 12) (hn : b < S 0 0) : (bd1 S sl b ∧ fX7_doesBid (nI b) (nI sl) IM = some (nI 1)) ∨ (¬ bd1 S sl b ∧ fX7_doesBid (nI b) (nI sl) IM = some (nI 0)) := by
  have bn := b_nb h
  have bw := b_w h
  have hb6 : b < 6 := by omega
  have hs5 : S 10 3 < 32 := by omega
  have hq := sq_lt h hb6
  by_cases w : (S 3 b).testBit (S 10 3) = true
  · by_cases q : (sq S b).testBit sl = true
    · left
      refine ⟨⟨w, q⟩, ?_⟩
      unfold fX7_doesBid fX7_has
      rw [v_so7 h, dw7p h hb6 hs5 w]
      simp (disch := (first | assumption | trivial | omega)) only [sl7 h, bit1 q, lit, neg1, oI_s, addN, mulN, subN, clN, gdN, ltN, leN, eqN, nIo, oIn, oI_eq, divN, remN, giT, giF, lzE, prE, bdE, smL, smR, shlN, shrN, hasE, andN, orN, bit1, bit0, max7, min7, giTr, giFa, gdp, litL, i2l, addL, mulL, divL, remL, cmLe, cmGt, cmGe, cmEq, eqL]
    · right
      refine ⟨fun z => q z.2, ?_⟩
      unfold fX7_doesBid fX7_has
      rw [v_so7 h, dw7p h hb6 hs5 w]
      simp (disch := (first | assumption | trivial | omega)) only [sl7 h, bit0 q, lit, neg1, oI_s, addN, mulN, subN, clN, gdN, ltN, leN, eqN, nIo, oIn, oI_eq, divN, remN, giT, giF, lzE, prE, bdE, smL, smR, shlN, shrN, hasE, andN, orN, bit1, bit0, max7, min7, giTr, giFa, gdp, litL, i2l, addL, mulL, divL, remL, cmLe, cmGt, cmGe, cmEq, eqL]
  · right
    refine ⟨fun z => w z.1, ?_⟩
    unfold fX7_doesBid
    rw [v_so7 h, dw7n h hb6 hs5 w]
    simp (disch := (first | assumption | trivial | omega)) only [lit, neg1, oI_s, addN, mulN, subN, clN, gdN, ltN, leN, eqN, nIo, oIn, oI_eq, divN, remN, giT, giF, lzE, prE, bdE, smL, smR, shlN, shrN, hasE, andN, orN, bit1, bit0, max7, min7, giTr, giFa, gdp, litL, i2l, addL, mulL, divL, remL, cmLe, cmGt, cmGe, cmEq, eqL]
theorem bo7 (h : sv S IC IM) (hbid : ∀ M, fM IM M → bidOK S bV IC M) (hsl : sl < 12) {e : Nat} (he : e ≤ 6) {M : gI} (hM : fM IM M) (J : gJ) : ∃ M' J', fX7_bidderOf (nI sl) (oI e) M J = some (oI (fb (bd1 S sl) (vl1 S bV) e (S 0 0)), M', J') ∧ fM IM M' := by
  have bn := b_nb h
  obtain ⟨r, x, M', J', rfl, f⟩ := lp_ex (fun n k (a : Nat × gI × gJ) => fX7_bidderOf_5 n (nI sl) (oI e) (oI a.1) (nI k) a.2.1 a.2.2) (S 0 0) (fun k a => a.1 = fb (bd1 S sl) (vl1 S bV) e k ∧ fM IM a.2.1) (fun r => ∃ M J, r = (oI (fb (bd1 S sl) (vl1 S bV) e (S 0 0)), M, J) ∧ fM IM M)
    (fun n a hP => by
      obtain ⟨a, M, J⟩ := a
      try dsimp only at hP ⊢
      obtain ⟨p1, p2⟩ := hP
      have g := sv_f h (fC_rf (I := IC)) p2
      refine ⟨_, ?_, M, J, rfl, p2⟩
      rw [sX7_bidderOf_5, fX7_bidderOf_5b, ← p1]
      simp (disch := (first | assumption | trivial | omega)) only [v_nb7 g, lit, neg1, oI_s, addN, mulN, subN, clN, gdN, ltN, leN, eqN, nIo, oIn, oI_eq, divN, remN, giT, giF, lzE, prE, bdE, smL, smR, shlN, shrN, hasE, andN, orN, bit1, bit0, max7, min7, giTr, giFa, gdp, litL, i2l, addL, mulL, divL, remL, cmLe, cmGt, cmGe, cmEq, eqL])
    (fun n k a hk hP => by
      obtain ⟨a, M, J⟩ := a
      try dsimp only at hP ⊢
      right
      obtain ⟨p1, p2⟩ := hP
      have g := sv_f h (fC_rf (I := IC)) p2
      have hle := fb_le (B := bd1 S sl) (v := vl1 S bV) (e := e) k
      rw [← p1] at hle
      by_cases ce : k + 1 = e
      · have hf : a = fb (bd1 S sl) (vl1 S bV) e (k + 1) := by rw [fb_n (fun q => q.2 ce)]; exact p1
        refine ⟨(a, M, J), ?_, hf, p2⟩
        rw [sX7_bidderOf_5, fX7_bidderOf_5b]
        simp (disch := (first | assumption | trivial | omega)) only [v_nb7 g, ce, lit, neg1, oI_s, addN, mulN, subN, clN, gdN, ltN, leN, eqN, nIo, oIn, oI_eq, divN, remN, giT, giF, lzE, prE, bdE, smL, smR, shlN, shrN, hasE, andN, orN, bit1, bit0, max7, min7, giTr, giFa, gdp, litL, i2l, addL, mulL, divL, remL, cmLe, cmGt, cmGe, cmEq, eqL]
      · rcases db7 (IM := M) g hsl hk with ⟨cb, d⟩ | ⟨cb, d⟩
        · have hfb := fb_p (v := vl1 S bV) (e := e) ⟨cb, ce⟩
          rw [← p1] at hfb
          by_cases ca : a = 0
          · subst ca
            rw [if_pos (Or.inl rfl)] at hfb
            refine ⟨(k + 1, M, J), ?_, hfb.symm, p2⟩
            rw [sX7_bidderOf_5, fX7_bidderOf_5b]
            simp (disch := (first | assumption | trivial | omega)) only [v_nb7 g, ce, d, lit, neg1, oI_s, addN, mulN, subN, clN, gdN, ltN, leN, eqN, nIo, oIn, oI_eq, divN, remN, giT, giF, lzE, prE, bdE, smL, smR, shlN, shrN, hasE, andN, orN, bit1, bit0, max7, min7, giTr, giFa, gdp, litL, i2l, addL, mulL, divL, remL, cmLe, cmGt, cmGe, cmEq, eqL]
          · obtain ⟨M1, J1, d1, f1⟩ := bf7 g (hbid _ p2) hk J
            have p3 := fM_tr p2 f1
            have g1 := sv_f h (fC_rf (I := IC)) p3
            obtain ⟨M2, J2, d2, f2⟩ := bf7 (b := a - 1) g1 (hbid _ p3) (by omega) J1
            have v1 := vl1_lt h (hbid _ fM_rf) hk
            have v2 := vl1_lt (b := a - 1) h (hbid _ fM_rf) (by omega)
            rw [oIp (by omega : 0 < a)] at d2
            by_cases cv : vl1 S bV (a - 1) < vl1 S bV k
            · rw [if_pos (Or.inr cv)] at hfb
              refine ⟨(k + 1, M2, J2), ?_, hfb.symm, fM_tr p3 f2⟩
              have cv2 : ¬ vl1 S bV k ≤ vl1 S bV (a - 1) := by omega
              rw [sX7_bidderOf_5, fX7_bidderOf_5b]
              simp (disch := (first | assumption | trivial | omega)) only [v_nb7 g, ce, d, ca, d1, d2, cv2, lit, neg1, oI_s, addN, mulN, subN, clN, gdN, ltN, leN, eqN, nIo, oIn, oI_eq, divN, remN, giT, giF, lzE, prE, bdE, smL, smR, shlN, shrN, hasE, andN, orN, bit1, bit0, max7, min7, giTr, giFa, gdp, litL, i2l, addL, mulL, divL, remL, cmLe, cmGt, cmGe, cmEq, eqL]
            · rw [if_neg (fun q => q.elim ca cv)] at hfb
              refine ⟨(a, M2, J2), ?_, hfb.symm, fM_tr p3 f2⟩
              have cv2 : vl1 S bV k ≤ vl1 S bV (a - 1) := by omega
              rw [sX7_bidderOf_5, fX7_bidderOf_5b]
              simp (disch := (first | assumption | trivial | omega)) only [v_nb7 g, ce, d, ca, d1, d2, cv2, lit, neg1, oI_s, addN, mulN, subN, clN, gdN, ltN, leN, eqN, nIo, oIn, oI_eq, divN, remN, giT, giF, lzE, prE, bdE, smL, smR, shlN, shrN, hasE, andN, orN, bit1, bit0, max7, min7, giTr, giFa, gdp, litL, i2l, addL, mulL, divL, remL, cmLe, cmGt, cmGe, cmEq, eqL]
        · have hf : a = fb (bd1 S sl) (vl1 S bV) e (k + 1) := by rw [fb_n (fun q => cb q.1)]; exact p1
          refine ⟨(a, M, J), ?_, hf, p2⟩
          rw [sX7_bidderOf_5, fX7_bidderOf_5b]
          simp (disch := (first | assumption | trivial | omega)) only [v_nb7 g, ce, d, lit, neg1, oI_s, addN, mulN, subN, clN, gdN, ltN, leN, eqN, nIo, oIn, oI_eq, divN, remN, giT, giF, lzE, prE, bdE, smL, smR, shlN, shrN, hasE, andN, orN, bit1, bit0, max7, min7, giTr, giFa, gdp, litL, i2l, addL, mulL, divL, remL, cmLe, cmGt, cmGe, cmEq, eqL]) (S 0 0) 0 (0, M, J) FU (by omega) ⟨rfl, hM⟩ (by show _ < 5000; omega)
  have x' : fX7_bidderOf_5 FU (nI sl) (oI e) (oI 0) 0 M J = _ := x
  refine ⟨M', J', ?_, f⟩
  unfold fX7_bidderOf
  rw [show (-1 : Int32) = oI 0 from rfl, x']
  rfl
theorem ct7 (h : sv S IC IM) (hsl : sl < 12) {a b c : Int32} : fX7_auction_46 FU (nI sl) a b c 0 0 IM = some (nI (ct (bd1 S sl) (S 0 0))) := by
  have bn := b_nb h
  obtain ⟨r, x, rfl⟩ := lp_ex (fun n k (q : Nat) => fX7_auction_46 n (nI sl) a b c (nI q) (nI k) IM) (S 0 0) (fun k q => q = ct (bd1 S sl) k) (fun r => r = nI (ct (bd1 S sl) (S 0 0)))
    (fun n q hP => by
      try dsimp only at hP ⊢
      refine ⟨_, ?_, rfl⟩
      rw [sX7_auction_46, fX7_auction_46b, ← hP]
      simp (disch := (first | assumption | trivial | omega)) only [v_nb7 h, lit, neg1, oI_s, addN, mulN, subN, clN, gdN, ltN, leN, eqN, nIo, oIn, oI_eq, divN, remN, giT, giF, lzE, prE, bdE, smL, smR, shlN, shrN, hasE, andN, orN, bit1, bit0, max7, min7, giTr, giFa, gdp, litL, i2l, addL, mulL, divL, remL, cmLe, cmGt, cmGe, cmEq, eqL])
    (fun n k q hk hP => by
      try dsimp only at hP ⊢
      right
      have hc := ct_le (B := bd1 S sl) k
      rcases db7 (IM := IM) h hsl hk with ⟨cb, d⟩ | ⟨cb, d⟩
      · refine ⟨q + 1, ?_, by rw [ct_p cb, hP]⟩
        rw [sX7_auction_46, fX7_auction_46b]
        simp (disch := (first | assumption | trivial | omega)) only [v_nb7 h, d, lit, neg1, oI_s, addN, mulN, subN, clN, gdN, ltN, leN, eqN, nIo, oIn, oI_eq, divN, remN, giT, giF, lzE, prE, bdE, smL, smR, shlN, shrN, hasE, andN, orN, bit1, bit0, max7, min7, giTr, giFa, gdp, litL, i2l, addL, mulL, divL, remL, cmLe, cmGt, cmGe, cmEq, eqL]
      · refine ⟨q, ?_, by rw [ct_n cb, hP]⟩
        rw [sX7_auction_46, fX7_auction_46b]
        simp (disch := (first | assumption | trivial | omega)) only [v_nb7 h, d, Nat.add_zero, lit, neg1, oI_s, addN, mulN, subN, clN, gdN, ltN, leN, eqN, nIo, oIn, oI_eq, divN, remN, giT, giF, lzE, prE, bdE, smL, smR, shlN, shrN, hasE, andN, orN, bit1, bit0, max7, min7, giTr, giFa, gdp, litL, i2l, addL, mulL, divL, remL, cmLe, cmGt, cmGe, cmEq, eqL]) (S 0 0) 0 0 FU (by omega) rfl (by show _ < 5000; omega)
  exact x
theorem au6 (h : sv S IC IM) (hbid : ∀ C, fC IC C → bidOK S bV C IM) (hsl : sl < 12) {x2 : Int32} : ∃ C', fX6_auction_32 FU (nI sl) x2 (oI 0) (oI 0) 0 0 0 IC = some (oI (fb (bd1 S sl) (vl1 S bV) 0 (S 0 0)), nI (mx (bd1 S sl) (vl1 S bV) (fb (bd1 S sl) (vl1 S bV) 0 (S 0 0)) (S 0 0)), nI (ct (bd1 S sl) (S 0 0)), C') ∧ fC IC C' := by
  have bn := b_nb h
  have bw := b_w h
  have hs5 : S 10 3 < 32 := by omega
  obtain ⟨r, x, C', rfl, f⟩ := lp_ex (fun n k (a : Nat × Nat × Nat × gI) => fX6_auction_32 n (nI sl) x2 (oI a.1) (oI (if a.1 = 0 then 0 else vl1 S bV (a.1 - 1) + 1)) (nI a.2.1) (nI a.2.2.1) (nI k) a.2.2.2) (S 0 0) (fun k a => a.1 = fb (bd1 S sl) (vl1 S bV) 0 k ∧ a.2.1 = mx (bd1 S sl) (vl1 S bV) a.1 k ∧ a.2.1 < 100 ∧ a.2.2.1 = ct (bd1 S sl) k ∧ fC IC a.2.2.2) (fun r => ∃ C, r = (oI (fb (bd1 S sl) (vl1 S bV) 0 (S 0 0)), nI (mx (bd1 S sl) (vl1 S bV) (fb (bd1 S sl) (vl1 S bV) 0 (S 0 0)) (S 0 0)), nI (ct (bd1 S sl) (S 0 0)), C) ∧ fC IC C)
    (fun n a hP => by
      obtain ⟨a, m, c, C⟩ := a
      try dsimp only at hP ⊢
      obtain ⟨p1, p2, p3, p4, p5⟩ := hP
      have g := sv_f h p5 (fM_rf (I := IM))
      refine ⟨_, ?_, C, rfl, p5⟩
      rw [sX6_auction_32, fX6_auction_32b, ← p1, ← p2, ← p4]
      simp (disch := (first | assumption | trivial | omega)) only [v_nb6 g, lit, neg1, oI_s, addN, mulN, subN, clN, gdN, ltN, leN, eqN, nIo, oIn, oI_eq, divN, remN, giT, giF, lzE, prE, bdE, smL, smR, shlN, shrN, hasE, andN, orN, bit1, bit0, max7, min7, giTr, giFa, gdp, litL, i2l, addL, mulL, divL, remL, cmLe, cmGt, cmGe, cmEq, eqL])
    (fun n k a hk hP => by
      obtain ⟨a, m, c, C⟩ := a
      try dsimp only at hP ⊢
      right
      obtain ⟨p1, p2, p3, p4, p5⟩ := hP
      have g := sv_f h p5 (fM_rf (I := IM))
      have hb6 : k < 6 := by omega
      have hle := fb_le (B := bd1 S sl) (v := vl1 S bV) (e := 0) k
      have hmx := fb_mx (B := bd1 S sl) (v := vl1 S bV) (e := 0) k
      have hct := ct_le (B := bd1 S sl) k
      rw [← p1] at hle hmx
      rw [← p4] at hct
      have bb := b_bu h hb6
      by_cases w : (S 3 k).testBit (S 10 3) = true
      · by_cases q : (sq S k).testBit sl = true
        · have cb : bd1 S sl k := ⟨w, q⟩
          have hfb := fb_p (v := vl1 S bV) (e := 0) (k := k) (B := bd1 S sl) ⟨cb, by omega⟩
          rw [← p1] at hfb
          obtain ⟨C1, e6, f6⟩ := bn6 g (hbid _ p5) hk
          have g1 := sv_f g f6 (fM_rf (I := IM))
          have l6 := lo6 g hb6
          have hv := bnw_lt g (hbid _ p5) hk
          have hvl := vl1_lt g (hbid _ p5) hk
          obtain ⟨x, hx⟩ : ∃ x, x = vl1 S bV k := ⟨_, rfl⟩
          rw [← hx] at hfb hvl
          have hdef : bnw S bV k / (S 5 k - S 4 k + 1) = x := hx.symm
          have hy : (if a = 0 then 0 else vl1 S bV (a - 1) + 1) ≤ 100 := by
            by_cases ca : a = 0
            · rw [if_pos ca]; omega
            · rw [if_neg ca]
              have := vl1_lt (b := a - 1) g (hbid _ p5) (by omega)
              omega
          by_cases cv : a = 0 ∨ vl1 S bV (a - 1) < x
          · rw [if_pos cv] at hfb
            have hcmp : ¬ (x + 1 ≤ (if a = 0 then 0 else vl1 S bV (a - 1) + 1)) := by
              by_cases ca : a = 0
              · rw [if_pos ca]; omega
              · rw [if_neg ca]
                rcases cv with cv | cv
                · exact absurd cv ca
                · omega
            have hmn : mx (bd1 S sl) (vl1 S bV) (k + 1) (k + 1) = (if a = 0 then 0 else vl1 S bV (a - 1)) := by
              rw [mx_n (fun z => z.2 rfl), mx_far k (by omega)]
              rcases hmx with ⟨z1, z2⟩ | ⟨z1, z2⟩
              · rw [if_pos z1, z2]
              · rw [if_neg z1, z2]
            have hjm : jmax (oI (if a = 0 then 0 else vl1 S bV (a - 1) + 1)) (nI 0) = nI (if a = 0 then 0 else vl1 S bV (a - 1)) := by
              by_cases ca : a = 0
              · rw [if_pos ca, if_pos ca]; decide
              · rw [if_neg ca] at hy
                rw [if_neg ca, if_neg ca, oI_s, max7 (by omega) (by omega), Nat.max_eq_left (by omega)]
            have hm2 : (if a = 0 then 0 else vl1 S bV (a - 1)) < 100 := by
              by_cases ca : a = 0
              · rw [if_pos ca]; omega
              · rw [if_neg ca] at hy ⊢; omega
            refine ⟨(k + 1, (if a = 0 then 0 else vl1 S bV (a - 1)), c + 1, C1), ?_, hfb.symm, hmn.symm, hm2, ?_, fC_tr p5 f6⟩
            · rw [sX6_auction_32, fX6_auction_32b]
              try dsimp only
              rw [if_neg (show ¬ k + 1 = 0 by omega), Nat.add_sub_cancel, ← hx]
              generalize (if a = 0 then 0 else vl1 S bV (a - 1) + 1) = y at *
              have hcmp2 : (nI x ≤ oI y) = (x + 1 ≤ y) := by rw [← oIle (by omega) (by omega), oI_s]
              simp (disch := (first | assumption | trivial | omega)) only [v_nb6 g, v_so6 g, ws6p g hb6 hs5 w, wsl6p g hb6 hsl q, e6, l6, hdef, hcmp2, hcmp, hjm, lit, neg1, oI_s, addN, mulN, subN, clN, gdN, ltN, leN, eqN, nIo, oIn, oI_eq, divN, remN, giT, giF, lzE, prE, bdE, smL, smR, shlN, shrN, hasE, andN, orN, bit1, bit0, max7, min7, giTr, giFa, gdp, litL, i2l, addL, mulL, divL, remL, cmLe, cmGt, cmGe, cmEq, eqL]
            · show c + 1 = _
              rw [ct_p cb, p4]
          · rw [if_neg cv] at hfb
            have ca : ¬ a = 0 := fun z => cv (Or.inl z)
            have hcmp : x + 1 ≤ (if a = 0 then 0 else vl1 S bV (a - 1) + 1) := by
              rw [if_neg ca]
              have : ¬ vl1 S bV (a - 1) < x := fun z => cv (Or.inr z)
              omega
            refine ⟨(a, max m x, c + 1, C1), ?_, hfb.symm, ?_, ?_, ?_, fC_tr p5 f6⟩
            · rw [sX6_auction_32, fX6_auction_32b]
              try dsimp only
              generalize (if a = 0 then 0 else vl1 S bV (a - 1) + 1) = y at *
              have hcmp2 : (nI x ≤ oI y) = (x + 1 ≤ y) := by rw [← oIle (by omega) (by omega), oI_s]
              simp (disch := (first | assumption | trivial | omega)) only [v_nb6 g, v_so6 g, ws6p g hb6 hs5 w, wsl6p g hb6 hsl q, e6, l6, hdef, hcmp2, hcmp, lit, neg1, oI_s, addN, mulN, subN, clN, gdN, ltN, leN, eqN, nIo, oIn, oI_eq, divN, remN, giT, giF, lzE, prE, bdE, smL, smR, shlN, shrN, hasE, andN, orN, bit1, bit0, max7, min7, giTr, giFa, gdp, litL, i2l, addL, mulL, divL, remL, cmLe, cmGt, cmGe, cmEq, eqL]
            · show max m x = mx (bd1 S sl) (vl1 S bV) a (k + 1)
              rw [mx_p ⟨cb, by omega⟩, ← p2, ← hx]
            · show max m x < 100
              omega
            · show c + 1 = _
              rw [ct_p cb, p4]
        · have cb : ¬ bd1 S sl k := fun z => q z.2
          refine ⟨(a, m, c, C), ?_, ?_, ?_, p3, ?_, p5⟩
          · rw [sX6_auction_32, fX6_auction_32b]
            simp (disch := (first | assumption | trivial | omega)) only [v_nb6 g, v_so6 g, ws6p g hb6 hs5 w, wsl6n g hb6 hsl q, lit, neg1, oI_s, addN, mulN, subN, clN, gdN, ltN, leN, eqN, nIo, oIn, oI_eq, divN, remN, giT, giF, lzE, prE, bdE, smL, smR, shlN, shrN, hasE, andN, orN, bit1, bit0, max7, min7, giTr, giFa, gdp, litL, i2l, addL, mulL, divL, remL, cmLe, cmGt, cmGe, cmEq, eqL]
          · rw [fb_n (fun z => cb z.1)]; exact p1
          · rw [mx_n (fun z => cb z.1)]; exact p2
          · rw [ct_n cb]; exact p4
      · have cb : ¬ bd1 S sl k := fun z => w z.1
        refine ⟨(a, m, c, C), ?_, ?_, ?_, p3, ?_, p5⟩
        · rw [sX6_auction_32, fX6_auction_32b]
          simp (disch := (first | assumption | trivial | omega)) only [v_nb6 g, v_so6 g, ws6n g hb6 hs5 w, lit, neg1, oI_s, addN, mulN, subN, clN, gdN, ltN, leN, eqN, nIo, oIn, oI_eq, divN, remN, giT, giF, lzE, prE, bdE, smL, smR, shlN, shrN, hasE, andN, orN, bit1, bit0, max7, min7, giTr, giFa, gdp, litL, i2l, addL, mulL, divL, remL, cmLe, cmGt, cmGe, cmEq, eqL]
        · rw [fb_n (fun z => cb z.1)]; exact p1
        · rw [mx_n (fun z => cb z.1)]; exact p2
        · rw [ct_n cb]; exact p4) (S 0 0) 0 (0, 0, 0, IC) FU (by omega) ⟨rfl, rfl, (by decide : 0 < 100), rfl, fC_rf⟩ (by show _ < 5000; omega)
  exact ⟨C', x, f⟩
end AW
theorem case_32 (hB : BIDS) : st_32 V0 := by
  intro a1 a2 IC IM JM hV
  obtain ⟨S, bV, h, hb⟩ := view3 hB hV
  have bn := b_nb h
  by_cases c : inR a1 12
  · have i6 := isSlice6_pos c
    have i7 := isSlice7_pos c
    obtain ⟨sl, hsl, rfl⟩ := c
    rcases isIn0 a2 2 (by decide) with ⟨x, hx, rfl, j7⟩ | j7
    · have j6' : fX6_within (nI x) 0 2 = nI 1 := j7
      have j7' : fX7_isIn (nI x) 0 2 = nI 1 := j7
      have hbM : ∀ M, fM IM M → bidOK S bV IC M := fun M hM => hb _ _ (sv_f h fC_rf hM) (lik_f fC_rf hM)
      obtain ⟨C1, e6, f6⟩ := au6 (x2 := nI x) h (fun C hC => hb _ _ (sv_f h hC fM_rf) (lik_f hC fM_rf)) hsl
      obtain ⟨M1, J1, d1, f1⟩ := bo7 (e := 0) h hbM hsl (by omega) fM_rf JM
      have hle := fb_le (B := bd1 S sl) (v := vl1 S bV) (e := 0) (S 0 0)
      have e6' : fX6_auction_32 FU (nI sl) (nI x) (-1) (-1) 0 0 0 IC = _ := e6
      have d1' : fX7_bidderOf (nI sl) (-1) IM JM = _ := d1
      generalize fb (bd1 S sl) (vl1 S bV) 0 (S 0 0) = a at *
      by_cases ca : a = 0
      · subst ca
        refine ⟨-1, C1, M1, J1, ?_, ?_, V0_f hV f6 f1⟩
        · unfold fX6_auction
          rw [i6, j6', e6', gi_neg one_ne, gi_neg (c := nI 1 = (0 : Int32)) one_ne, bdE, prE, prE, prE, gi_pos (show oI 0 = (-1 : Int32) from rfl)]
          rfl
        · unfold fX7_auction
          rw [i7, j7', d1', gi_neg one_ne, gi_neg (c := nI 1 = (0 : Int32)) one_ne, bdE, prE, prE, gi_pos (show oI 0 = (-1 : Int32) from rfl)]
      · obtain ⟨M2, J2, d2, f2⟩ := bo7 (e := a) h hbM hsl (by omega) f1 J1
        have g2 := sv_f h (fC_rf (I := IC)) f2
        have hct := ct7 g2 hsl (a := nI x) (b := oI a) (c := oI (fb (bd1 S sl) (vl1 S bV) a (S 0 0)))
        have hmx := fb_mx (B := bd1 S sl) (v := vl1 S bV) (e := a) (S 0 0)
        have hle2 := fb_le (B := bd1 S sl) (v := vl1 S bV) (e := a) (S 0 0)
        have hane : ¬ oI a = -1 := fun e => ca ((oI_eq (by omega) (by omega)).mp (show oI a = oI 0 from e))
        have hx3 : x = 0 ∨ x = 1 ∨ x = 2 := by omega
        rcases hx3 with rfl | rfl | rfl
        · refine ⟨oI a, C1, M2, J2, ?_, ?_, V0_f hV f6 f2⟩
          · unfold fX6_auction
            rw [i6, j6', e6', gi_neg one_ne, gi_neg (c := nI 1 = (0 : Int32)) one_ne, bdE, prE, prE, prE, gi_neg hane, gi_pos (show nI 0 = (0 : Int32) from rfl)]
          · unfold fX7_auction
            rw [i7, j7', d1', gi_neg one_ne, gi_neg (c := nI 1 = (0 : Int32)) one_ne, bdE, prE, prE, gi_neg hane, d2, bdE, prE, prE, hct, bdE, gi_pos (show nI 0 = (0 : Int32) from rfl)]
        · by_cases cb : fb (bd1 S sl) (vl1 S bV) a (S 0 0) = 0
          · rcases hmx with ⟨_, hm⟩ | ⟨hm, _⟩
            · rw [cb] at d2 hct
              rw [hm] at e6'
              refine ⟨nI 0, C1, M2, J2, ?_, ?_, V0_f hV f6 f2⟩
              · unfold fX6_auction
                rw [i6, j6', e6', gi_neg one_ne, gi_neg (c := nI 1 = (0 : Int32)) one_ne, bdE, prE, prE, prE, gi_neg hane, gi_neg (show ¬ nI 1 = (0 : Int32) by decide), gi_pos (show nI 1 = (1 : Int32) from rfl)]
              · unfold fX7_auction
                rw [i7, j7', d1', gi_neg one_ne, gi_neg (c := nI 1 = (0 : Int32)) one_ne, bdE, prE, prE, gi_neg hane, d2, bdE, prE, prE, hct, bdE, gi_neg (show ¬ nI 1 = (0 : Int32) by decide), gi_neg (show ¬ nI 1 = (2 : Int32) by decide), gi_pos (show oI 0 = (-1 : Int32) from rfl)]
                rfl
            · exact absurd cb hm
          · rcases hmx with ⟨hm, _⟩ | ⟨_, hm⟩
            · exact absurd hm cb
            · rw [← hm] at e6'
              generalize fb (bd1 S sl) (vl1 S bV) a (S 0 0) = b at *
              obtain ⟨M3, J3, d3, f3⟩ := bf7 (b := b - 1) g2 (hbM _ f2) (by omega) J2
              rw [oIp (by omega : 0 < b)] at d3
              have hbne : ¬ oI b = -1 := fun e => cb ((oI_eq (by omega) (by omega)).mp (show oI b = oI 0 from e))
              refine ⟨nI (vl1 S bV (b - 1)), C1, M3, J3, ?_, ?_, V0_f hV f6 (fM_tr f2 f3)⟩
              · unfold fX6_auction
                rw [i6, j6', e6', gi_neg one_ne, gi_neg (c := nI 1 = (0 : Int32)) one_ne, bdE, prE, prE, prE, gi_neg hane, gi_neg (show ¬ nI 1 = (0 : Int32) by decide), gi_pos (show nI 1 = (1 : Int32) from rfl)]
              · unfold fX7_auction
                rw [i7, j7', d1', gi_neg one_ne, gi_neg (c := nI 1 = (0 : Int32)) one_ne, bdE, prE, prE, gi_neg hane, d2, bdE, prE, prE, hct, bdE, gi_neg (show ¬ nI 1 = (0 : Int32) by decide), gi_neg (show ¬ nI 1 = (2 : Int32) by decide), gi_neg hbne, d3]
                rfl
        · refine ⟨nI (ct (bd1 S sl) (S 0 0)), C1, M2, J2, ?_, ?_, V0_f hV f6 f2⟩
          · unfold fX6_auction
            rw [i6, j6', e6', gi_neg one_ne, gi_neg (c := nI 1 = (0 : Int32)) one_ne, bdE, prE, prE, prE, gi_neg hane, gi_neg (show ¬ nI 2 = (0 : Int32) by decide), gi_neg (show ¬ nI 2 = (1 : Int32) by decide)]
          · unfold fX7_auction
            rw [i7, j7', d1', gi_neg one_ne, gi_neg (c := nI 1 = (0 : Int32)) one_ne, bdE, prE, prE, gi_neg hane, d2, bdE, prE, prE, hct, bdE, gi_neg (show ¬ nI 2 = (0 : Int32) by decide), gi_pos (show nI 2 = (2 : Int32) from rfl)]
    · have j6' : fX6_within a2 0 2 = nI 0 := j7
      have j7' : fX7_isIn a2 0 2 = nI 0 := j7
      refine ⟨-1, IC, IM, JM, ?_, ?_, hV⟩
      · unfold fX6_auction
        rw [i6, j6', gi_neg one_ne, gi_pos (show nI 0 = (0 : Int32) from rfl)]
      · unfold fX7_auction
        rw [i7, j7', gi_neg one_ne, gi_pos (show nI 0 = (0 : Int32) from rfl)]
  · refine ⟨-1, IC, IM, JM, ?_, ?_, hV⟩
    · unfold fX6_auction
      rw [isSlice6_neg c, gi_pos rfl]
    · unfold fX7_auction
      rw [isSlice7_neg c, gi_pos rfl]
