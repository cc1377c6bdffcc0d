-- 49: PURE PART: an image, back to it (out of wip/whole/pure by pure.py)
/-- a port is as another was -/
def psm (IC' : gI) (p' : Nat) (IC : gI) (p : Nat) : Prop := (∀ k, 12 ≤ k → k < 20 → IC' p' k = IC p k) ∧ (∀ k, k < 5 → IC' (p' + 1) k = IC (p + 1) k ∧ IC' (p' + 2) k = IC (p + 2) k) ∧ (∀ k, k < 6 → IC' (p' + 3) k = IC (p + 3) k ∧ IC' (p' + 4) k = IC (p + 4) k ∧ IC' (p' + 5) k = IC (p + 5) k ∧ IC' (p' + 6) k = IC (p + 6) k) ∧ (∀ k, k < 12 → IC' (p' + 7) k = IC (p + 7) k) ∧ (∀ k, k < 8 → IC' (p' + 8) k = IC (p + 8) k ∧ IC' (p' + 9) k = IC (p + 9) k) ∧ wsm IC' (p' + 10) IC (p + 10) ∧ (∀ k, k < 30 → IC' (p' + 15) k = IC (p + 15) k) ∧ ∀ j, j < 30 → wsm IC' (p' + 16 + 4 * j) IC (p + 16 + 4 * j)
theorem rPort_cp {IC IC' : gI} {p p' nb nt : Nat} {a a' : Nat → Int32} (h : rPort IC p a nb nt) (hC : psm IC' p' IC p) (ha : ∀ k, k < 1592 → a' k = a k) : rPort IC' p' a' nb nt := by
  obtain ⟨h1, h2, h3, h4, h5, h6, h7, h8, h9⟩ := h
  obtain ⟨c1, c2, c3, c4, c5, c6, c7, c8⟩ := hC
  refine ⟨rHead_congr h1 ⟨c1 _ (by omega) (by omega), c1 _ (by omega) (by omega), c1 _ (by omega) (by omega)⟩ (fun k _ => ha k (by omega)), rPaid_congr h2 ⟨c1 _ (by omega) (by omega), c1 _ (by omega) (by omega)⟩ (ha 4 (by omega)) (fun k _ _ => ha k (by omega)), ?_, fun s hs => ?_, fun b hb => ?_, fun s hs => ?_, rWall_cp h7 c6 (fun k _ => ha _ (by omega)) (fun k _ => ha _ (by omega)), ?_, rOwn_congr h9 (fun k _ => ha k (by omega))⟩
  · obtain ⟨n, b1, b2, b3, b4⟩ := h3
    refine ⟨n, b1, by rw [ha 5 (by omega)]; exact b2, by rw [c1 15 (by omega) (by omega)]; exact b3, fun i hi => ?_⟩
    rw [(c5 i (by omega)).1, (c5 i (by omega)).2, ha _ (by omega), ha _ (by omega)]
    exact b4 i hi
  · rw [(c2 s hs).1, (c2 s hs).2, ha _ (by omega), ha _ (by omega)]
    exact h4 s hs
  · obtain ⟨x1, x2, x3, x4⟩ := c3 b hb
    rw [x1, x2, x3, x4, ha _ (by omega), ha _ (by omega), ha _ (by omega), ha _ (by omega)]
    exact h5 b hb
  · rw [c4 s hs, ha _ (by omega)]
    exact h6 s hs
  · obtain ⟨ns, e, b1, b2, b3, b4, b5, b6⟩ := h8
    refine ⟨ns, e, b1, b2, by rw [ha 3 (by omega)]; exact b3, by rw [c1 19 (by omega) (by omega)]; exact b4, by rw [c1 18 (by omega) (by omega)]; exact b5, fun i hi => ?_⟩
    obtain ⟨m, m1, m2, m3, m4⟩ := b6 i hi
    have hm : (e + i) % 30 < 30 := Nat.mod_lt _ (by omega)
    exact ⟨m, m1, by rw [ha _ (by omega)]; exact m2, by rw [c7 _ hm]; exact m3, rWall_cp m4 (c8 _ hm) (fun k _ => ha _ (by omega)) (fun k _ => ha _ (by omega))⟩
theorem cp7 {s0 s1 : Nat} (h : s0 ≠ s1) (IM : gI) : ∃ I', fX7_copy s0 s1 IM = some I' ∧ (∀ o, o ≠ s1 → I' o = IM o) ∧ ∀ k, k < 1592 → I' s1 k = IM s0 k := by
  obtain ⟨I', e, q1, q2⟩ := lp_ex (fun n k (a : gI) => fX7_copy_2 s0 s1 n (nI k) a) 1592 (fun k a => (∀ o, o ≠ s1 → a o = IM o) ∧ ∀ j, j < k → a s1 j = IM s0 j) (fun a => (∀ o, o ≠ s1 → a o = IM o) ∧ ∀ j, j < 1592 → a s1 j = IM s0 j)
    (fun n a hP => by
      try dsimp only at hP ⊢
      refine ⟨a, ?_, hP⟩
      rw [sX7_copy_2, fX7_copy_2b]
      simp (disch := (first | assumption | trivial | omega)) only [lit, neg1, oI_s, addN, mulN, subN, clN, gdN, ltN, leN, eqN, nIo, oIn, oI_eq, divN, remN, giT, giF, lzE, prE, bdE, smL, smR, shlN, shrN, hasE, andN, orN, bit1, bit0, max7, min7, giTr, giFa, gdp, litL, i2l, addL, mulL, divL, remL, cmLe, cmGt, cmGe, cmEq, eqL])
    (fun n k a hk hP => by
      try dsimp only at hP ⊢
      right
      refine ⟨wI a s1 k (IM s0 k), ?_, fun o ho => by rw [wI_o ho]; exact hP.1 o ho, fun j hj => ?_⟩
      · have e0 : a s0 = IM s0 := hP.1 s0 h
        rw [sX7_copy_2, fX7_copy_2b]
        simp (disch := (first | assumption | trivial | omega)) only [e0, lit, neg1, oI_s, addN, mulN, subN, clN, gdN, ltN, leN, eqN, nIo, oIn, oI_eq, divN, remN, giT, giF, lzE, prE, bdE, smL, smR, shlN, shrN, hasE, andN, orN, bit1, bit0, max7, min7, giTr, giFa, gdp, litL, i2l, addL, mulL, divL, remL, cmLe, cmGt, cmGe, cmEq, eqL]
      · by_cases e : j = k
        · subst e; exact wI_eq
        · rw [wI_ne (by omega)]; exact hP.2 j (by omega)) 1592 0 IM FU (by omega) ⟨fun _ _ => rfl, fun j hj => absurd hj (by omega)⟩ (by show _ < 5000; omega)
  try dsimp only at e
  refine ⟨I', ?_, q1, q2⟩
  unfold fX7_copy
  simp (disch := (first | assumption | trivial | omega)) only [e, lit, neg1, oI_s, addN, mulN, subN, clN, gdN, ltN, leN, eqN, nIo, oIn, oI_eq, divN, remN, giT, giF, lzE, prE, bdE, smL, smR, shlN, shrN, hasE, andN, orN, bit1, bit0, max7, min7, giTr, giFa, gdp, litL, i2l, addL, mulL, divL, remL, cmLe, cmGt, cmGe, cmEq, eqL]
theorem be0 {p0 p1 : Nat} (h : p0 + 136 ≤ p1 ∨ p1 + 136 ≤ p0) (IC : gI) : ∃ IC', fX0_become p0 p1 IC = some IC' ∧ psm IC' p0 IC p1 ∧ ∀ o, o < p0 ∨ p0 + 136 ≤ o → IC' o = IC o := by
  obtain ⟨J, hJ⟩ : ∃ J, J = (cpI (cpI (cpI (cpI (cpI (cpI (cpI (cpI (cpI (cpI IC (p1 + 1) 0 (p0 + 1) 0 5) (p1 + 2) 0 (p0 + 2) 0 5) (p1 + 3) 0 (p0 + 3) 0 6) (p1 + 4) 0 (p0 + 4) 0 6) (p1 + 5) 0 (p0 + 5) 0 6) (p1 + 6) 0 (p0 + 6) 0 6) (p1 + 7) 0 (p0 + 7) 0 12) (p1 + 8) 0 (p0 + 8) 0 8) (p1 + 9) 0 (p0 + 9) 0 8) (p1 + 15) 0 (p0 + 15) 0 30) := ⟨_, rfl⟩
  have j0 : ∀ o, o ≠ p0 + 1 → o ≠ p0 + 2 → o ≠ p0 + 3 → o ≠ p0 + 4 → o ≠ p0 + 5 → o ≠ p0 + 6 → o ≠ p0 + 7 → o ≠ p0 + 8 → o ≠ p0 + 9 → o ≠ p0 + 15 → J o = IC o := fun o h1 h2 h3 h4 h5 h6 h7 h8 h9 h10 => by
    rw [hJ, cp_o h10, cp_o h9, cp_o h8, cp_o h7, cp_o h6, cp_o h5, cp_o h4, cp_o h3, cp_o h2, cp_o h1]
  have j1 : ∀ k, k < 5 → J (p0 + 1) k = IC (p1 + 1) k ∧ J (p0 + 2) k = IC (p1 + 2) k := fun k hk => by
    rw [hJ]
    simp (disch := omega) only [cp_o, cp_in, show 0 + (k - 0) = k by omega]
    exact ⟨trivial, trivial⟩
  have j3 : ∀ k, k < 6 → J (p0 + 3) k = IC (p1 + 3) k ∧ J (p0 + 4) k = IC (p1 + 4) k ∧ J (p0 + 5) k = IC (p1 + 5) k ∧ J (p0 + 6) k = IC (p1 + 6) k := fun k hk => by
    rw [hJ]
    simp (disch := omega) only [cp_o, cp_in, show 0 + (k - 0) = k by omega]
    exact ⟨trivial, trivial, trivial, trivial⟩
  have j7 : ∀ k, k < 12 → J (p0 + 7) k = IC (p1 + 7) k := fun k hk => by
    rw [hJ]
    simp (disch := omega) only [cp_o, cp_in, show 0 + (k - 0) = k by omega]
  have j8 : ∀ k, k < 8 → J (p0 + 8) k = IC (p1 + 8) k ∧ J (p0 + 9) k = IC (p1 + 9) k := fun k hk => by
    rw [hJ]
    simp (disch := omega) only [cp_o, cp_in, show 0 + (k - 0) = k by omega]
    exact ⟨trivial, trivial⟩
  have j15 : ∀ k, k < 30 → J (p0 + 15) k = IC (p1 + 15) k := fun k hk => by
    rw [hJ]
    simp (disch := omega) only [cp_o, cp_in, show 0 + (k - 0) = k by omega]
  obtain ⟨b1, b2⟩ := be_ok J (w := p0 + 10) (v := p1 + 10) (by omega)
  generalize hI : fX5_become (p0 + 10) (p1 + 10) J = I1 at b1 b2
  obtain ⟨I2, e, q1, q2⟩ := lp_ex (fun n k (a : gI) => fX0_become_161 p0 p1 n (nI k) a) 30 (fun k a => (∀ o, o < p0 + 16 ∨ p0 + 136 ≤ o → a o = I1 o) ∧ ∀ j, j < k → wsm a (p0 + 16 + 4 * j) I1 (p1 + 16 + 4 * j)) (fun a => (∀ o, o < p0 + 16 ∨ p0 + 136 ≤ o → a o = I1 o) ∧ ∀ j, j < 30 → wsm a (p0 + 16 + 4 * j) I1 (p1 + 16 + 4 * j))
    (fun n a hP => by
      try dsimp only at hP ⊢
      refine ⟨a, ?_, hP⟩
      rw [sX0_become_161, fX0_become_161b]
      simp (disch := (first | assumption | trivial | omega)) only [lit, neg1, oI_s, addN, mulN, subN, clN, gdN, ltN, leN, eqN, nIo, oIn, oI_eq, divN, remN, giT, giF, lzE, prE, bdE, smL, smR, shlN, shrN, hasE, andN, orN, bit1, bit0, max7, min7, giTr, giFa, gdp, litL, i2l, addL, mulL, divL, remL, cmLe, cmGt, cmGe, cmEq, eqL])
    (fun n k a hk hP => by
      try dsimp only at hP ⊢
      right
      obtain ⟨d1, d2⟩ := be_ok a (w := p0 + 16 + 4 * k) (v := p1 + 16 + 4 * k) (by omega)
      refine ⟨fX5_become (p0 + 16 + 4 * k) (p1 + 16 + 4 * k) a, ?_, fun o ho => (d2 o (by omega)).trans (hP.1 o ho), fun j hj => ?_⟩
      · rw [sX0_become_161, fX0_become_161b]
        simp (disch := (first | assumption | trivial | omega)) only [show p0 + 14 + 2 + 4 * k = p0 + 16 + 4 * k by omega, show p1 + 14 + 2 + 4 * k = p1 + 16 + 4 * k by omega, lit, neg1, oI_s, addN, mulN, subN, clN, gdN, ltN, leN, eqN, nIo, oIn, oI_eq, divN, remN, giT, giF, lzE, prE, bdE, smL, smR, shlN, shrN, hasE, andN, orN, bit1, bit0, max7, min7, giTr, giFa, gdp, litL, i2l, addL, mulL, divL, remL, cmLe, cmGt, cmGe, cmEq, eqL]
      · by_cases ej : j = k
        · subst ej
          have d3 : wsm a (p1 + 16 + 4 * j) I1 (p1 + 16 + 4 * j) := wsm_of fun o h1 h2 => hP.1 o (by omega)
          exact wsm_tr d3 d1
        · exact wsm_tr (hP.2 j (by omega)) (wsm_of fun o h1 h2 => d2 o (by omega))) 30 0 I1 FU (by omega) ⟨fun _ _ => rfl, fun j hj => absurd hj (by omega)⟩ (by show _ < 5000; omega)
  try dsimp only at e
  have hp : I2 p1 = IC p1 := by rw [q1 p1 (by omega), b2 p1 (by omega), j0 p1 (by omega) (by omega) (by omega) (by omega) (by omega) (by omega) (by omega) (by omega) (by omega) (by omega)]
  refine ⟨(wI (wI (wI (wI (wI (wI (wI (wI I2 p0 12 (I2 p1 12)) p0 13 (I2 p1 13)) p0 14 (I2 p1 14)) p0 15 (I2 p1 15)) p0 16 (I2 p1 16)) p0 17 (I2 p1 17)) p0 18 (I2 p1 18)) p0 19 (I2 p1 19)), ?_, ⟨fun k h1 h2 => ?_, fun k hk => ?_, fun k hk => ?_, fun k hk => ?_, fun k hk => ?_, ?_, fun k hk => ?_, fun j hj => ?_⟩, fun o ho => ?_⟩
  · unfold fX0_become
    rw [hJ] at hI
    simp (disch := (first | assumption | trivial | omega)) only [hI, e, wI_o, lit, neg1, oI_s, addN, mulN, subN, clN, gdN, ltN, leN, eqN, nIo, oIn, oI_eq, divN, remN, giT, giF, lzE, prE, bdE, smL, smR, shlN, shrN, hasE, andN, orN, bit1, bit0, max7, min7, giTr, giFa, gdp, litL, i2l, addL, mulL, divL, remL, cmLe, cmGt, cmGe, cmEq, eqL]
  · have : k = 12 ∨ k = 13 ∨ k = 14 ∨ k = 15 ∨ k = 16 ∨ k = 17 ∨ k = 18 ∨ k = 19 := by omega
    rw [← hp]
    rcases this with rfl | rfl | rfl | rfl | rfl | rfl | rfl | rfl <;> simp (disch := omega) only [wI_ne, wI_eq]
  · simp (disch := omega) only [wI_o]
    rw [q1 _ (by omega), q1 _ (by omega), b2 _ (by omega), b2 _ (by omega)]
    exact j1 k hk
  · simp (disch := omega) only [wI_o]
    rw [q1 _ (by omega), q1 _ (by omega), q1 _ (by omega), q1 _ (by omega), b2 _ (by omega), b2 _ (by omega), b2 _ (by omega), b2 _ (by omega)]
    exact j3 k hk
  · simp (disch := omega) only [wI_o]
    rw [q1 _ (by omega), b2 _ (by omega)]
    exact j7 k hk
  · simp (disch := omega) only [wI_o]
    rw [q1 _ (by omega), q1 _ (by omega), b2 _ (by omega), b2 _ (by omega)]
    exact j8 k hk
  · refine wsm_tr (wsm_tr (wsm_of fun o h1 h2 => j0 o (by omega) (by omega) (by omega) (by omega) (by omega) (by omega) (by omega) (by omega) (by omega) (by omega)) b1) (wsm_of fun o h1 h2 => ?_)
    simp (disch := omega) only [wI_o]
    exact q1 o (by omega)
  · simp (disch := omega) only [wI_o]
    rw [q1 _ (by omega), b2 _ (by omega)]
    exact j15 k hk
  · refine wsm_tr (wsm_tr (wsm_of fun o h1 h2 => ?_) (q2 j hj)) (wsm_of fun o h1 h2 => ?_)
    · rw [b2 o (by omega), j0 o (by omega) (by omega) (by omega) (by omega) (by omega) (by omega) (by omega) (by omega) (by omega) (by omega)]
    · simp (disch := omega) only [wI_o]
  · simp (disch := omega) only [wI_o]
    rw [q1 o (by omega), b2 o (by omega), j0 o (by omega) (by omega) (by omega) (by omega) (by omega) (by omega) (by omega) (by omega) (by omega) (by omega)]
theorem case_54 : st_54 V0 := by
  intro IC IM JM hV
  obtain ⟨S, h⟩ := view hV
  obtain ⟨IC', e6, c1, c2⟩ := be0 (p0 := 137) (p1 := 1) (by omega) IC
  obtain ⟨IM', e7, m1, m2⟩ := cp7 (s0 := 1) (s1 := 2) (by omega) IM
  obtain ⟨nb, nt, mb, mt, h1, ⟨p1, p2, p3, p4, p5, p6, p7, p8, p9⟩, h3, h4, h5⟩ := hV
  refine ⟨nI (S 10 0), IC', IM', ?_, ?_, nb, nt, nb, nt, Nat.le_refl _, rPort_congr ⟨p1, p2, p3, p4, p5, p6, p7, p8, p9⟩ (fun o _ _ => c2 o (by omega)) (m1 1 (by omega)), rPort_cp ⟨p1, p2, p3, p4, p5, p6, p7, p8, p9⟩ c1 m2, rTape_congr h4 (c2 0 (by omega)) (c2 _ (by omega)) (m1 4 (by omega)) ⟨by rw [m1 0 (by omega)], by rw [m1 0 (by omega)], by rw [m1 0 (by omega)], by rw [m1 0 (by omega)]⟩, fun t ht => rText_congr (h5 t ht) (fun k _ => c2 _ (by omega)) (fun k _ => by rw [m1 3 (by omega)])⟩
  · unfold fX6_image
    rw [e6, bdE, c2 11 (by omega), v_da6 h]
  · unfold fX7_image
    rw [e7, bdE, m1 1 (by omega), v_da7 h]
theorem case_55 : st_55 V0 := by
  intro IC IM JM hV
  obtain ⟨IC', e6, c1, c2⟩ := be0 (p0 := 1) (p1 := 137) (by omega) IC
  obtain ⟨IM', e7, m1, m2⟩ := cp7 (s0 := 2) (s1 := 1) (by omega) IM
  obtain ⟨nb, nt, mb, mt, h1, h2, h3, h4, h5⟩ := hV
  have hV' : V0 IC' IM' JM := ⟨mb, mt, mb, mt, Nat.le_refl _, rPort_cp h3 c1 m2, rPort_congr h3 (fun o _ _ => c2 o (by omega)) (m1 2 (by omega)), rTape_congr h4 (c2 0 (by omega)) (c2 _ (by omega)) (m1 4 (by omega)) ⟨by rw [m1 0 (by omega)], by rw [m1 0 (by omega)], by rw [m1 0 (by omega)], by rw [m1 0 (by omega)]⟩, fun t ht => rText_congr (h5 t (by omega)) (fun k _ => c2 _ (by omega)) (fun k _ => by rw [m1 3 (by omega)])⟩
  obtain ⟨S, h⟩ := view hV'
  refine ⟨nI (S 10 0), IC', IM', ?_, ?_, hV'⟩
  · unfold fX6_back
    rw [e6, bdE, v_da6 h]
  · unfold fX7_back
    rw [e7, bdE, v_da7 h]
