-- 55: PURE PART: days (out of wip/whole/pure by pure.py)
theorem oa7w {S : Nat → Nat → Nat} {IM : gI} (ho : ∀ s, s < 5 → S 1 s < 10 ∧ IM 1 (29 + s) = nI (S 1 s)) : fX7_allOdds IM = some (nI (oa S)) := by
  have R := lp_gen (fun n k (a : Nat) => fX7_allOdds_4 n (nI a) (nI k) IM) 5 (fun k a => a + S 1 k) nI (fun k a => a = ps S k ∧ a ≤ 10 * k)
    (fun n a _ => by
      try dsimp only
      rw [sX7_allOdds_4, fX7_allOdds_4b]
      simp (disch := (first | assumption | trivial | omega)) only [lit, neg1, oI_s, addN, mulN, subN, clN, gdN, ltN, leN, eqN, nIo, oIn, oI_eq, divN, remN, giT, giF, lzE, prE, bdE, smL, smR, shlN, shrN, hasE, andN, orN, bit1, bit0, max7, min7, giTr, giFa, gdp, litL, i2l, addL, mulL, divL, remL, cmLe, cmGt, cmGe, cmEq, eqL])
    (fun n k a hk hP => by
      try dsimp only at hP ⊢
      have := (ho k hk).1
      refine ⟨?_, ?_, by omega⟩
      · have e := (ho k hk).2
        rw [sX7_allOdds_4, fX7_allOdds_4b]
        simp (disch := (first | assumption | trivial | omega)) only [e, lit, neg1, oI_s, addN, mulN, subN, clN, gdN, ltN, leN, eqN, nIo, oIn, oI_eq, divN, remN, giT, giF, lzE, prE, bdE, smL, smR, shlN, shrN, hasE, andN, orN, bit1, bit0, max7, min7, giTr, giFa, gdp, litL, i2l, addL, mulL, divL, remL, cmLe, cmGt, cmGe, cmEq, eqL]
      · rw [hP.1]; rfl) 5 0 0 FU rfl ⟨rfl, by omega⟩ (by show _ < 5000; omega)
  obtain ⟨e, p, _⟩ := R
  try dsimp only at e
  rw [p, ps5] at e
  unfold fX7_allOdds
  rw [show (0 : Int32) = nI 0 from rfl, e]
  rfl
theorem day_ok (hE : EARN) {S : Nat → Nat → Nat} {w : Nat} {IC IM : gI} (JM : gJ) (hw : w = 11 ∨ w = 289) (g : sv S (fw w IC) IM) (ht : txs IC IM (S 0 1)) (hd : S 10 0 < 9999)   : ∃ (IC2 IM2 : gI) (JM2 : gJ) (s x : Nat) (pu : Nat → Nat), s < 5 ∧ x < 31039 ∧ (∀ b, b < 6 → pu b < 1000) ∧
    fX6_dawnComes w IC = bd (fX5_writeDown w (nI 3) (nI s) (nI 0) IC2) (fun I => some I) ∧
    fX7_passDay IM JM = bd (fX7_write (nI 3) (nI s) (nI 0) IM2) (fun I => some (I, JM2)) ∧
    (IC2 w 7 = nI (S 10 0 + 1) ∧ IC2 w 8 = nI x ∧ IC2 w 6 = nI (S 10 2) ∧ IC2 w 5 = nI s ∧ IC2 w 4 = nI 4095 ∧ IC2 w 3 = IC w 3) ∧
    (∀ b, b < 6 → IC2 (w + 1) b = nI (pu b) ∧ IC2 (w + 2) b = nI 0) ∧ (∀ o, o ≠ w → o ≠ w + 1 → o ≠ w + 2 → o ≠ 288 → IC2 o = IC o) ∧
    (IM2 1 6 = nI (S 10 0 + 1) ∧ IM2 1 7 = nI x ∧ IM2 1 8 = nI (S 10 2) ∧ IM2 1 9 = nI s) ∧ (∀ j, j < 12 → IM2 1 (11 + j) = oI 0) ∧ (∀ b, b < 6 → IM2 1 (23 + b) = nI (pu b)) ∧ (∀ k, k < 6 ∨ k = 10 ∨ 29 ≤ k → IM2 1 k = IM 1 k) ∧ ∀ o, o ≠ 1 → o ≠ 6 → o ≠ 8 → IM2 o = IM o := by
  obtain ⟨C1, M1, J1, pu, e1, d1, hpu, g1, fc, fm, fm1⟩ := earns_lp hE JM hw g ht
  have bw := b_w g
  have oalt := oa_lt g
  have c7 : C1 w 7 = nI (S 10 0) := by have z := v_da6 g1; exact z
  have c8 : C1 w 8 = nI (S 10 1) := by have z := v_dx6 g1; exact z
  have c6 : C1 w 6 = nI (S 10 2) := by have z := v_fu6 g1; exact z
  have cp : ∀ b, b < 6 → C1 (w + 1) b = nI (pu b) := fun b hb => by
    have := v_pu6 g1 hb
    exact this
  have c2 : ∀ s, s < 5 → C1 2 s = nI (S 1 s) := fun s hs => by
    have := v_od6 g1 hs
    exact this
  have m6 : M1 1 6 = nI (S 10 0) := by have z := v_da7 g1; exact z
  have m7 : M1 1 7 = nI (S 10 1) := by have z := v_dx7 g1; exact z
  have m8 : M1 1 8 = nI (S 10 2) := by have z := v_fu7 g1; exact z
  have mp : ∀ b, b < 6 → M1 1 (23 + b) = nI (pu b) := fun b hb => by
    have := v_pu7 g1 hb
    exact this
  have m29 : ∀ s, s < 5 → M1 1 (29 + s) = nI (S 1 s) := fun s hs => by have z := v_od7 g1 hs; exact z
  have msl : ∀ j, j < 12 → M1 1 (11 + j) = oI (S 11 j) := fun j hj => by have z := v_sl7 g1 hj; exact z
  obtain ⟨C3, e3, o1, o2, o3⟩ := lp_ex (fun n k (a : gI) => fX6_dawnComes_54 w n (nI k) a) 6 (fun k a => (∀ o, o ≠ w + 2 → a o = wI C1 w 4 (nI 4095) o) ∧ (∀ j, j < k → a (w + 2) j = nI 0) ∧ True) (fun a => (∀ o, o ≠ w + 2 → a o = wI C1 w 4 (nI 4095) o) ∧ (∀ j, j < 6 → a (w + 2) j = nI 0) ∧ True)
    (fun n a hP => by
      try dsimp only at hP ⊢
      refine ⟨a, ?_, hP⟩
      rw [sX6_dawnComes_54, fX6_dawnComes_54b]
      simp (disch := (first | assumption | trivial | omega)) only [lit, neg1, oI_s, addN, mulN, subN, clN, gdN, ltN, leN, eqN, nIo, oIn, oI_eq, divN, remN, giT, giF, lzE, prE, bdE, smL, smR, shlN, shrN, hasE, andN, orN, bit1, bit0, max7, min7, giTr, giFa, gdp, litL, i2l, addL, mulL, divL, remL, cmLe, cmGt, cmGe, cmEq, eqL])
    (fun n k a hk hP => by
      try dsimp only at hP ⊢
      right
      refine ⟨wI a (w + 2) k (nI 0), ?_, fun o ho => by rw [wI_o ho]; exact hP.1 o ho, fun j hj => ?_, trivial⟩
      · rw [sX6_dawnComes_54, fX6_dawnComes_54b]
        simp (disch := (first | assumption | trivial | omega)) only [lit, neg1, oI_s, addN, mulN, subN, clN, gdN, ltN, leN, eqN, nIo, oIn, oI_eq, divN, remN, giT, giF, lzE, prE, bdE, smL, smR, shlN, shrN, hasE, andN, orN, bit1, bit0, max7, min7, giTr, giFa, gdp, litL, i2l, addL, mulL, divL, remL, cmLe, cmGt, cmGe, cmEq, eqL]
      · by_cases e : j = k
        · subst e; exact wI_eq
        · rw [wI_ne (by omega)]; exact hP.2.1 j (by omega)) 6 0 (wI C1 w 4 (nI 4095)) FU rfl ⟨fun _ _ => rfl, fun j hj => absurd hj (by omega), trivial⟩ (by show _ < 5000; omega)
  obtain ⟨M3, d3, t2, t3, t4, t5⟩ := lp_sl (fun n k a => fX7_passDay_52 n (nI k) a) 0 12 (fun j => 0) (S 11) M1 msl
    (fun n a _ => by
      try dsimp only
      rw [sX7_passDay_52, fX7_passDay_52b]
      simp (disch := (first | assumption | trivial | omega)) only [lit, neg1, oI_s, addN, mulN, subN, clN, gdN, ltN, leN, eqN, nIo, oIn, oI_eq, divN, remN, giT, giF, lzE, prE, bdE, smL, smR, shlN, shrN, hasE, andN, orN, bit1, bit0, max7, min7, giTr, giFa, gdp, litL, i2l, addL, mulL, divL, remL, cmLe, cmGt, cmGe, cmEq, eqL])
    (fun n k a _ hk _ e => by
      try dsimp only
      left
      rw [sX7_passDay_52, fX7_passDay_52b]
      simp (disch := (first | assumption | trivial | omega)) only [lit, neg1, oI_s, addN, mulN, subN, clN, gdN, ltN, leN, eqN, nIo, oIn, oI_eq, divN, remN, giT, giF, lzE, prE, bdE, smL, smR, shlN, shrN, hasE, andN, orN, bit1, bit0, max7, min7, giTr, giFa, gdp, litL, i2l, addL, mulL, divL, remL, cmLe, cmGt, cmGe, cmEq, eqL]) (by omega) (by omega)
  try dsimp only at e3 d3 t4
  have hod : ∀ s, s < 5 → S 1 s < 10 ∧ C3 2 s = nI (S 1 s) ∧ M3 1 (29 + s) = nI (S 1 s) := fun s hs => by
    refine ⟨(b_od g hs).1, ?_, ?_⟩
    · rw [o1 2 (by omega), wI_o (by omega)]; exact c2 s hs
    · rw [t3 _ (by omega)]; exact m29 s hs
  obtain ⟨s, x, C4, M4, hs, hx, e4, d4, p5, p8, q1, q2, r1, r2, r3⟩ := draw (S := S) (w := w) (IC := C3) (IM := M3) hw hod (oa7w fun s hs => ⟨(hod s hs).1, (hod s hs).2.2⟩) oalt bw.2.1 (by rw [o1 w (by omega), wI_ne (by omega)]; exact c8) (by rw [t3 7 (by omega)]; exact m7)
  have c47 : C4 w 7 = nI (S 10 0) := by rw [q2 7 (by omega) (by omega), o1 w (by omega), wI_ne (by omega)]; exact c7
  have m46 : M4 1 6 = nI (S 10 0) := by rw [r2 6 (by omega), t3 6 (by omega)]; exact m6
  refine ⟨wI C4 w 7 (nI (S 10 0 + 1)), wI (wI M4 1 9 (nI s)) 1 6 (nI (S 10 0 + 1)), J1, s, x, pu, hs, hx, hpu, ?_, ?_, ⟨wI_eq, ?_, ?_, ?_, ?_, ?_⟩, fun b hb => ⟨?_, ?_⟩, fun o h1 h2 h3 h4 => ?_, ⟨wI_eq, ?_, ?_, ?_⟩, fun j hj => ?_, fun b hb => ?_, fun k hk => ?_, fun o h1 h2 h3 => ?_⟩
  · unfold fX6_dawnComes
    rw [show (0 : Int32) = nI 0 from rfl, show fX6_dawnComes_2 w FU (nI 0) IC = some C1 from e1, bdE, lzE, show (4095 : Int32) = nI 4095 from rfl, e3, bdE, e4, bdE, lzE, c47]
    simp (disch := (first | assumption | trivial | omega)) only [wI_ne, p5, lit, neg1, oI_s, addN, mulN, subN, clN, gdN, ltN, leN, eqN, nIo, oIn, oI_eq, divN, remN, giT, giF, lzE, prE, bdE, smL, smR, shlN, shrN, hasE, andN, orN, bit1, bit0, max7, min7, giTr, giFa, gdp, litL, i2l, addL, mulL, divL, remL, cmLe, cmGt, cmGe, cmEq, eqL]
  · unfold fX7_passDay
    rw [show (0 : Int32) = nI 0 from rfl, show fX7_passDay_2 FU (nI 0) IM JM = some (M1, J1) from d1, bdE, prE, d3, bdE, d4, bdE, prE]
    simp (disch := (first | assumption | trivial | omega)) only [wI_ne, m46, wI_eq, lit, neg1, oI_s, addN, mulN, subN, clN, gdN, ltN, leN, eqN, nIo, oIn, oI_eq, divN, remN, giT, giF, lzE, prE, bdE, smL, smR, shlN, shrN, hasE, andN, orN, bit1, bit0, max7, min7, giTr, giFa, gdp, litL, i2l, addL, mulL, divL, remL, cmLe, cmGt, cmGe, cmEq, eqL]
  · rw [wI_ne (by omega)]; exact p8
  · rw [wI_ne (by omega), q2 6 (by omega) (by omega), o1 w (by omega), wI_ne (by omega)]; exact c6
  · rw [wI_ne (by omega)]; exact p5
  · rw [wI_ne (by omega), q2 4 (by omega) (by omega), o1 w (by omega), wI_eq]
  · rw [wI_ne (by omega), q2 3 (by omega) (by omega), o1 w (by omega), wI_ne (by omega), fc w (by omega) (by omega)]
  · rw [wI_o (by omega), q1 _ (by omega), o1 _ (by omega), wI_o (by omega)]; exact cp b hb
  · rw [wI_o (by omega), q1 _ (by omega)]; exact o2 b hb
  · rw [wI_o h1, q1 o h1, o1 o h3, wI_o h1, fc o h2 h4]
  · rw [wI_ne (by omega), wI_ne (by omega)]; exact r3
  · rw [wI_ne (by omega), wI_ne (by omega), r2 8 (by omega), t3 8 (by omega)]; exact m8
  · rw [wI_ne (by omega), wI_eq]
  · rw [wI_ne (by omega), wI_ne (by omega), r2 _ (by omega)]; exact t4 j (by omega) hj
  · rw [wI_ne (by omega), wI_ne (by omega), r2 _ (by omega), t3 _ (by omega)]; exact mp b hb
  · rw [wI_ne (by omega), wI_ne (by omega), r2 _ (by omega), t3 _ (by omega), fm1 _ (by omega)]
  · rw [wI_o h1, wI_o h1, r1 o h1, t2 o h1, fm o h1 h2 h3]
theorem all12 : ∀ j, j < 12 → (4095 : Nat).testBit j = true := by decide
/-- a day passes, now -/
theorem dy_ok (hE : EARN) {S : Nat → Nat → Nat} {IC IM : gI} {JM : gJ} (kV : V0 IC IM JM) (h : sv S IC IM) (hd : S 10 0 < 9999) : ∃ IC' IM' JM', fX6_dawnComes 11 IC = some IC' ∧ fX7_passDay IM JM = some (IM', JM') ∧ V0 IC' IM' JM' ∧ IM' 1 6 = nI (S 10 0 + 1) := by
  have ht : txs IC IM (S 0 1) := by
    obtain ⟨nb, nt, mb, mt, h1, ⟨p1, p2, p3, p4, p5, p6, p7, p8, p9⟩, h3, h4, h5⟩ := kV
    obtain ⟨n1, n2⟩ := nb_of h p1
    exact fun t ht => h5 t (by omega)
  have bw := b_w h
  obtain ⟨C2, M2, J2, s, x, pu, hs, hx, hpu, e6, e7, ⟨c7, c8, c6, c5, c4, c3⟩, cb, co, ⟨m6, m7, m8, m9⟩, ms, mb, mk, mo⟩ := day_ok hE (w := 11) JM (Or.inl rfl) (by rw [fw_eq]; exact h) ht hd
  obtain ⟨A, hA⟩ : ∃ A : gI, A = fun o => if o = 288 then C2 288 else IC o := ⟨_, rfl⟩
  obtain ⟨B, hB⟩ : ∃ B : gI, B = fun o => if o = 6 then M2 6 else if o = 8 then M2 8 else IM o := ⟨_, rfl⟩
  have fA : fC IC A := fun o ho => by rw [hA]; exact if_neg ho
  have fB : fM IM B := fun o h1 h2 => by rw [hB]; show (if o = 6 then M2 6 else if o = 8 then M2 8 else IM o) = IM o; rw [if_neg h1, if_neg h2]
  have kV' : V0 A B J2 := V0_f kV fA fB
  have g := sv_f h fA fB
  obtain ⟨IC3, IM3, w1, w2, w3⟩ := mutw (S := S) (IC2 := C2) (IM2 := M2) J2 kV' g (S 10 0 + 1) x (S 10 2) s 4095 (fun _ => 0) (fun _ => 0) pu
    ⟨by omega, hx, bw.2.2.1, hs, by decide⟩ ⟨m6, c7, m7, c8, m8, c6, m9, c5, c4⟩
    (fun j hj => ⟨Or.inl (Nat.zero_le _), ms j hj, ⟨fun _ => rfl, fun _ => all12 j hj⟩⟩)
    (fun b hb => ⟨by decide, (cb b hb).2, fun j hj => ⟨fun q => by rw [Nat.zero_testBit] at q; exact absurd q (by decide), fun q => absurd q (by omega)⟩⟩)
    (fun b hb => ⟨hpu b hb, mb b hb, (cb b hb).1⟩)
    (fun j b _ _ e => absurd e (by omega))
    (fun o h1 h2 h3 => by
      by_cases q : o = 288
      · subst q; rw [hA]; rfl
      · rw [co o h1 h2 h3 q, fA o q])
    (by rw [c3, fA 11 (by omega)])
    (fun o h1 => by
      by_cases q : o = 6
      · subst q; rw [hB]; rfl
      · by_cases q2 : o = 8
        · subst q2; rw [hB]; rfl
        · rw [mo o h1 q q2, fB o q q2])
    (fun k hk => by rw [mk k (by omega), fB 1 (by omega) (by omega)]) (k := 3) (x := s) (q := 0) (by omega) (by omega) (by omega)
  refine ⟨IC3, IM3, J2, ?_, ?_, w3, ?_⟩
  · rw [e6, w1]; rfl
  · rw [e7, w2]; rfl
  · obtain ⟨S3, g3⟩ := view w3
    have := wr7 (IM := M2) (n := S 10 4) (d := S 10 0 + 1) (k := 3) (x := s) (q := 0) (by
      rw [mo 0 (by omega) (by omega) (by omega)]
      obtain ⟨nb, nt, mb, mt, h1, ⟨p1, p2, p3, p4, p5, p6, p7, p8, p9⟩, h3, h4, h5⟩ := kV
      obtain ⟨n, b1, b2, b3, b4, b5, b6, b7⟩ := h4
      exact b7) (by rw [mk 10 (by omega)]; exact v_ln7 h) (by omega) m6 (by omega) (by omega) (by omega) (by omega)
    obtain ⟨IM', m, y1, y2, y3, _⟩ := this
    rw [w2] at y1
    have y4 := Option.some.inj y1
    rw [y4, y3 6 (by omega) (by omega)]
    exact m6
/-- days pass, one step each -/
theorem pd_ok (hE : EARN) {S : Nat → Nat → Nat} {IC IM : gI} {JM : gJ} (kV : V0 IC IM JM) (h : sv S IC IM) {n : Nat} (hn : n ≤ 60) : ∃ r IC' IM' JM', fX6_passDays (nI n) IC = some (r, IC') ∧ fX7_arePassed (nI n) IM JM = some (r, IM', JM') ∧ V0 IC' IM' JM' ∧ (r = nI 0 ∨ r = nI 1) ∧ (S 10 0 + n ≤ 9999 → r = nI 1) := by
  have bw := b_w h
  obtain ⟨r6, r7, e6, e7, C, M, J, hV, hr⟩ := lp_2 (fun m k (a : gI × gI × gJ) => fX6_passDays_2 m (nI n) (nI k) a.1) (fun m k (a : gI × gI × gJ) => fX7_arePassed_2 m (nI n) (nI k) a.2.1 a.2.2) n
    (fun k a => V0 a.1 a.2.1 a.2.2 ∧ a.2.1 1 6 = nI (S 10 0 + k) ∧ S 10 0 + k < 10000)
    (fun r6 r7 => ∃ C M J, V0 C M J ∧ ((r6 = Sum.inl C ∧ r7 = Sum.inl (M, J) ∧ ¬ S 10 0 + n ≤ 9999) ∨ (r6 = Sum.inr C ∧ r7 = Sum.inr (M, J))))
    (fun m a hP => by
      try dsimp only at hP ⊢
      refine ⟨Sum.inr a.1, Sum.inr (a.2.1, a.2.2), ?_, ?_, a.1, a.2.1, a.2.2, hP.1, Or.inr ⟨rfl, rfl⟩⟩
      · rw [sX6_passDays_2, fX6_passDays_2b]
        simp (disch := (first | assumption | trivial | omega)) only [lit, neg1, oI_s, addN, mulN, subN, clN, gdN, ltN, leN, eqN, nIo, oIn, oI_eq, divN, remN, giT, giF, lzE, prE, bdE, smL, smR, shlN, shrN, hasE, andN, orN, bit1, bit0, max7, min7, giTr, giFa, gdp, litL, i2l, addL, mulL, divL, remL, cmLe, cmGt, cmGe, cmEq, eqL]
      · rw [sX7_arePassed_2, fX7_arePassed_2b]
        simp (disch := (first | assumption | trivial | omega)) only [lit, neg1, oI_s, addN, mulN, subN, clN, gdN, ltN, leN, eqN, nIo, oIn, oI_eq, divN, remN, giT, giF, lzE, prE, bdE, smL, smR, shlN, shrN, hasE, andN, orN, bit1, bit0, max7, min7, giTr, giFa, gdp, litL, i2l, addL, mulL, divL, remL, cmLe, cmGt, cmGe, cmEq, eqL])
    (fun m k a hk hP => by
      try dsimp only at hP ⊢
      obtain ⟨C, M, J⟩ := a
      try dsimp only at hP ⊢
      obtain ⟨q1, q2, q3⟩ := hP
      obtain ⟨S1, g1⟩ := view q1
      have b1 := b_w g1
      have hday : S1 10 0 = S 10 0 + k := by
        have := v_da7 g1
        rw [q2] at this
        exact ((nI_eq (by omega) (by omega)).mp this).symm
      have e11 := v_da6 g1
      by_cases c : S1 10 0 = 9999
      · left
        refine ⟨Sum.inl C, Sum.inl (M, J), ?_, ?_, C, M, J, q1, Or.inl ⟨rfl, rfl, by omega⟩⟩
        · rw [sX6_passDays_2, fX6_passDays_2b]
          simp (disch := (first | assumption | trivial | omega)) only [e11, c, lit, neg1, oI_s, addN, mulN, subN, clN, gdN, ltN, leN, eqN, nIo, oIn, oI_eq, divN, remN, giT, giF, lzE, prE, bdE, smL, smR, shlN, shrN, hasE, andN, orN, bit1, bit0, max7, min7, giTr, giFa, gdp, litL, i2l, addL, mulL, divL, remL, cmLe, cmGt, cmGe, cmEq, eqL]
        · rw [sX7_arePassed_2, fX7_arePassed_2b]
          have c3 : S 10 0 + k = 9999 := by omega
          simp (disch := (first | assumption | trivial | omega)) only [q2, c3, lit, neg1, oI_s, addN, mulN, subN, clN, gdN, ltN, leN, eqN, nIo, oIn, oI_eq, divN, remN, giT, giF, lzE, prE, bdE, smL, smR, shlN, shrN, hasE, andN, orN, bit1, bit0, max7, min7, giTr, giFa, gdp, litL, i2l, addL, mulL, divL, remL, cmLe, cmGt, cmGe, cmEq, eqL]
      · right
        obtain ⟨C2, M2, k1, k2, kV2, kC, kC1, kM, kM1⟩ := keep q1
        have g2 := sv_kp g1 kC kC1 kM1
        obtain ⟨C3, M3, J3, x6, x7, kV3, x1⟩ := dy_ok hE kV2 g2 (by omega)
        refine ⟨(C3, M3, J3), ?_, ?_, kV3, ?_, by omega⟩
        · rw [sX6_passDays_2, fX6_passDays_2b]
          have c2 : S1 10 0 < 9999 := by omega
          simp (disch := (first | assumption | trivial | omega)) only [e11, c2, k1, x6, lit, neg1, oI_s, addN, mulN, subN, clN, gdN, ltN, leN, eqN, nIo, oIn, oI_eq, divN, remN, giT, giF, lzE, prE, bdE, smL, smR, shlN, shrN, hasE, andN, orN, bit1, bit0, max7, min7, giTr, giFa, gdp, litL, i2l, addL, mulL, divL, remL, cmLe, cmGt, cmGe, cmEq, eqL]
        · rw [sX7_arePassed_2, fX7_arePassed_2b]
          have c2 : ¬ S 10 0 + k = 9999 := by omega
          simp (disch := (first | assumption | trivial | omega)) only [q2, c2, k2, x7, lit, neg1, oI_s, addN, mulN, subN, clN, gdN, ltN, leN, eqN, nIo, oIn, oI_eq, divN, remN, giT, giF, lzE, prE, bdE, smL, smR, shlN, shrN, hasE, andN, orN, bit1, bit0, max7, min7, giTr, giFa, gdp, litL, i2l, addL, mulL, divL, remL, cmLe, cmGt, cmGe, cmEq, eqL]
        · show M3 1 6 = _
          rw [x1, hday, Nat.add_assoc]) n 0 (IC, IM, JM) FU (by omega) ⟨kV, by rw [Nat.add_zero]; exact v_da7 h, by omega⟩ (by show _ < 5000; omega)
  try dsimp only at e6 e7
  rcases hr with ⟨rfl, rfl, hq⟩ | ⟨rfl, rfl⟩
  · refine ⟨nI 0, C, M, J, ?_, ?_, hV, Or.inl rfl, fun q => absurd q hq⟩
    · unfold fX6_passDays
      rw [show (0 : Int32) = nI 0 from rfl, e6]
      rfl
    · unfold fX7_arePassed
      rw [show (0 : Int32) = nI 0 from rfl, e7]
      rfl
  · refine ⟨nI 1, C, M, J, ?_, ?_, hV, Or.inr rfl, fun _ => rfl⟩
    · unfold fX6_passDays
      rw [show (0 : Int32) = nI 0 from rfl, e6]
      rfl
    · unfold fX7_arePassed
      rw [show (0 : Int32) = nI 0 from rfl, e7]
      rfl
theorem case_11 (hE : EARN) : st_11 V0 := by
  intro a1 IC IM JM hV
  obtain ⟨S, h⟩ := view hV
  have bw := b_w h
  rcases isIn1 a1 60 (by decide) with ⟨n, n1, n2, rfl, i7⟩ | i7
  · have i6 : fX6_within (nI n) 1 (nI 60) = nI 1 := i7
    by_cases c : S 10 0 + n ≤ 9999
    · obtain ⟨r, C, M, J, e6, e7, kV, hr, hr1⟩ := pd_ok hE hV h (n := n) n2
      have hr2 := hr1 c
      subst hr2
      obtain ⟨S2, g2⟩ := view kV
      have c2 : ¬ 9999 < S 10 0 + n := by omega
      refine ⟨nI (S2 10 3), C, M, J, ?_, ?_, kV⟩
      · unfold fX6_day
        rw [show fX6_within (nI n) 1 60 = nI 1 from i6]
        simp (disch := (first | assumption | trivial | omega)) only [v_da6 h, c, e6, v_so6 g2, lit, neg1, oI_s, addN, mulN, subN, clN, gdN, ltN, leN, eqN, nIo, oIn, oI_eq, divN, remN, giT, giF, lzE, prE, bdE, smL, smR, shlN, shrN, hasE, andN, orN, bit1, bit0, max7, min7, giTr, giFa, gdp, litL, i2l, addL, mulL, divL, remL, cmLe, cmGt, cmGe, cmEq, eqL]
      · unfold fX7_day
        rw [show fX7_isIn (nI n) 1 60 = nI 1 from i7]
        simp (disch := (first | assumption | trivial | omega)) only [v_da7 h, c2, e7, v_so7 g2, lit, neg1, oI_s, addN, mulN, subN, clN, gdN, ltN, leN, eqN, nIo, oIn, oI_eq, divN, remN, giT, giF, lzE, prE, bdE, smL, smR, shlN, shrN, hasE, andN, orN, bit1, bit0, max7, min7, giTr, giFa, gdp, litL, i2l, addL, mulL, divL, remL, cmLe, cmGt, cmGe, cmEq, eqL]
    · have c2 : 9999 < S 10 0 + n := by omega
      refine ⟨-1, IC, IM, JM, ?_, ?_, hV⟩
      · unfold fX6_day
        rw [show fX6_within (nI n) 1 60 = nI 1 from i6]
        simp (disch := (first | assumption | trivial | omega)) only [v_da6 h, c, lit, neg1, oI_s, addN, mulN, subN, clN, gdN, ltN, leN, eqN, nIo, oIn, oI_eq, divN, remN, giT, giF, lzE, prE, bdE, smL, smR, shlN, shrN, hasE, andN, orN, bit1, bit0, max7, min7, giTr, giFa, gdp, litL, i2l, addL, mulL, divL, remL, cmLe, cmGt, cmGe, cmEq, eqL]
      · unfold fX7_day
        rw [show fX7_isIn (nI n) 1 60 = nI 1 from i7]
        simp (disch := (first | assumption | trivial | omega)) only [v_da7 h, c2, lit, neg1, oI_s, addN, mulN, subN, clN, gdN, ltN, leN, eqN, nIo, oIn, oI_eq, divN, remN, giT, giF, lzE, prE, bdE, smL, smR, shlN, shrN, hasE, andN, orN, bit1, bit0, max7, min7, giTr, giFa, gdp, litL, i2l, addL, mulL, divL, remL, cmLe, cmGt, cmGe, cmEq, eqL]
  · have i6 : fX6_within a1 1 (nI 60) = nI 0 := i7
    refine ⟨-1, IC, IM, JM, ?_, ?_, hV⟩
    · unfold fX6_day
      rw [show fX6_within a1 1 60 = nI 0 from i6]
      simp (disch := (first | assumption | trivial | omega)) only [lit, neg1, oI_s, addN, mulN, subN, clN, gdN, ltN, leN, eqN, nIo, oIn, oI_eq, divN, remN, giT, giF, lzE, prE, bdE, smL, smR, shlN, shrN, hasE, andN, orN, bit1, bit0, max7, min7, giTr, giFa, gdp, litL, i2l, addL, mulL, divL, remL, cmLe, cmGt, cmGe, cmEq, eqL]
    · unfold fX7_day
      rw [show fX7_isIn a1 1 60 = nI 0 from i7]
      simp (disch := (first | assumption | trivial | omega)) only [lit, neg1, oI_s, addN, mulN, subN, clN, gdN, ltN, leN, eqN, nIo, oIn, oI_eq, divN, remN, giT, giF, lzE, prE, bdE, smL, smR, shlN, shrN, hasE, andN, orN, bit1, bit0, max7, min7, giTr, giFa, gdp, litL, i2l, addL, mulL, divL, remL, cmLe, cmGt, cmGe, cmEq, eqL]
