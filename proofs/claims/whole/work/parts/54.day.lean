-- 54: PURE PART: a day more, on either wall (out of wip/whole/pure by pure.py)
/-- the class's memory with wall w for the wall now (its lines as they are) -/
def fw (w : Nat) (IC : gI) : gI := fun o k => if o = 11 then (if k = 3 then IC 11 3 else IC w k) else if o = 12 then IC (w + 1) k else if o = 13 then IC (w + 2) k else IC o k
theorem fw_o {w o : Nat} {IC : gI} (h1 : o ≠ 11) (h2 : o ≠ 12) (h3 : o ≠ 13) : fw w IC o = IC o := by
  funext k
  unfold fw
  rw [if_neg h1, if_neg h2, if_neg h3]
theorem fw_11 {w k : Nat} {IC : gI} (h : k ≠ 3) : fw w IC 11 k = IC w k := by
  unfold fw
  rw [if_pos rfl, if_neg h]
theorem fw_3 {w : Nat} {IC : gI} : fw w IC 11 3 = IC 11 3 := rfl
theorem fw_12 {w k : Nat} {IC : gI} : fw w IC 12 k = IC (w + 1) k := rfl
theorem fw_13 {w k : Nat} {IC : gI} : fw w IC 13 k = IC (w + 2) k := rfl
theorem fw_eq {IC : gI} : fw 11 IC = IC := by
  funext o k
  unfold fw
  by_cases h1 : o = 11
  · subst h1
    rw [if_pos rfl]
    by_cases h : k = 3
    · rw [if_pos h, h]
    · rw [if_neg h]
  · rw [if_neg h1]
    by_cases h2 : o = 12
    · subst h2; rfl
    · rw [if_neg h2]
      by_cases h3 : o = 13
      · subst h3; rfl
      · rw [if_neg h3]
/-- both sides' laws of earning, alike -/
def EARN : Prop := ∀ S w IC IM b, (w = 11 ∨ w = 289) → sv S (fw w IC) IM → txs IC IM (S 0 1) → b < S 0 0 → ∃ k, k ≤ 18 ∧ (∃ I', fX6_earns w (nI b) IC = some (nI k - nI 9, I') ∧ fC IC I') ∧ ∀ JM, ∃ I' J', fX7_earnsOf (nI b) IM JM = some (nI k - nI 9, I', J') ∧ fM IM I'
theorem neg9 : ∀ q, q < 9 → (nI q - nI 9 : Int32) < nI 0 ∧ ¬ (lN 0 ≤ (nI q - nI 9 : Int32).toInt64) := by decide
theorem sum9 {p k : Nat} : nI p + (nI k - nI 9) = nI (p + k) - nI 9 := by
  rw [← addN, Int32.sub_eq_add_neg, Int32.sub_eq_add_neg, Int32.add_assoc]
def pk9 (p k : Nat) : Nat := if p + k < 9 then 0 else min (p + k - 9) 999
theorem pk9_lt (p k : Nat) : pk9 p k < 1000 := by
  unfold pk9
  by_cases c : p + k < 9
  · rw [if_pos c]; decide
  · rw [if_neg c]; omega
theorem held9_6 {p k : Nat} (hp : p < 1000) (hk : k ≤ 18) : fX6_held (nI p + (nI k - nI 9)) (nI 0) (nI 999) = nI (pk9 p k) := by
  rw [sum9]
  unfold pk9 fX6_held
  by_cases c : p + k < 9
  · rw [if_pos c, gi_neg]
    intro q
    exact Int32.not_le.mpr (neg9 _ c).1 q
  · rw [if_neg c, subN (by omega)]
    by_cases c2 : p + k - 9 ≤ 999
    · rw [Nat.min_eq_left c2]
      simp (disch := (first | assumption | trivial | omega)) only [lit, neg1, oI_s, addN, mulN, subN, clN, gdN, ltN, leN, eqN, nIo, oIn, oI_eq, divN, remN, giT, giF, lzE, prE, bdE, smL, smR, shlN, shrN, hasE, andN, orN, bit1, bit0, max7, min7, giTr, giFa, gdp, litL, i2l, addL, mulL, divL, remL, cmLe, cmGt, cmGe, cmEq, eqL]
    · rw [Nat.min_eq_right (by omega)]
      simp (disch := (first | assumption | trivial | omega)) only [lit, neg1, oI_s, addN, mulN, subN, clN, gdN, ltN, leN, eqN, nIo, oIn, oI_eq, divN, remN, giT, giF, lzE, prE, bdE, smL, smR, shlN, shrN, hasE, andN, orN, bit1, bit0, max7, min7, giTr, giFa, gdp, litL, i2l, addL, mulL, divL, remL, cmLe, cmGt, cmGe, cmEq, eqL]
theorem held9_7 {p k : Nat} (hp : p < 1000) (hk : k ≤ 18) : fX7_held (nI p + (nI k - nI 9)).toInt64 (nI 0) (nI 999) = nI (pk9 p k) := by
  rw [sum9]
  unfold pk9
  by_cases c : p + k < 9
  · rw [if_pos c]
    unfold fX7_held
    rw [gi_neg]
    intro q
    exact (neg9 _ c).2 ((lg_cmp_ge _ _).mp q)
  · rw [if_neg c, subN (by omega), held7 (by omega) (by omega)]
theorem wv_pu {S : Nat → Nat → Nat} {pu pu' : Nat → Nat} {F F' M M' : gI} (h : wv (ub S 13 pu) 11 F M) (h1 : F' 11 = F 11) (h2 : F' 13 = F 13) (h3 : F' 14 = F 14) (hM : ∀ k, k < 23 ∨ 29 ≤ k → M' 1 k = M 1 k) (hp : ∀ b, b < 6 → pu' b < 1000 ∧ M' 1 (23 + b) = nI (pu' b) ∧ F' 12 b = nI (pu' b)) : wv (ub S 13 pu') 11 F' M' := by
  obtain ⟨a1, a2, a3, a4, a5, a6⟩ := h
  refine ⟨a1, ?_, fun s hs => ?_, fun b hb => ?_, hp, fun i hi => ?_⟩
  · rw [h1, hM 6 (by omega), hM 7 (by omega), hM 8 (by omega), hM 9 (by omega), hM 10 (by omega)]; exact a2
  · rw [hM _ (by omega)]; exact a3 s hs
  · rw [h2]; exact a4 b hb
  · rw [h3, hM _ (by omega)]; exact a6 i hi
/-- what the earning leaves -/
theorem earns_lp (hE : EARN) {S : Nat → Nat → Nat} {w : Nat} {IC IM : gI} (JM : gJ) (hw : w = 11 ∨ w = 289) (g : sv S (fw w IC) IM) (ht : txs IC IM (S 0 1)) : ∃ IC' IM' JM' pu, fX6_dawnComes_2 w FU 0 IC = some IC' ∧ fX7_passDay_2 FU 0 IM JM = some (IM', JM') ∧ (∀ b, b < 6 → pu b < 1000) ∧ sv (ub S 13 pu) (fw w IC') IM' ∧ (∀ o, o ≠ w + 1 → o ≠ 288 → IC' o = IC o) ∧ (∀ o, o ≠ 1 → o ≠ 6 → o ≠ 8 → IM' o = IM o) ∧ ∀ k, k < 23 ∨ 29 ≤ k → IM' 1 k = IM 1 k := by
  have bn : S 0 0 ≤ 6 := (b_nb g).1
  obtain ⟨r6, r7, e6, e7, pu, h1, h2, h3, h4, h5⟩ := lp_2 (fun n k (a : gI × gI × gJ) => fX6_dawnComes_2 w n (nI k) a.1) (fun n k (a : gI × gI × gJ) => fX7_passDay_2 n (nI k) a.2.1 a.2.2) (S 0 0)
    (fun k a => ∃ pu, (∀ b, b < 6 → pu b < 1000) ∧ sv (ub S 13 pu) (fw w a.1) a.2.1 ∧ (∀ o, o ≠ w + 1 → o ≠ 288 → a.1 o = IC o) ∧ (∀ o, o ≠ 1 → o ≠ 6 → o ≠ 8 → a.2.1 o = IM o) ∧ ∀ k, k < 23 ∨ 29 ≤ k → a.2.1 1 k = IM 1 k)
    (fun r6 r7 => ∃ pu, (∀ b, b < 6 → pu b < 1000) ∧ sv (ub S 13 pu) (fw w r6) r7.1 ∧ (∀ o, o ≠ w + 1 → o ≠ 288 → r6 o = IC o) ∧ (∀ o, o ≠ 1 → o ≠ 6 → o ≠ 8 → r7.1 o = IM o) ∧ ∀ k, k < 23 ∨ 29 ≤ k → r7.1 1 k = IM 1 k)
    (fun n a hP => by
      try dsimp only at hP ⊢
      refine ⟨a.1, (a.2.1, a.2.2), ?_, ?_, hP⟩
      · obtain ⟨pu, _, q, _⟩ := hP
        have e' := v_nb6 q
        have e : a.1 1 12 = nI (S 0 0) := e'
        rw [sX6_dawnComes_2, fX6_dawnComes_2b]
        simp (disch := (first | assumption | trivial | omega)) only [e, lit, neg1, oI_s, addN, mulN, subN, clN, gdN, ltN, leN, eqN, nIo, oIn, oI_eq, divN, remN, giT, giF, lzE, prE, bdE, smL, smR, shlN, shrN, hasE, andN, orN, bit1, bit0, max7, min7, giTr, giFa, gdp, litL, i2l, addL, mulL, divL, remL, cmLe, cmGt, cmGe, cmEq, eqL]
      · obtain ⟨pu, _, q, _⟩ := hP
        have e' := v_nb7 q
        have e : a.2.1 1 0 = nI (S 0 0) := e'
        rw [sX7_passDay_2, fX7_passDay_2b]
        simp (disch := (first | assumption | trivial | omega)) only [e, lit, neg1, oI_s, addN, mulN, subN, clN, gdN, ltN, leN, eqN, nIo, oIn, oI_eq, divN, remN, giT, giF, lzE, prE, bdE, smL, smR, shlN, shrN, hasE, andN, orN, bit1, bit0, max7, min7, giTr, giFa, gdp, litL, i2l, addL, mulL, divL, remL, cmLe, cmGt, cmGe, cmEq, eqL])
    (fun n b a hb hP => by
      try dsimp only at hP ⊢
      right
      obtain ⟨C, M, J⟩ := a
      obtain ⟨pu, q1, q2, q3, q4, q5⟩ := hP
      try dsimp only at q2 q3 q4 q5 ⊢
      have e6' := v_nb6 q2
      have e6 : C 1 12 = nI (S 0 0) := e6'
      have e7' := v_nb7 q2
      have e7 : M 1 0 = nI (S 0 0) := e7'
      have hb6 : b < 6 := by omega
      have p6' := v_pu6 q2 hb6
      have p6 : C (w + 1) b = nI (pu b) := p6'
      have p7' := v_pu7 q2 hb6
      have p7 : M 1 (23 + b) = nI (pu b) := p7'
      obtain ⟨k, hk, ⟨C1, x6, f6⟩, x7⟩ := hE (ub S 13 pu) w C M b hw q2 (fun t h => by
        have := ht t h
        exact rText_congr this (fun k _ => q3 _ (by omega) (by omega)) (fun k _ => by rw [q4 3 (by omega) (by omega) (by omega)])) hb
      obtain ⟨M1, J1, x7, f7⟩ := x7 J
      have y6 := held9_6 (q1 b hb6) hk
      have y7 := held9_7 (q1 b hb6) hk
      refine ⟨(wI C1 (w + 1) b (nI (pk9 (pu b) k)), wI M1 1 (23 + b) (nI (pk9 (pu b) k)), J1), ?_⟩
      try dsimp only
      refine ⟨?_, ?_, fun j => if j = b then pk9 (pu b) k else pu j, fun j hj => ?_, ⟨?_, ?_⟩, fun o h1 h2 => ?_, fun o h1 h2 h3 => ?_, fun j hj => ?_⟩
      · rw [sX6_dawnComes_2, fX6_dawnComes_2b]
        simp (disch := (first | assumption | trivial | omega)) only [e6, leN, giF, clN, gdN, x6, bdE, prE, p6, lzE, addN, lit, y6]
      · rw [sX7_passDay_2, fX7_passDay_2b]
        simp (disch := (first | assumption | trivial | omega)) only [e7, leN, giF, clN, gdN, x7, bdE, prE, p7, lzE, addN, lit, y7]
      · try dsimp only
        by_cases e : j = b
        · rw [if_pos e]; exact pk9_lt _ _
        · rw [if_neg e]; exact q1 j hj
      · refine pv_eq (S := S) (IC := fw w C) (IM := M) q2.1 (fun o ho => ?_) (fun k hk => ?_)
        · rw [fw_o (by omega) (by omega) (by omega), fw_o (by omega) (by omega) (by omega), wI_o (by omega), f6 o (by omega)]
        · rw [wI_ne (by omega), f7 1 (by omega) (by omega)]
      · refine wv_pu q2.2 ?_ ?_ ?_ (fun k hk => ?_) (fun d hd => ?_)
        · funext k
          by_cases e : k = 3
          · subst e; rw [fw_3, fw_3, wI_o (by omega), f6 11 (by omega)]
          · rw [fw_11 e, fw_11 e, wI_o (by omega), f6 w (by omega)]
        · funext k
          rw [fw_13, fw_13, wI_o (by omega), f6 _ (by omega)]
        · rw [fw_o (by omega) (by omega) (by omega), fw_o (by omega) (by omega) (by omega), wI_o (by omega), f6 _ (by omega)]
        · rw [wI_ne (by omega), f7 1 (by omega) (by omega)]
        · rw [fw_12]
          by_cases e : d = b
          · subst e
            rw [if_pos rfl, wI_eq, wI_eq]
            exact ⟨pk9_lt _ _, rfl, rfl⟩
          · rw [if_neg e, wI_ne (by omega), wI_ne (by omega), f6 _ (by omega), f7 1 (by omega) (by omega)]
            exact ⟨q1 d hd, v_pu7 q2 hd, v_pu6 q2 hd⟩
      · rw [wI_o h1, f6 o h2, q3 o h1 h2]
      · rw [wI_o h1, f7 o h2 h3, q4 o h1 h2 h3]
      · rw [wI_ne (by omega), f7 1 (by omega) (by omega), q5 j hj]) (S 0 0) 0 (IC, IM, JM) FU (by omega) ⟨S 13, fun b hb => b_pu g hb, ⟨g.1, wv_pu (pu := S 13) ⟨g.2.1, g.2.2.1, g.2.2.2.1, g.2.2.2.2.1, g.2.2.2.2.2.1, g.2.2.2.2.2.2⟩ rfl rfl rfl (fun _ _ => rfl) g.2.2.2.2.2.1⟩, fun _ _ _ => rfl, fun _ _ _ _ => rfl, fun _ _ => rfl⟩ (by show _ < 5000; omega)
  try dsimp only at e6 e7
  exact ⟨r6, r7.1, r7.2, pu, e6, e7, h1, h2, h3, h4, h5⟩
/-- odds ahead of a sort -/
def ps (S : Nat → Nat → Nat) : Nat → Nat
  | 0 => 0
  | k + 1 => ps S k + S 1 k
theorem ps5 (S : Nat → Nat → Nat) : ps S 5 = oa S := by
  unfold oa
  simp only [ps]
  omega
theorem oa6w {S : Nat → Nat → Nat} {IC : gI} (ho : ∀ s, s < 5 → S 1 s < 10 ∧ IC 2 s = nI (S 1 s)) : fX6_oddsTogether IC = some (nI (oa S)) := by
  have R := lp_gen (fun n k (a : Nat) => fX6_oddsTogether_4 n (nI a) (nI k) IC) 5 (fun k a => a + S 1 k) nI (fun k a => a = ps S k ∧ a ≤ 10 * k)
    (fun n a _ => by
      try dsimp only
      rw [sX6_oddsTogether_4, fX6_oddsTogether_4b]
      simp (disch := (first | assumption | trivial | omega)) only [lit, neg1, oI_s, addN, mulN, subN, clN, gdN, ltN, leN, eqN, nIo, oIn, oI_eq, divN, remN, giT, giF, lzE, prE, bdE, smL, smR, shlN, shrN, hasE, andN, orN, bit1, bit0, max7, min7, giTr, giFa, gdp, litL, i2l, addL, mulL, divL, remL, cmLe, cmGt, cmGe, cmEq, eqL])
    (fun n k a hk hP => by
      try dsimp only at hP ⊢
      have := (ho k hk).1
      refine ⟨?_, ?_, by omega⟩
      · have e := (ho k hk).2
        rw [sX6_oddsTogether_4, fX6_oddsTogether_4b]
        simp (disch := (first | assumption | trivial | omega)) only [e, lit, neg1, oI_s, addN, mulN, subN, clN, gdN, ltN, leN, eqN, nIo, oIn, oI_eq, divN, remN, giT, giF, lzE, prE, bdE, smL, smR, shlN, shrN, hasE, andN, orN, bit1, bit0, max7, min7, giTr, giFa, gdp, litL, i2l, addL, mulL, divL, remL, cmLe, cmGt, cmGe, cmEq, eqL]
      · rw [hP.1]; rfl) 5 0 0 FU rfl ⟨rfl, by omega⟩ (by show _ < 5000; omega)
  obtain ⟨e, p, _⟩ := R
  try dsimp only at e
  rw [p, ps5] at e
  unfold fX6_oddsTogether
  rw [show (0 : Int32) = nI 0 from rfl, e]
  rfl
theorem draw {S : Nat → Nat → Nat} {w : Nat} {IC IM : gI} (hw : w = 11 ∨ w = 289) (ho : ∀ s, s < 5 → S 1 s < 10 ∧ IC 2 s = nI (S 1 s) ∧ IM 1 (29 + s) = nI (S 1 s)) (o7 : fX7_allOdds IM = some (nI (oa S))) (hoa : oa S < 46) {x0 : Nat} (hx : x0 < 31039) (h6 : IC w 8 = nI x0) (h7 : IM 1 7 = nI x0) : ∃ s x IC' IM', s < 5 ∧ x < 31039 ∧ fX6_drawSort w IC = some IC' ∧ fX7_nextSort IM = some (nI s, IM') ∧ IC' w 5 = nI s ∧ IC' w 8 = nI x ∧ (∀ o, o ≠ w → IC' o = IC o) ∧ (∀ k, k ≠ 5 → k ≠ 8 → IC' w k = IC w k) ∧ (∀ o, o ≠ 1 → IM' o = IM o) ∧ (∀ k, k ≠ 7 → IM' 1 k = IM 1 k) ∧ IM' 1 7 = nI x := by
  have o6 := oa6w (S := S) (IC := IC) (fun s hs => ⟨(ho s hs).1, (ho s hs).2.1⟩)
  by_cases c : oa S = 0
  · refine ⟨0, x0, wI IC w 5 (nI 0), IM, by omega, hx, ?_, ?_, wI_eq, ?_, fun o h => wI_o h, fun k h1 h2 => wI_ne (by omega), fun _ _ => rfl, fun _ _ => rfl, h7⟩
    · unfold fX6_drawSort
      rw [o6, c]
      simp (disch := (first | assumption | trivial | omega)) only [lit, neg1, oI_s, addN, mulN, subN, clN, gdN, ltN, leN, eqN, nIo, oIn, oI_eq, divN, remN, giT, giF, lzE, prE, bdE, smL, smR, shlN, shrN, hasE, andN, orN, bit1, bit0, max7, min7, giTr, giFa, gdp, litL, i2l, addL, mulL, divL, remL, cmLe, cmGt, cmGe, cmEq, eqL]
    · unfold fX7_nextSort
      rw [o7, c]
      simp (disch := (first | assumption | trivial | omega)) only [lit, neg1, oI_s, addN, mulN, subN, clN, gdN, ltN, leN, eqN, nIo, oIn, oI_eq, divN, remN, giT, giF, lzE, prE, bdE, smL, smR, shlN, shrN, hasE, andN, orN, bit1, bit0, max7, min7, giTr, giFa, gdp, litL, i2l, addL, mulL, divL, remL, cmLe, cmGt, cmGe, cmEq, eqL]
    · rw [wI_ne (by omega)]; exact h6
  · have hd : x0 % oa S < oa S := Nat.mod_lt _ (by omega)
    have hx1 : (x0 * 719 + 587) % 31039 < 31039 := Nat.mod_lt _ (by omega)
    obtain ⟨I11, hI⟩ : ∃ I11, I11 = wI (wI IC w 5 (nI 0)) w 8 (nI ((x0 * 719 + 587) % 31039)) := ⟨_, rfl⟩
    obtain ⟨M9, hM⟩ : ∃ M9, M9 = wI IM 1 7 (nI ((x0 * 719 + 587) % 31039)) := ⟨_, rfl⟩
    have hI2 : ∀ s, s < 5 → I11 2 s = nI (S 1 s) := fun s hs => by
      rw [hI, wI_o (by omega), wI_o (by omega)]; exact (ho s hs).2.1
    have hM2 : ∀ s, s < 5 → M9 1 (29 + s) = nI (S 1 s) := fun s hs => by
      rw [hM, wI_ne (by omega)]; exact (ho s hs).2.2
    obtain ⟨r6, r7, e6, e7, s, hs, x6, x7⟩ := lp_2 (fun n k (a : Nat) => fX6_drawSort_39 w n (nI (x0 % oa S)) (nI a) (nI k) I11) (fun n k (a : Nat) => fX7_nextSort_28 n (nI (x0 % oa S)) (nI k) (nI (a + S 1 k)) M9) 5 (fun k a => a = ps S k ∧ a ≤ 10 * k ∧ a ≤ x0 % oa S) (fun r6 r7 => ∃ s, s < 5 ∧ r6 = Sum.inl (nI s) ∧ r7 = nI s)
      (fun n a hP => by
        exfalso
        rw [ps5] at hP
        omega)
      (fun n k a hk hP => by
        try dsimp only at hP ⊢
        obtain ⟨p1, p2, p3⟩ := hP
        have hk10 := (ho k hk).1
        have e2 := hI2 k hk
        by_cases cc : a + S 1 k ≤ x0 % oa S
        · right
          have hk4 : k < 4 := by
            apply Decidable.byContradiction
            intro q
            have : k = 4 := by omega
            subst this
            have : a + S 1 4 = oa S := by
              rw [p1, ← ps5]; rfl
            omega
          have e3 := hM2 (k + 1) (by omega)
          have cc2 : ¬ x0 % oa S < a + S 1 k := by omega
          have hk11 := (ho (k + 1) (by omega)).1
          refine ⟨a + S 1 k, ?_, ?_, ?_, by omega, cc⟩
          · rw [sX6_drawSort_39, fX6_drawSort_39b]
            simp (disch := (first | assumption | trivial | omega)) only [e2, cc, lit, neg1, oI_s, addN, mulN, subN, clN, gdN, ltN, leN, eqN, nIo, oIn, oI_eq, divN, remN, giT, giF, lzE, prE, bdE, smL, smR, shlN, shrN, hasE, andN, orN, bit1, bit0, max7, min7, giTr, giFa, gdp, litL, i2l, addL, mulL, divL, remL, cmLe, cmGt, cmGe, cmEq, eqL]
          · rw [sX7_nextSort_28, fX7_nextSort_28b]
            simp (disch := (first | assumption | trivial | omega)) only [e3, cc2, lit, neg1, oI_s, addN, mulN, subN, clN, gdN, ltN, leN, eqN, nIo, oIn, oI_eq, divN, remN, giT, giF, lzE, prE, bdE, smL, smR, shlN, shrN, hasE, andN, orN, bit1, bit0, max7, min7, giTr, giFa, gdp, litL, i2l, addL, mulL, divL, remL, cmLe, cmGt, cmGe, cmEq, eqL]
          · rw [p1]; rfl
        · left
          have cc2 : x0 % oa S < a + S 1 k := by omega
          refine ⟨_, _, ?_, ?_, k, hk, rfl, rfl⟩
          · rw [sX6_drawSort_39, fX6_drawSort_39b]
            simp (disch := (first | assumption | trivial | omega)) only [e2, cc, lit, neg1, oI_s, addN, mulN, subN, clN, gdN, ltN, leN, eqN, nIo, oIn, oI_eq, divN, remN, giT, giF, lzE, prE, bdE, smL, smR, shlN, shrN, hasE, andN, orN, bit1, bit0, max7, min7, giTr, giFa, gdp, litL, i2l, addL, mulL, divL, remL, cmLe, cmGt, cmGe, cmEq, eqL]
          · rw [sX7_nextSort_28, fX7_nextSort_28b]
            simp (disch := (first | assumption | trivial | omega)) only [cc2, lit, neg1, oI_s, addN, mulN, subN, clN, gdN, ltN, leN, eqN, nIo, oIn, oI_eq, divN, remN, giT, giF, lzE, prE, bdE, smL, smR, shlN, shrN, hasE, andN, orN, bit1, bit0, max7, min7, giTr, giFa, gdp, litL, i2l, addL, mulL, divL, remL, cmLe, cmGt, cmGe, cmEq, eqL]) 5 0 0 FU rfl ⟨rfl, by omega, by omega⟩ (by show _ < 5000; omega)
    try dsimp only at e6 e7
    subst x6 x7
    have e29 := hM2 0 (by omega)
    refine ⟨s, (x0 * 719 + 587) % 31039, wI I11 w 5 (nI s), M9, hs, hx1, ?_, ?_, wI_eq, ?_, fun o h => ?_, fun k h1 h2 => ?_, fun o h => ?_, fun k h => ?_, ?_⟩
    · unfold fX6_drawSort fX6_drawnAnew
      rw [o6]
      rw [hI] at e6
      simp (disch := (first | assumption | trivial | omega)) only [wI_ne, h6, e6, lit, neg1, oI_s, addN, mulN, subN, clN, gdN, ltN, leN, eqN, nIo, oIn, oI_eq, divN, remN, giT, giF, lzE, prE, bdE, smL, smR, shlN, shrN, hasE, andN, orN, bit1, bit0, max7, min7, giTr, giFa, gdp, litL, i2l, addL, mulL, divL, remL, cmLe, cmGt, cmGe, cmEq, eqL]
      rw [hI]
    · unfold fX7_nextSort
      rw [o7]
      have hd7 : fX7_drawnBy (nI (oa S)) IM = some (nI (x0 % oa S), M9) := by
        unfold fX7_drawnBy fX7_anew
        rw [hM]
        simp (disch := (first | assumption | trivial | omega)) only [h7, l2i, lit, neg1, oI_s, addN, mulN, subN, clN, gdN, ltN, leN, eqN, nIo, oIn, oI_eq, divN, remN, giT, giF, lzE, prE, bdE, smL, smR, shlN, shrN, hasE, andN, orN, bit1, bit0, max7, min7, giTr, giFa, gdp, litL, i2l, addL, mulL, divL, remL, cmLe, cmGt, cmGe, cmEq, eqL]
      rw [Nat.zero_add] at e7
      simp (disch := (first | assumption | trivial | omega)) only [hd7, e29, e7, lit, neg1, oI_s, addN, mulN, subN, clN, gdN, ltN, leN, eqN, nIo, oIn, oI_eq, divN, remN, giT, giF, lzE, prE, bdE, smL, smR, shlN, shrN, hasE, andN, orN, bit1, bit0, max7, min7, giTr, giFa, gdp, litL, i2l, addL, mulL, divL, remL, cmLe, cmGt, cmGe, cmEq, eqL]
    · rw [wI_ne (by omega), hI, wI_eq]
    · rw [wI_o h, hI, wI_o h, wI_o h]
    · rw [wI_ne (by omega), hI, wI_ne (by omega), wI_ne (by omega)]
    · rw [hM, wI_o h]
    · rw [hM, wI_ne (by omega)]
    · rw [hM, wI_eq]
