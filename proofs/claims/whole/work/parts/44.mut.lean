-- 44: PURE PART: steps and the book (out of wip/whole/pure by pure.py)
/-- cells taken over, one by one -/
theorem lp_cp (L : Nat → Nat → gI → Option gI) (c N d s : Nat) (I0 : gI) (i0 : Nat) (hd : d ≤ s ∨ s + N ≤ d) (h0 : ∀ n a, L (n + 1) N a = some a) (h1 : ∀ n k a, i0 ≤ k → k < N → L (n + 1) k a = L n (k + 1) (wI a c (d + k) (a c (s + k)))) (hi : i0 ≤ N) (hN : N < 4000) : ∃ I', L FU i0 I0 = some I' ∧ (∀ o, o ≠ c → I' o = I0 o) ∧ (∀ j, i0 ≤ j → j < N → I' c (d + j) = I0 c (s + j)) ∧ ∀ j, j < d + i0 ∨ d + N ≤ j → I' c j = I0 c j := by
  have hFU : N - i0 < FU := by show _ < 5000; omega
  generalize FU = n at hFU ⊢
  have : ∀ m k a n, k + m = N → i0 ≤ k → m < n → (∀ o, o ≠ c → a o = I0 o) → (∀ j, i0 ≤ j → j < k → a c (d + j) = I0 c (s + j)) → (∀ j, j < d + i0 ∨ d + k ≤ j → a c j = I0 c j) → ∃ I', L n k a = some I' ∧ (∀ o, o ≠ c → I' o = I0 o) ∧ (∀ j, i0 ≤ j → j < N → I' c (d + j) = I0 c (s + j)) ∧ ∀ j, j < d + i0 ∨ d + N ≤ j → I' c j = I0 c j := by
    intro m
    induction m with
    | zero =>
      intro k a n hk hi0 hn q1 q2 q3
      obtain ⟨n, rfl⟩ : ∃ m, n = m + 1 := ⟨n - 1, by omega⟩
      have : k = N := by omega
      subst this
      exact ⟨a, h0 n a, q1, q2, q3⟩
    | succ m ih =>
      intro k a n hk hi0 hn q1 q2 q3
      obtain ⟨n, rfl⟩ : ∃ m, n = m + 1 := ⟨n - 1, by omega⟩
      rw [h1 n k a hi0 (by omega)]
      refine ih (k + 1) _ n (by omega) (by omega) (by omega) (fun o ho => by rw [wI_o ho]; exact q1 o ho) (fun j hj1 hj2 => ?_) (fun j hj => ?_)
      · by_cases e : j = k
        · subst e
          rw [wI_eq]
          exact q3 _ (by omega)
        · rw [wI_ne (by omega)]
          exact q2 j hj1 (by omega)
      · rw [wI_ne (by omega)]
        exact q3 j (by omega)
  exact this (N - i0) i0 I0 n (by omega) (Nat.le_refl _) hFU (fun _ _ => rfl) (fun j h1 h2 => absurd h1 (by omega)) (fun _ _ => rfl)
theorem cp_o {I : gI} {src sp dst dp n o : Nat} (h : o ≠ dst) : cpI I src sp dst dp n o = I o := funext fun _ => if_neg h
theorem cp_in {I : gI} {src sp dst dp n k : Nat} (h1 : dp ≤ k) (h2 : k < dp + n) : cpI I src sp dst dp n dst k = I src (sp + (k - dp)) := by
  unfold cpI
  rw [if_pos rfl]
  unfold va_cpy
  simp only [h1, h2, and_self, if_true]
theorem cp_out {I : gI} {src sp dst dp n k : Nat} (h : k < dp ∨ dp + n ≤ k) : cpI I src sp dst dp n dst k = I dst k := by
  unfold cpI
  rw [if_pos rfl]
  unfold va_cpy
  rw [if_neg (by omega)]
/-- a wall is as another was -/
def wsm (IC' : gI) (w' : Nat) (IC : gI) (w : Nat) : Prop := (∀ k, 3 ≤ k → k < 9 → IC' w' k = IC w k) ∧ (∀ k, k < 6 → IC' (w' + 1) k = IC (w + 1) k) ∧ (∀ k, k < 6 → IC' (w' + 2) k = IC (w + 2) k) ∧ ∀ k, k < 25 → IC' (w' + 3) k = IC (w + 3) k
theorem be_ok (I : gI) {w v : Nat} (h : v + 3 < w ∨ w + 3 < v) : wsm (fX5_become w v I) w I v ∧ ∀ o, o < w ∨ w + 3 < o → fX5_become w v I o = I o := by
  unfold fX5_become wsm
  simp only [lzE]
  refine ⟨⟨fun k h1 h2 => ?_, fun k hk => ?_, fun k hk => ?_, fun k hk => ?_⟩, fun o ho => ?_⟩
  · have : k = 3 ∨ k = 4 ∨ k = 5 ∨ k = 6 ∨ k = 7 ∨ k = 8 := by omega
    rcases this with rfl | rfl | rfl | rfl | rfl | rfl <;> simp (disch := omega) only [wI_ne, wI_eq, wI_o, cp_o]
  · simp (disch := omega) only [wI_o, cp_o, cp_in]
    rw [show 0 + (k - 0) = k by omega]
  · simp (disch := omega) only [wI_o, cp_o, cp_in]
    rw [show 0 + (k - 0) = k by omega]
  · simp (disch := omega) only [wI_o, cp_o, cp_in]
    rw [show 0 + (k - 0) = k by omega]
  · simp (disch := omega) only [wI_o, cp_o]
theorem wsm_tr {I1 I2 I3 : gI} {u v w : Nat} (h : wsm I2 v I1 u) (g : wsm I3 w I2 v) : wsm I3 w I1 u :=
  ⟨fun k a b => (g.1 k a b).trans (h.1 k a b), fun k a => (g.2.1 k a).trans (h.2.1 k a), fun k a => (g.2.2.1 k a).trans (h.2.2.1 k a), fun k a => (g.2.2.2 k a).trans (h.2.2.2 k a)⟩
theorem wsm_of {I I' : gI} {w : Nat} (h : ∀ o, w ≤ o → o < w + 4 → I' o = I o) : wsm I' w I w :=
  ⟨fun k _ _ => by rw [h _ (by omega) (by omega)], fun k _ => by rw [h _ (by omega) (by omega)], fun k _ => by rw [h _ (by omega) (by omega)], fun k _ => by rw [h _ (by omega) (by omega)]⟩
theorem rWall_cp {IC IC' : gI} {w w' nb : Nat} {d d' bk bk' : Nat → Int32} (h : rWall IC w nb d bk) (hw : wsm IC' w' IC w) (hd : ∀ k, k < 23 → d' k = d k) (hb : ∀ k, k < 25 → bk' k = bk k) : rWall IC' w' nb d' bk' := by
  obtain ⟨⟨a0, a1, a2, a3, a4⟩, ⟨b0, b1, b2, b3, b4⟩, c, ⟨f, f1, f2, f3⟩, o, q, ln⟩ := h
  obtain ⟨h0, h1, h2, h3⟩ := hw
  refine ⟨⟨?_, ?_, ?_, ?_, ?_⟩, ⟨?_, ?_, ?_, ?_, ?_⟩, fun s hs => ?_, ⟨f, f1, by rw [h0 4 (by omega) (by omega)]; exact f2, fun s hs => by rw [hd _ (by omega)]; exact f3 s hs⟩, fun b hb2 => ?_, fun b hb2 => ?_, fun i n hn hi hn2 => ?_⟩
  · rw [hd _ (by omega)]; exact a0
  · rw [hd _ (by omega)]; exact a1
  · rw [hd _ (by omega)]; exact a2
  · rw [hd _ (by omega)]; exact a3
  · rw [hd _ (by omega)]; exact a4
  · rw [h0 _ (by omega) (by omega), hd _ (by omega)]; exact b0
  · rw [h0 _ (by omega) (by omega), hd _ (by omega)]; exact b1
  · rw [h0 _ (by omega) (by omega), hd _ (by omega)]; exact b2
  · rw [h0 _ (by omega) (by omega), hd _ (by omega)]; exact b3
  · rw [h0 _ (by omega) (by omega), hd _ (by omega)]; exact b4
  · rw [hd _ (by omega)]; exact c s hs
  · obtain ⟨o1, o2, o3, o4⟩ := o b hb2
    exact ⟨o1, o2, by rw [h2 b hb2]; exact o3, fun s hs => by rw [hd _ (by omega)]; exact o4 s hs⟩
  · rw [hd _ (by omega), h1 b hb2]; exact q b hb2
  · rw [hd _ (by omega)] at hn
    rw [h3 _ (by omega), hb _ (by omega)]
    exact ln i n hn hi hn2
/-- the class keeps a step -/
theorem rem6 {IC : gI} {e ns : Nat} (he : IC 1 18 = nI e) (hn : IC 1 19 = nI ns) (he' : e < 30) (hn' : ns ≤ 30) : ∃ IC' e' ns', fX6_remember IC = some IC' ∧ (∀ o, o ≠ 1 → o < 16 ∨ 137 ≤ o → IC' o = IC o) ∧ (∀ k, k ≠ 18 → k ≠ 19 → IC' 1 k = IC 1 k) ∧ e' < 30 ∧ IC' 1 18 = nI e' ∧ IC' 1 19 = nI ns' ∧ ((ns < 30 ∧ ns' = ns + 1 ∧ e' = e) ∨ (ns = 30 ∧ ns' = 30 ∧ e' = (e + 1) % 30)) ∧ IC' 16 ((e + ns) % 30) = IC 1 12 ∧ (∀ j, j ≠ (e + ns) % 30 → IC' 16 j = IC 16 j) ∧ wsm IC' (17 + 4 * ((e + ns) % 30)) IC 11 ∧ ∀ j, j < 30 → j ≠ (e + ns) % 30 → ∀ o, 17 + 4 * j ≤ o → o < 17 + 4 * j + 4 → IC' o = IC o := by
  have hm : (e + ns) % 30 < 30 := Nat.mod_lt _ (by omega)
  obtain ⟨b1, b2⟩ := be_ok IC (w := 17 + 4 * ((e + ns) % 30)) (v := 11) (by omega)
  generalize hu : (e + ns) % 30 = u at hm b1 b2 ⊢
  generalize hI : fX5_become (17 + 4 * u) 11 IC = I1 at b1 b2
  have e12 : I1 1 12 = IC 1 12 := by rw [b2 1 (by omega)]
  have e18 : I1 1 18 = nI e := by rw [b2 1 (by omega)]; exact he
  have e19 : I1 1 19 = nI ns := by rw [b2 1 (by omega)]; exact hn
  by_cases c : 30 ≤ ns
  · refine ⟨wI (wI I1 16 u (IC 1 12)) 1 18 (nI ((e + 1) % 30)), (e + 1) % 30, 30, ?_, fun o h1 h2 => ?_, fun k h1 h2 => ?_, Nat.mod_lt _ (by omega), wI_eq, ?_, Or.inr ⟨by omega, rfl, rfl⟩, ?_, fun j hj => ?_, ?_, fun j h1 h2 o h3 h4 => ?_⟩
    · unfold fX6_remember
      simp (disch := (first | assumption | trivial | omega)) only [he, hn, hu, hI, e12, e18, e19, wI_o, show 15 + 2 + 4 * u = 17 + 4 * u by omega, lit, neg1, oI_s, addN, mulN, subN, clN, gdN, ltN, leN, eqN, nIo, oIn, oI_eq, divN, remN, giT, giF, lzE, prE, bdE, smL, smR, shlN, shrN, hasE, andN, orN, bit1, bit0, max7, min7, giTr, giFa, gdp, litL, i2l, addL, mulL, divL, remL, cmLe, cmGt, cmGe, cmEq, eqL]
    · rw [wI_o h1, wI_o (by omega)]; exact b2 o (by omega)
    · rw [wI_ne (by omega), wI_o (by omega)]; rw [b2 1 (by omega)]
    · rw [wI_ne (by omega), wI_o (by omega), e19]; rw [show ns = 30 by omega]
    · rw [wI_o (by omega), wI_eq]
    · rw [wI_o (by omega), wI_ne (by omega), b2 _ (by omega)]
    · refine wsm_tr b1 (wsm_of fun o h1 h2 => ?_)
      rw [wI_o (by omega), wI_o (by omega)]
    · rw [wI_o (by omega), wI_o (by omega)]; exact b2 o (by omega)
  · refine ⟨wI (wI I1 16 u (IC 1 12)) 1 19 (nI (ns + 1)), e, ns + 1, ?_, fun o h1 h2 => ?_, fun k h1 h2 => ?_, he', ?_, wI_eq, Or.inl ⟨by omega, rfl, rfl⟩, ?_, fun j hj => ?_, ?_, fun j h1 h2 o h3 h4 => ?_⟩
    · unfold fX6_remember
      simp (disch := (first | assumption | trivial | omega)) only [he, hn, hu, hI, e12, e18, e19, wI_o, show 15 + 2 + 4 * u = 17 + 4 * u by omega, lit, neg1, oI_s, addN, mulN, subN, clN, gdN, ltN, leN, eqN, nIo, oIn, oI_eq, divN, remN, giT, giF, lzE, prE, bdE, smL, smR, shlN, shrN, hasE, andN, orN, bit1, bit0, max7, min7, giTr, giFa, gdp, litL, i2l, addL, mulL, divL, remL, cmLe, cmGt, cmGe, cmEq, eqL]
    · rw [wI_o h1, wI_o (by omega)]; exact b2 o (by omega)
    · rw [wI_ne (by omega), wI_o (by omega)]; rw [b2 1 (by omega)]
    · rw [wI_ne (by omega), wI_o (by omega), e18]
    · rw [wI_o (by omega), wI_eq]
    · rw [wI_o (by omega), wI_ne (by omega), b2 _ (by omega)]
    · refine wsm_tr b1 (wsm_of fun o h1 h2 => ?_)
      rw [wI_o (by omega), wI_o (by omega)]
    · rw [wI_o (by omega), wI_o (by omega)]; exact b2 o (by omega)
/-- the reference writes its step behind the others -/
theorem kp_row {IM : gI} {n : Nat} (hn : IM 1 3 = nI n) (hn' : n < 30) : ∃ I', (lz (nI 97 + (nI 49 * (IM 1 3))) (fun (u5 : Int32) => gd (vp_in u5 1592) (lz (wI IM 1 (u5).toNatClampNeg (IM 1 0)) (fun (I9 : gI) => bd (fX7_keepStep_82 FU u5 (nI 0) I9) (fun (I22 : gI) => bd (fX7_keepStep_115 FU u5 (nI 0) I22) (fun (I36 : gI) => lz (wI I36 1 3 ((I36 1 3) + nI 1)) (fun (I39 : gI) => some I39))))))) = some I' ∧ (∀ o, o ≠ 1 → I' o = IM o) ∧ (∀ k, k ≠ 3 → k < 97 + 49 * n ∨ 146 + 49 * n ≤ k → I' 1 k = IM 1 k) ∧ I' 1 3 = nI (n + 1) ∧ I' 1 (97 + 49 * n) = IM 1 0 ∧ (∀ k, k < 23 → I' 1 (98 + 49 * n + k) = IM 1 (6 + k)) ∧ ∀ k, k < 25 → I' 1 (121 + 49 * n + k) = IM 1 (1567 + k) := by
  obtain ⟨I1, a1, a2, a3, a4⟩ := lp_cp (fun m k a => fX7_keepStep_82 m (nI (97 + 49 * n)) (nI k) a) 1 23 (98 + 49 * n) 6 (wI IM 1 (97 + 49 * n) (IM 1 0)) 0 (by omega)
    (fun m a => by
      try dsimp only
      rw [sX7_keepStep_82, fX7_keepStep_82b]
      simp (disch := (first | assumption | trivial | omega)) only [lit, neg1, oI_s, addN, mulN, subN, clN, gdN, ltN, leN, eqN, nIo, oIn, oI_eq, divN, remN, giT, giF, lzE, prE, bdE, smL, smR, shlN, shrN, hasE, andN, orN, bit1, bit0, max7, min7, giTr, giFa, gdp, litL, i2l, addL, mulL, divL, remL, cmLe, cmGt, cmGe, cmEq, eqL])
    (fun m k a _ hk => by
      try dsimp only
      rw [sX7_keepStep_82, fX7_keepStep_82b]
      simp (disch := (first | assumption | trivial | omega)) only [show 97 + 49 * n + 1 + k = 98 + 49 * n + k by omega, lit, neg1, oI_s, addN, mulN, subN, clN, gdN, ltN, leN, eqN, nIo, oIn, oI_eq, divN, remN, giT, giF, lzE, prE, bdE, smL, smR, shlN, shrN, hasE, andN, orN, bit1, bit0, max7, min7, giTr, giFa, gdp, litL, i2l, addL, mulL, divL, remL, cmLe, cmGt, cmGe, cmEq, eqL]) (by omega) (by omega)
  obtain ⟨I2, b1, b2, b3, b4⟩ := lp_cp (fun m k a => fX7_keepStep_115 m (nI (97 + 49 * n)) (nI k) a) 1 25 (121 + 49 * n) 1567 I1 0 (by omega)
    (fun m a => by
      try dsimp only
      rw [sX7_keepStep_115, fX7_keepStep_115b]
      simp (disch := (first | assumption | trivial | omega)) only [lit, neg1, oI_s, addN, mulN, subN, clN, gdN, ltN, leN, eqN, nIo, oIn, oI_eq, divN, remN, giT, giF, lzE, prE, bdE, smL, smR, shlN, shrN, hasE, andN, orN, bit1, bit0, max7, min7, giTr, giFa, gdp, litL, i2l, addL, mulL, divL, remL, cmLe, cmGt, cmGe, cmEq, eqL])
    (fun m k a _ hk => by
      try dsimp only
      rw [sX7_keepStep_115, fX7_keepStep_115b]
      simp (disch := (first | assumption | trivial | omega)) only [show 97 + 49 * n + 1 + 23 + k = 121 + 49 * n + k by omega, lit, neg1, oI_s, addN, mulN, subN, clN, gdN, ltN, leN, eqN, nIo, oIn, oI_eq, divN, remN, giT, giF, lzE, prE, bdE, smL, smR, shlN, shrN, hasE, andN, orN, bit1, bit0, max7, min7, giTr, giFa, gdp, litL, i2l, addL, mulL, divL, remL, cmLe, cmGt, cmGe, cmEq, eqL]) (by omega) (by omega)
  try dsimp only at a1 b1
  have e3 : I2 1 3 = nI n := by
    rw [b4 3 (by omega), a4 3 (by omega), wI_ne (by omega)]; exact hn
  refine ⟨wI I2 1 3 (nI (n + 1)), ?_, fun o ho => ?_, fun k h1 h2 => ?_, wI_eq, ?_, fun k hk => ?_, fun k hk => ?_⟩
  · simp (disch := (first | assumption | trivial | omega)) only [hn, a1, b1, e3, lit, neg1, oI_s, addN, mulN, subN, clN, gdN, ltN, leN, eqN, nIo, oIn, oI_eq, divN, remN, giT, giF, lzE, prE, bdE, smL, smR, shlN, shrN, hasE, andN, orN, bit1, bit0, max7, min7, giTr, giFa, gdp, litL, i2l, addL, mulL, divL, remL, cmLe, cmGt, cmGe, cmEq, eqL]
  · rw [wI_o ho, b2 o ho, a2 o ho, wI_o ho]
  · rw [wI_ne (by omega), b4 k (by omega), a4 k (by omega), wI_ne (by omega)]
  · rw [wI_ne (by omega), b4 _ (by omega), a4 _ (by omega), wI_eq]
  · rw [wI_ne (by omega), b4 _ (by omega), a3 k (by omega) hk, wI_ne (by omega)]
  · rw [wI_ne (by omega), b3 k (by omega) hk, a4 _ (by omega), wI_ne (by omega)]
theorem kp7 {IM : gI} {ns : Nat} (hn : IM 1 3 = nI ns) (hn' : ns ≤ 30) : ∃ I' n δ, fX7_keepStep IM = some I' ∧ ((ns < 30 ∧ n = ns ∧ δ = 0) ∨ (ns = 30 ∧ n = 29 ∧ δ = 1)) ∧ (∀ o, o ≠ 1 → I' o = IM o) ∧ (∀ k, k ≠ 3 → k < 97 ∨ 1567 ≤ k → I' 1 k = IM 1 k) ∧ I' 1 3 = nI (n + 1) ∧ (∀ i k, i < n → k < 49 → I' 1 (97 + 49 * i + k) = IM 1 (97 + 49 * (i + δ) + k)) ∧ I' 1 (97 + 49 * n) = IM 1 0 ∧ (∀ k, k < 23 → I' 1 (98 + 49 * n + k) = IM 1 (6 + k)) ∧ ∀ k, k < 25 → I' 1 (121 + 49 * n + k) = IM 1 (1567 + k) := by
  by_cases c : ns = 30
  · subst c
    obtain ⟨I1, a1, a2, a3, a4⟩ := lp_cp (fun m k a => fX7_keepStep_13 m (nI k) a) 1 1421 97 146 IM 0 (by omega)
      (fun m a => by
        try dsimp only
        rw [sX7_keepStep_13, fX7_keepStep_13b]
        simp (disch := (first | assumption | trivial | omega)) only [lit, neg1, oI_s, addN, mulN, subN, clN, gdN, ltN, leN, eqN, nIo, oIn, oI_eq, divN, remN, giT, giF, lzE, prE, bdE, smL, smR, shlN, shrN, hasE, andN, orN, bit1, bit0, max7, min7, giTr, giFa, gdp, litL, i2l, addL, mulL, divL, remL, cmLe, cmGt, cmGe, cmEq, eqL])
      (fun m k a _ hk => by
        try dsimp only
        rw [sX7_keepStep_13, fX7_keepStep_13b]
        simp (disch := (first | assumption | trivial | omega)) only [lit, neg1, oI_s, addN, mulN, subN, clN, gdN, ltN, leN, eqN, nIo, oIn, oI_eq, divN, remN, giT, giF, lzE, prE, bdE, smL, smR, shlN, shrN, hasE, andN, orN, bit1, bit0, max7, min7, giTr, giFa, gdp, litL, i2l, addL, mulL, divL, remL, cmLe, cmGt, cmGe, cmEq, eqL]) (by omega) (by omega)
    try dsimp only at a1
    have e3 : I1 1 3 = nI 30 := by rw [a4 3 (by omega)]; exact hn
    obtain ⟨I2, b1, b2, b3, b4, b5, b6, b7⟩ := kp_row (IM := wI I1 1 3 (nI 29)) (n := 29) wI_eq (by omega)
    refine ⟨I2, 29, 1, ?_, Or.inr ⟨rfl, rfl, rfl⟩, fun o ho => ?_, fun k h1 h2 => ?_, b4, fun i k hi hk => ?_, ?_, fun k hk => ?_, fun k hk => ?_⟩
    · unfold fX7_keepStep
      rw [lzE, hn, gi_pos (show nI 30 = (30 : Int32) from rfl), show fX7_keepStep_13 FU 0 IM = some I1 from a1, bdE, lzE, e3]
      exact b1
    · rw [b2 o ho, wI_o ho, a2 o ho]
    · rw [b3 k h1 (by omega), wI_ne (by omega), a4 k (by omega)]
    · rw [b3 _ (by omega) (by omega), wI_ne (by omega), Nat.add_assoc, a3 _ (by omega) (by omega)]
      congr 1
      omega
    · rw [b5, wI_ne (by omega), a4 _ (by omega)]
    · rw [b6 k hk, wI_ne (by omega), a4 _ (by omega)]
    · rw [b7 k hk, wI_ne (by omega), a4 _ (by omega)]
  · obtain ⟨I2, b1, b2, b3, b4, b5, b6, b7⟩ := kp_row (IM := IM) (n := ns) hn (by omega)
    refine ⟨I2, ns, 0, ?_, Or.inl ⟨by omega, rfl, rfl⟩, b2, fun k h1 h2 => ?_, b4, fun i k hi hk => ?_, b5, b6, b7⟩
    · unfold fX7_keepStep
      rw [lzE, hn, gi_neg (c := nI ns = (30 : Int32)) (fun e => c ((nI_eq (by omega) (by omega)).mp (show nI ns = nI 30 from e)))]
      exact b1
    · exact b3 k h1 (by omega)
    · rw [b3 _ (by omega) (by omega), Nat.add_zero]
/-- a step is kept, in both -/
theorem keep {IC IM : gI} {JM : gJ} (hV : V0 IC IM JM) : ∃ IC' IM', fX6_remember IC = some IC' ∧ fX7_keepStep IM = some IM' ∧ V0 IC' IM' JM ∧ (∀ o, o ≠ 1 → o < 16 ∨ 137 ≤ o → IC' o = IC o) ∧ (∀ k, k ≠ 18 → k ≠ 19 → IC' 1 k = IC 1 k) ∧ (∀ o, o ≠ 1 → IM' o = IM o) ∧ ∀ k, k ≠ 3 → k < 97 ∨ 1567 ≤ k → IM' 1 k = IM 1 k := by
  obtain ⟨nb, nt, mb, mt, h1, ⟨p1, p2, p3, p4, p5, p6, p7, p8, p9⟩, h3, h4, h5⟩ := hV
  obtain ⟨ns, e, u1, u2, u3, u4, u5, u6⟩ := p8
  obtain ⟨IC', e', ns', a1, a2, a3, a4, a5, a6, a7, a8, a9, a10, a11⟩ := rem6 u5 u4 u2 u1
  obtain ⟨IM', n, δ, b1, b2, b3, b4, b5, b6, b7, b8, b9⟩ := kp7 u3 u1
  have hn1 : ns' = n + 1 := by omega
  subst hn1
  have hn2 : n < 30 := by omega
  have hrow : ∀ i, i < n → (e' + i) % 30 = (e + (i + δ)) % 30 ∧ (e' + i) % 30 ≠ (e + ns) % 30 ∧ i + δ < ns := by
    intro i hi
    rcases b2 with ⟨x1, x2, x3⟩ | ⟨x1, x2, x3⟩
    · rcases a7 with ⟨y1, y2, y3⟩ | ⟨y1, y2, y3⟩
      · subst y3 x3
        refine ⟨rfl, by omega, by omega⟩
      · omega
    · rcases a7 with ⟨y1, y2, y3⟩ | ⟨y1, y2, y3⟩
      · omega
      · subst y3 x3
        refine ⟨by omega, by omega, by omega⟩
  have hlast : (e' + n) % 30 = (e + ns) % 30 := by
    rcases a7 with ⟨y1, y2, y3⟩ | ⟨y1, y2, y3⟩ <;> omega
  have nb6 := p1.1
  refine ⟨IC', IM', a1, b1, ?_, a2, a3, b3, b4⟩
  have hC1 : ∀ k, k ≠ 18 → k ≠ 19 → IC' 1 k = IC 1 k := a3
  have hC : ∀ o, 2 ≤ o → o < 16 ∨ 137 ≤ o → IC' o = IC o := fun o h1 h2 => a2 o (by omega) h2
  have hM : ∀ k, k < 97 → k ≠ 3 → IM' 1 k = IM 1 k := fun k h1 h2 => b4 k h2 (by omega)
  refine ⟨nb, nt, mb, mt, h1, ⟨rHead_congr p1 ⟨hC1 _ (by omega) (by omega), hC1 _ (by omega) (by omega), hC1 _ (by omega) (by omega)⟩ (fun k hk => hM k (by omega) (by omega)), rPaid_congr p2 ⟨hC1 _ (by omega) (by omega), hC1 _ (by omega) (by omega)⟩ (hM 4 (by omega) (by omega)) (fun k _ _ => hM k (by omega) (by omega)), rSaid_congr p3 (hC1 _ (by omega) (by omega)) (hC _ (by omega) (by omega)) (hC _ (by omega) (by omega)) (hM 5 (by omega) (by omega)) (fun k _ _ => hM k (by omega) (by omega)), rOdds_congr p4 (hC _ (by omega) (by omega)) (hC _ (by omega) (by omega)) (fun k _ _ => hM k (by omega) (by omega)), rBuy_congr p5 (hC _ (by omega) (by omega)) (hC _ (by omega) (by omega)) (hC _ (by omega) (by omega)) (hC _ (by omega) (by omega)) (fun k _ _ => hM k (by omega) (by omega)), rVals_congr p6 (hC _ (by omega) (by omega)) (fun k _ _ => hM k (by omega) (by omega)), rWall_congr p7 (hC _ (by omega) (by omega)) (hC _ (by omega) (by omega)) (hC _ (by omega) (by omega)) (hC _ (by omega) (by omega)) (fun k _ => hM _ (by omega) (by omega)) (fun k _ => b4 _ (by omega) (by omega)), ?_, ?_⟩, rPort_congr h3 (fun o _ _ => hC o (by omega) (by omega)) (b3 2 (by omega)), rTape_congr h4 (a2 0 (by omega) (by omega)) (hC _ (by omega) (by omega)) (b3 4 (by omega)) ⟨by rw [b3 0 (by omega)], by rw [b3 0 (by omega)], by rw [b3 0 (by omega)], by rw [b3 0 (by omega)]⟩, fun t ht => rText_congr (h5 t ht) (fun k _ => hC _ (by omega) (by omega)) (fun k _ => by rw [b3 3 (by omega)])⟩
  · refine ⟨n + 1, e', by omega, a4, b5, a6, a5, fun i hi => ?_⟩
    by_cases c : i = n
    · subst c
      rw [hlast]
      refine ⟨nb, Nat.le_refl _, ?_, ?_, rWall_cp p7 a10 (fun k hk => b8 k hk) (fun k hk => b9 k hk)⟩
      · rw [b7]; exact p1.2.2.1
      · show IC' 16 _ = _
        rw [a8]; exact p1.2.2.2.1
    · obtain ⟨x1, x2, x3⟩ := hrow i (by omega)
      obtain ⟨m, m1, m2, m3, m4⟩ := u6 (i + δ) x3
      rw [x1]
      rw [x1] at x2
      have hm : (e + (i + δ)) % 30 < 30 := Nat.mod_lt _ (by omega)
      refine ⟨m, m1, ?_, ?_, rWall_cp m4 (wsm_of fun o h1 h2 => a11 _ hm x2 o h1 h2) (fun k hk => ?_) (fun k hk => ?_)⟩
      · have := b6 i 0 (by omega) (by omega)
        rw [Nat.add_zero, Nat.add_zero] at this
        rw [this]; exact m2
      · show IC' 16 _ = _
        rw [a9 _ x2]; exact m3
      · have := b6 i (1 + k) (by omega) (by omega)
        rw [show 97 + 49 * i + (1 + k) = 98 + 49 * i + k by omega, show 97 + 49 * (i + δ) + (1 + k) = 98 + 49 * (i + δ) + k by omega] at this
        exact this
      · have := b6 i (24 + k) (by omega) (by omega)
        rw [show 97 + 49 * i + (24 + k) = 121 + 49 * i + k by omega, show 97 + 49 * (i + δ) + (24 + k) = 121 + 49 * (i + δ) + k by omega] at this
        exact this
  · refine ⟨fun s b hs hb hq => ?_, fun N i s b hN hi hN2 hs hb hq => ?_⟩
    · rw [hM _ (by omega) (by omega)] at hq
      exact inH_congr (p9.1 s b hs hb hq) (hM _ (by omega) (by omega)) (hM _ (by omega) (by omega))
    · rw [b5] at hN
      have hN3 := (nI_eq (by omega) (by omega)).mp hN
      subst hN3
      by_cases c : i = n
      · subst c
        have := b8 (5 + s) (by omega)
        rw [show 98 + 49 * i + (5 + s) = 103 + 49 * i + s by omega, show 6 + (5 + s) = 11 + s by omega] at this
        rw [this] at hq
        exact inH_congr (p9.1 s b hs hb hq) (hM _ (by omega) (by omega)) (hM _ (by omega) (by omega))
      · obtain ⟨x1, x2, x3⟩ := hrow i (by omega)
        have := b6 i (6 + s) (by omega) (by omega)
        rw [show 97 + 49 * i + (6 + s) = 103 + 49 * i + s by omega, show 97 + 49 * (i + δ) + (6 + s) = 103 + 49 * (i + δ) + s by omega] at this
        rw [this] at hq
        exact inH_congr (p9.2 ns (i + δ) s b u3 x3 u1 hs hb hq) (hM _ (by omega) (by omega)) (hM _ (by omega) (by omega))
