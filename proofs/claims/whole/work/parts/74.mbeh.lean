-- 74: PURE PART: the reference's turns behind an operand (out of wip/whole/pure by pure.py)
theorem bw40 (o c : Nat) : bwI 40 o c = 0 := by
  unfold bwI cmI
  by_cases h : o = 42
  · by_cases d : c = 0
    · simp [h, d]
    · simp [h, d]
  · simp [h]
theorem pw40 (o c : Nat) : pwI 40 o c = 0 := by
  unfold pwI
  by_cases h1 : o = 41
  · simp [h1]
  · by_cases h2 : o = 42
    · simp [h2]
    · by_cases h3 : o = 43
      · simp [h3]
      · by_cases h4 : o = 44
        · simp [h4]
        · simp [h1, h2, h3, h4]
section MB
variable {tk tv tp ep : Nat → Nat} {B : gI} {t law i n ps x n2 ps2 x2 u : Nat} {pl pl2 : Nat → Nat} {M A : gI} {J : gJ}
theorem turn1 (h : PM tk tv tp ep B t law i n ps pl x 1 M J) (m : Nat) : fX7_summed_15 (m + 1) M J = bd (fX7_behindOne M J) (pr (fun (u19 : Int32) => pr (fun (I20 : gI) (J21 : gJ) => gi (u19 = 0) (some (Sum.inl (I20, J21))) (fX7_summed_15 m I20 J21)))) := by
  have w0 : M 0 18 = nI 1 := h.2.2.2.2.2.2.2.1
  rw [sX7_summed_15, fX7_summed_15b, w0, gi_neg (show ¬ nI 1 = (0 : Int32) from one_ne)]
theorem bh_on {M' : gI} {J' : gJ} (h : PM tk tv tp ep B t law i n ps pl x 1 M J) (e : fX7_behindOne M J = some (1, M', J')) (m : Nat) {Q : Int32 → gI → gJ → Prop} (q : wpF m M' J' Q) : wpF (m + 1) M J Q := by
  obtain ⟨u, Mf, Jf, ef, q⟩ := q
  refine ⟨u, Mf, Jf, ?_, q⟩
  unfold fnL
  rw [turn1 h, e, bdE, prE, prE, gi_neg one_ne]
  exact ef
/-- an operator is laid on the pile -/
theorem bh_op {K : Nat} (hN : NXT tk tv tp ep B K) (h : PM tk tv tp ep B t law i n ps pl x 1 M J) (hp : ps < 160) (hpl : ∀ j, j < ps → pl j < 100) (hu : bwI (tk i) (onw pl ps) (cpd pl ps) = u + 1) (hs : fX7_settle (nI (if rk u = 4 then 5 else rk u)) M = some A) (pA : PM tk tv tp ep B t law i n2 ps2 pl2 x2 1 A J) (hp2 : ps2 < 159) (hi : i < K) : ∃ M' J', PM tk tv tp ep B t law (i + 1) n2 (ps2 + 1) (pu1 pl2 ps2 u) x2 0 M' J' ∧ KM t n2 A M' ∧ ∀ m Q, wpF m M' J' Q → wpF (m + 1) M J Q := by
  have hk : ¬ tk i = 40 := fun z => by rw [z, bw40] at hu; omega
  have hle := bwI_le (tk i) (onw pl ps) (cpd pl ps)
  have hu100 : u < 100 := by omega
  obtain ⟨⟨h1, h2, h3⟩, ⟨h4, h5⟩, h6, h7, h8, h9, h10, h11, h12⟩ := pA
  obtain ⟨C, hC⟩ : ∃ C, C = wI (wI (wI A 5 ps2 (nI u)) 0 16 (nI (ps2 + 1))) 0 18 (nI 0) := ⟨_, rfl⟩
  have pC : PM tk tv tp ep B t law i n2 (ps2 + 1) (pu1 pl2 ps2 u) x2 0 C J := by
    rw [hC]
    refine ⟨?_, ?_, ?_, ?_, ?_, ?_, ?_, wI_eq, fun j hj => ?_⟩
    · simp (disch := omega) only [wI_ne, wI_o]; exact ⟨h1, h2, h3⟩
    · simp (disch := omega) only [wI_ne, wI_o]; exact ⟨h4, h5⟩
    · simp (disch := omega) only [wI_ne, wI_o]; exact h6
    · simp (disch := omega) only [wI_ne, wI_o]; exact h7
    · simp (disch := omega) only [wI_ne, wI_o]; exact h8
    · rw [wI_ne (by omega), wI_eq]
    · simp (disch := omega) only [wI_ne, wI_o]; exact h10
    · rw [wI_o (by omega), wI_o (by omega)]
      by_cases e : j = ps2
      · subst e; rw [wI_eq, pu1_e]
      · rw [wI_ne (by omega), pu1_n e]; exact h12 j (by omega)
  have kC : KM t n2 A C := by
    rw [hC]
    exact ⟨fun o a _ d => by rw [wI_o a, wI_o a, wI_o d], fun k hk => by rw [wI_ne (by omega), wI_ne (by omega), wI_o (by omega)], fun k _ => by rw [wI_o (by omega), wI_o (by omega), wI_o (by omega)]⟩
  obtain ⟨M', J', e, p', k'⟩ := nx7 hN pC hi hk
  refine ⟨M', J', p', KM_tr kC k' (Nat.le_refl _), fun m Q q => bh_on (M' := M') (J' := J') h ?_ m q⟩
  have e1 := btw7 h hp hpl
  rw [hu, oI_s] at e1
  have q7 := rank7 hu100
  have hrl := rk_le u
  have cont : bd (fX7_settle (nI (if rk u = 4 then 5 else rk u)) M) (fun (I48 : gI) => gd (vp_in (I48 0 16) 160) (lz (wI I48 5 (I48 0 16).toNatClampNeg (nI u)) (fun (I53 : gI) => lz (wI I53 0 16 ((I53 0 16) + 1)) (fun (I54 : gI) => lz (wI I54 0 18 0) (fun (I56 : gI) => bd (fX7_nextToken I56 J) (pr (fun (I58 : gI) (J59 : gJ) => some ((1 : Int32), I58, J59)))))))) = some (1, M', J') := by
    rw [hs, bdE]
    simp (disch := (first | assumption | trivial | omega)) only [h9, lit, gdN, clN, lzE, wI_o, addN]
    rw [← hC, e]
    rfl
  unfold fX7_behindOne
  rw [e1, bdE, gi_neg (show ¬ nI u < 0 from nI_pos (by omega)), lzE, q7]
  by_cases c4 : rk u = 4
  · rw [if_pos c4] at cont
    have c5 : nI (rk u) = 4 := by rw [c4]; rfl
    rw [gi_pos c5]
    exact cont
  · rw [if_neg c4] at cont
    have c5 : ¬ nI (rk u) = 4 := fun z => c4 ((nI_eq (by omega) (by omega)).mp (show nI (rk u) = nI 4 from z))
    rw [gi_neg c5]
    exact cont
/-- ) or end -/
theorem bh_close {K : Nat} (hN : NXT tk tv tp ep B K) (h : PM tk tv tp ep B t law i n ps pl x 1 M J) (hp : ps < 160) (hpl : ∀ j, j < ps → pl j < 100) (hb : bwI (tk i) (onw pl ps) (cpd pl ps) = 0) (hw : pwI (tk i) (onw pl ps) (cpd pl ps) = 1) (hs : fX7_settle (nI 1) M = some A) (pA : PM tk tv tp ep B t law i n2 (ps2 + 1) pl2 (x2 + 1) 1 A J) (ht : t < 4) (hn2 : n2 < 304) (hi : i < K) : ∃ M' J', PM tk tv tp ep B t law (i + 1) (if onw pl ps = 44 then n2 + 1 else n2) ps2 pl2 x2 1 M' J' ∧ KM t n2 A M' ∧ (onw pl ps = 44 → rC (M' 3) t n2 = nI 3) ∧ ∀ m Q, wp7 m M' J' Q → wpF (m + 1) M J Q := by
  have hk : ¬ tk i = 40 := fun z => by rw [z, pw40] at hw; omega
  have e1 := btw7 h hp hpl
  rw [hb] at e1
  have o1 := onw7 h hp hpl
  have p1 := prt7 h hp hpl
  rw [hw, oI_s] at p1
  obtain ⟨A1, J1, e, pA1, kA1⟩ := nx7 hN pA hi hk
  obtain ⟨⟨h1, h2, h3⟩, ⟨h4, h5⟩, h6, h7, h8, h9, h10, h11, h12⟩ := pA1
  obtain ⟨C, hC⟩ : ∃ C, C = wI (wI A1 0 17 (nI x2)) 0 16 (nI ps2) := ⟨_, rfl⟩
  have pC : PM tk tv tp ep B t law (i + 1) n2 ps2 pl2 x2 1 C J1 := by
    rw [hC]
    refine ⟨?_, ?_, ?_, ?_, ?_, wI_eq, ?_, ?_, fun j hj => ?_⟩
    · simp (disch := omega) only [wI_ne]; exact ⟨h1, h2, h3⟩
    · simp (disch := omega) only [wI_ne, wI_o]; exact ⟨h4, h5⟩
    · simp (disch := omega) only [wI_ne]; exact h6
    · simp (disch := omega) only [wI_ne]; exact h7
    · simp (disch := omega) only [wI_ne]; exact h8
    · rw [wI_ne (by omega), wI_eq]
    · simp (disch := omega) only [wI_ne]; exact h11
    · rw [wI_o (by omega), wI_o (by omega)]; exact h12 j (by omega)
  have kC : KM t n2 A C := by
    refine KM_tr kA1 (m := n2) ?_ (Nat.le_refl _)
    rw [hC]
    exact ⟨fun o a _ _ => by rw [wI_o a, wI_o a], fun k hk => by rw [wI_ne (by omega), wI_ne (by omega)], fun k _ => by rw [wI_o (by omega), wI_o (by omega)]⟩
  have d17 : (A1 0 17) - 1 = nI x2 := by rw [h10]; exact dec1' x2
  have d16 : (A1 0 16) - 1 = nI ps2 := by rw [h9]; exact dec1' ps2
  have hon : onw pl ps < 102 := by
    unfold onw
    by_cases c : oat pl ps = 0
    · rw [if_pos c]; omega
    · rw [if_neg c]
      have := hpl (oat pl ps - 1) (by have := oat_le (pl := pl) ps; omega)
      omega
  have run : ∀ z, (z = some (1, M, J) → True) := fun _ _ => trivial
  have eb : fX7_behindOne M J = gi (oI (onw pl ps) = 43) (bd (fX7_emit 3 0 C) (fun (I32 : gI) => bd (fX7_settle (7 : Int32) I32) (fun (I28 : gI) => some ((1 : Int32), I28, J1)))) (bd (fX7_settle (7 : Int32) C) (fun (I28 : gI) => some ((1 : Int32), I28, J1))) := by
    unfold fX7_behindOne
    rw [e1, bdE, gi_pos (show oI 0 < 0 by decide), o1, bdE, p1, bdE, gi_pos (show (0 : Int32) ≤ nI 0 by decide), show (1 : Int32) = nI 1 from rfl, hs, bdE, e, bdE, prE, gi_pos (show nI 0 ≤ (0 : Int32) by decide)]
    simp only [lzE]
    rw [show (A1 0 17) - nI 1 = nI x2 from d17, wI_ne (by omega), show (A1 0 16) - nI 1 = nI ps2 from d16, ← hC]
  by_cases c : onw pl ps = 44
  · rw [if_pos c]
    obtain ⟨D, eD, pD, kD, cD, _, _⟩ := emit7 pC ht hn2 3 0
    refine ⟨D, J1, pD, KM_tr kC kD (Nat.le_refl _), fun _ => cD, fun m Q q => ?_⟩
    obtain ⟨I, eI, q⟩ := q
    refine bh_on (M' := I) (J' := J1) h ?_ m q
    rw [eb, gi_pos (by rw [c]; rfl), show (3 : Int32) = nI 3 from rfl, show (0 : Int32) = nI 0 from rfl, eD, bdE, show (7 : Int32) = nI 7 from rfl, eI]
    rfl
  · rw [if_neg c]
    refine ⟨C, J1, pC, kC, fun z => absurd z c, fun m Q q => ?_⟩
    obtain ⟨I, eI, q⟩ := q
    refine bh_on (M' := I) (J' := J1) h ?_ m q
    have c43 : ¬ oI (onw pl ps) = 43 := fun z => by
      have := (oIn (a := onw pl ps) (b := 43) (by omega) (by omega)).mp (show oI (onw pl ps) = nI 43 from z)
      omega
    rw [eb, gi_neg c43, show (7 : Int32) = nI 7 from rfl, eI]
    rfl
/-- then or else -/
theorem bh_part {K : Nat} (hN : NXT tk tv tp ep B K) (h : PM tk tv tp ep B t law i n ps pl x 1 M J) (hp : ps < 160) (hpl : ∀ j, j < ps → pl j < 100) (hb : bwI (tk i) (onw pl ps) (cpd pl ps) = 0) (hw : pwI (tk i) (onw pl ps) (cpd pl ps) = u + 1) (hu : 0 < u) (hs : fX7_settle (nI 1) M = some A) (pA : PM tk tv tp ep B t law i n2 (ps2 + 1) pl2 x2 1 A J) (hp2 : ps2 < 159) (hpl2 : ∀ j, j < ps2 + 1 → pl2 j < 100) (ho : 40 ≤ pl2 ps2) (hi : i < K) : ∃ M' J', PM tk tv tp ep B t law (i + 1) n2 (ps2 + 1) (pu1 pl2 ps2 u) x2 0 M' J' ∧ KM t n2 A M' ∧ ∀ m Q, wpF m M' J' Q → wpF (m + 1) M J Q := by
  have hk : ¬ tk i = 40 := fun z => by rw [z, pw40] at hw; omega
  have hle := pwI_le (tk i) (onw pl ps) (cpd pl ps)
  have e1 := btw7 h hp hpl
  rw [hb] at e1
  have o1 := onw7 h hp hpl
  have p1 := prt7 h hp hpl
  rw [hw, oI_s] at p1
  obtain ⟨A1, J1, e, pA1, kA1⟩ := nx7 hN pA hi hk
  have eo := oat7 pA1 (by omega) hpl2
  have ho2 : oat pl2 (ps2 + 1) = ps2 + 1 := if_pos ho
  rw [ho2, oI_s] at eo
  obtain ⟨⟨h1, h2, h3⟩, ⟨h4, h5⟩, h6, h7, h8, h9, h10, h11, h12⟩ := pA1
  refine ⟨wI (wI A1 5 ps2 (nI u)) 0 18 (nI 0), J1, ?_, ?_, fun m Q q => bh_on h ?_ m q⟩
  · refine ⟨?_, ?_, ?_, ?_, ?_, ?_, ?_, wI_eq, fun j hj => ?_⟩
    · simp (disch := omega) only [wI_ne, wI_o]; exact ⟨h1, h2, h3⟩
    · simp (disch := omega) only [wI_ne, wI_o]; exact ⟨h4, h5⟩
    · simp (disch := omega) only [wI_ne, wI_o]; exact h6
    · simp (disch := omega) only [wI_ne, wI_o]; exact h7
    · simp (disch := omega) only [wI_ne, wI_o]; exact h8
    · simp (disch := omega) only [wI_ne, wI_o]; exact h9
    · simp (disch := omega) only [wI_ne, wI_o]; exact h10
    · rw [wI_o (by omega)]
      by_cases c : j = ps2
      · subst c; rw [wI_eq, pu1_e]
      · rw [wI_ne (by omega), pu1_n c]; exact h12 j hj
  · refine KM_tr kA1 (m := n2) ?_ (Nat.le_refl _)
    exact ⟨fun o a _ d => by rw [wI_o a, wI_o d], fun k hk => by rw [wI_ne (by omega), wI_o (by omega)], fun k _ => by rw [wI_o (by omega), wI_o (by omega)]⟩
  · have hnn : ¬ nI u ≤ (0 : Int32) := fun z => by
      have := (leN (a := u) (b := 0) (by omega) (by omega)).mp z
      omega
    unfold fX7_behindOne
    rw [e1, bdE, gi_pos (show oI 0 < 0 by decide), o1, bdE, p1, bdE, gi_pos (show (0 : Int32) ≤ nI u from (leN (a := 0) (b := u) (by omega) (by omega)).mpr (Nat.zero_le _)), show (1 : Int32) = nI 1 from rfl, hs, bdE, e, bdE, prE, gi_neg hnn, eo, bdE, gdN (by omega) (by omega), lzE, clN (by omega), lzE]
    rfl
end MB
