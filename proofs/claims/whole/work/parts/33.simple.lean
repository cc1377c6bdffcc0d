-- 33: PURE PART: the simple cases (out of wip/whole/pure by pure.py)
theorem case_0 : st_0 V0 := by
  intro a1 a2 a3 IC IM JM hV
  by_cases c1 : inR a1 5
  · by_cases c2 : inR a2 10
    · by_cases c3 : inR a3 100
      · obtain ⟨nb, nt, mb, mt, h1, ⟨p1, p2, p3, p4, p5, p6, p7, p8, p9⟩, h3, h4, h5⟩ := hV
        obtain ⟨k, hk, rfl⟩ := c1
        obtain ⟨x, hx, rfl⟩ := c2
        obtain ⟨y, hy, rfl⟩ := c3
        refine ⟨1, wI (wI IC 2 k (nI x)) 3 k (nI y), wI (wI IM 1 (29 + k) (nI x)) 1 (34 + k) (nI y), ?_, ?_, ?_⟩
        · unfold fX6_sort fX6_isSort fX6_within
          simp (disch := omega) only [lit, addN, mulN, subN, clN, gdN, ltN, leN, eqN, divN, remN, giT, giF, lzE, prE, bdE, smL, smR, shlN, shrN]
        · unfold fX7_sort fX7_isSort fX7_isIn
          simp (disch := omega) only [lit, addN, mulN, subN, clN, gdN, ltN, leN, eqN, divN, remN, giT, giF, lzE, prE, bdE, smL, smR, shlN, shrN]
        · refine ⟨nb, nt, mb, mt, h1, ⟨rHead_congr p1 ⟨by first | rfl | simp (disch := omega) only [wI_ne, wI_o], by first | rfl | simp (disch := omega) only [wI_ne, wI_o], by first | rfl | simp (disch := omega) only [wI_ne, wI_o]⟩ (fun _ _ => by first | rfl | simp (disch := omega) only [wI_ne, wI_o]), rPaid_congr p2 ⟨by first | rfl | simp (disch := omega) only [wI_ne, wI_o], by first | rfl | simp (disch := omega) only [wI_ne, wI_o]⟩ (by first | rfl | simp (disch := omega) only [wI_ne, wI_o]) (fun _ _ _ => by first | rfl | simp (disch := omega) only [wI_ne, wI_o]), rSaid_congr p3 (by first | rfl | simp (disch := omega) only [wI_ne, wI_o]) (by first | rfl | simp (disch := omega) only [wI_ne, wI_o]) (by first | rfl | simp (disch := omega) only [wI_ne, wI_o]) (by first | rfl | simp (disch := omega) only [wI_ne, wI_o]) (fun _ _ _ => by first | rfl | simp (disch := omega) only [wI_ne, wI_o]), ?_, rBuy_congr p5 (by first | rfl | simp (disch := omega) only [wI_ne, wI_o]) (by first | rfl | simp (disch := omega) only [wI_ne, wI_o]) (by first | rfl | simp (disch := omega) only [wI_ne, wI_o]) (by first | rfl | simp (disch := omega) only [wI_ne, wI_o]) (fun _ _ _ => by first | rfl | simp (disch := omega) only [wI_ne, wI_o]), rVals_congr p6 (by first | rfl | simp (disch := omega) only [wI_ne, wI_o]) (fun _ _ _ => by first | rfl | simp (disch := omega) only [wI_ne, wI_o]), rWall_congr p7 (by first | rfl | simp (disch := omega) only [wI_ne, wI_o]) (by first | rfl | simp (disch := omega) only [wI_ne, wI_o]) (by first | rfl | simp (disch := omega) only [wI_ne, wI_o]) (by first | rfl | simp (disch := omega) only [wI_ne, wI_o]) (fun _ _ => by first | rfl | simp (disch := omega) only [wI_ne, wI_o]) (fun _ _ => by first | rfl | simp (disch := omega) only [wI_ne, wI_o]), rSteps_congr p8 ⟨by first | rfl | simp (disch := omega) only [wI_ne, wI_o], by first | rfl | simp (disch := omega) only [wI_ne, wI_o]⟩ (by first | rfl | simp (disch := omega) only [wI_ne, wI_o]) (fun _ _ => by first | rfl | simp (disch := omega) only [wI_ne, wI_o]) (by first | rfl | simp (disch := omega) only [wI_ne, wI_o]) (fun _ _ _ => by first | rfl | simp (disch := omega) only [wI_ne, wI_o]), rOwn_congr p9 (fun _ _ => by first | rfl | simp (disch := omega) only [wI_ne, wI_o])⟩, rPort_congr h3 (fun _ _ _ => by first | rfl | simp (disch := omega) only [wI_ne, wI_o]) (by first | rfl | simp (disch := omega) only [wI_ne, wI_o]), rTape_congr h4 (by first | rfl | simp (disch := omega) only [wI_ne, wI_o]) (by first | rfl | simp (disch := omega) only [wI_ne, wI_o]) (by first | rfl | simp (disch := omega) only [wI_ne, wI_o]) ⟨by first | rfl | simp (disch := omega) only [wI_ne, wI_o], by first | rfl | simp (disch := omega) only [wI_ne, wI_o], by first | rfl | simp (disch := omega) only [wI_ne, wI_o], by first | rfl | simp (disch := omega) only [wI_ne, wI_o]⟩, fun t ht => rText_congr (h5 t ht) (fun _ _ => by first | rfl | simp (disch := omega) only [wI_ne, wI_o]) (fun _ _ => by first | rfl | simp (disch := omega) only [wI_ne, wI_o])⟩
          intro s hs
          obtain ⟨q1, q2, q3, q4⟩ := p4 s hs
          by_cases hsk : s = k
          · subst hsk
            refine ⟨?_, ?_, ?_, ?_⟩
            · simp (disch := omega) only [wI_ne, wI_eq]; exact inR_nI hx
            · simp (disch := omega) only [wI_eq]; exact inR_nI hy
            · simp (disch := omega) only [wI_ne, wI_eq]
            · simp (disch := omega) only [wI_eq]
          · simp (disch := omega) only [wI_ne]
            exact ⟨q1, q2, q3, q4⟩
      · refine ⟨0, IC, IM, ?_, ?_, hV⟩
        · unfold fX6_sort
          rw [isSort6_pos c1, gi_neg one_ne, within_eq, isIn_pos (lo := 0) (hi := 9) (n := 9) (by decide) rfl rfl c2, gi_neg one_ne, within_eq, isIn_neg (lo := 0) (hi := 99) (n := 99) (by decide) rfl rfl c3, gi_pos rfl]
        · unfold fX7_sort
          rw [isSort7_pos c1, gi_neg one_ne, isIn_pos (lo := 0) (hi := 9) (n := 9) (by decide) rfl rfl c2, gi_neg one_ne, isIn_neg (lo := 0) (hi := 99) (n := 99) (by decide) rfl rfl c3, gi_pos rfl]
    · refine ⟨0, IC, IM, ?_, ?_, hV⟩
      · unfold fX6_sort
        rw [isSort6_pos c1, gi_neg one_ne, within_eq, isIn_neg (lo := 0) (hi := 9) (n := 9) (by decide) rfl rfl c2, gi_pos rfl]
      · unfold fX7_sort
        rw [isSort7_pos c1, gi_neg one_ne, isIn_neg (lo := 0) (hi := 9) (n := 9) (by decide) rfl rfl c2, gi_pos rfl]
  · refine ⟨0, IC, IM, ?_, ?_, hV⟩
    · unfold fX6_sort
      rw [isSort6_neg c1, gi_pos rfl]
    · unfold fX7_sort
      rw [isSort7_neg c1, gi_pos rfl]
theorem case_3 : st_3 V0 := by
  intro a1 IC IM JM hV
  obtain ⟨nb, nt, mb, mt, h1, ⟨p1, p2, p3, p4, p5, p6, p7, p8, p9⟩, h3, h4, h5⟩ := hV
  obtain ⟨n, b1, b2, b3, b4, b5, b6, b7⟩ := h4
  by_cases c1 : inR a1 (n + 1)
  · refine ⟨a1, wI IC 0 10 a1, wI IM 0 4 a1, ?_, ?_, ?_⟩
    · unfold fX6_end
      rw [within_eq, isIn_pos (lo := 0) (n := n) (by omega) rfl b2 c1, gi_neg one_ne]
      rfl
    · unfold fX7_end
      rw [isIn_pos (lo := 0) (n := n) (by omega) rfl b3 c1, gi_neg one_ne]
      rfl
    · obtain ⟨k, hk, rfl⟩ := c1
      refine ⟨nb, nt, mb, mt, h1, ⟨rHead_congr p1 ⟨by first | rfl | simp (disch := omega) only [wI_ne, wI_o], by first | rfl | simp (disch := omega) only [wI_ne, wI_o], by first | rfl | simp (disch := omega) only [wI_ne, wI_o]⟩ (fun _ _ => by first | rfl | simp (disch := omega) only [wI_ne, wI_o]), rPaid_congr p2 ⟨by first | rfl | simp (disch := omega) only [wI_ne, wI_o], by first | rfl | simp (disch := omega) only [wI_ne, wI_o]⟩ (by first | rfl | simp (disch := omega) only [wI_ne, wI_o]) (fun _ _ _ => by first | rfl | simp (disch := omega) only [wI_ne, wI_o]), rSaid_congr p3 (by first | rfl | simp (disch := omega) only [wI_ne, wI_o]) (by first | rfl | simp (disch := omega) only [wI_ne, wI_o]) (by first | rfl | simp (disch := omega) only [wI_ne, wI_o]) (by first | rfl | simp (disch := omega) only [wI_ne, wI_o]) (fun _ _ _ => by first | rfl | simp (disch := omega) only [wI_ne, wI_o]), rOdds_congr p4 (by first | rfl | simp (disch := omega) only [wI_ne, wI_o]) (by first | rfl | simp (disch := omega) only [wI_ne, wI_o]) (fun _ _ _ => by first | rfl | simp (disch := omega) only [wI_ne, wI_o]), rBuy_congr p5 (by first | rfl | simp (disch := omega) only [wI_ne, wI_o]) (by first | rfl | simp (disch := omega) only [wI_ne, wI_o]) (by first | rfl | simp (disch := omega) only [wI_ne, wI_o]) (by first | rfl | simp (disch := omega) only [wI_ne, wI_o]) (fun _ _ _ => by first | rfl | simp (disch := omega) only [wI_ne, wI_o]), rVals_congr p6 (by first | rfl | simp (disch := omega) only [wI_ne, wI_o]) (fun _ _ _ => by first | rfl | simp (disch := omega) only [wI_ne, wI_o]), rWall_congr p7 (by first | rfl | simp (disch := omega) only [wI_ne, wI_o]) (by first | rfl | simp (disch := omega) only [wI_ne, wI_o]) (by first | rfl | simp (disch := omega) only [wI_ne, wI_o]) (by first | rfl | simp (disch := omega) only [wI_ne, wI_o]) (fun _ _ => by first | rfl | simp (disch := omega) only [wI_ne, wI_o]) (fun _ _ => by first | rfl | simp (disch := omega) only [wI_ne, wI_o]), rSteps_congr p8 ⟨by first | rfl | simp (disch := omega) only [wI_ne, wI_o], by first | rfl | simp (disch := omega) only [wI_ne, wI_o]⟩ (by first | rfl | simp (disch := omega) only [wI_ne, wI_o]) (fun _ _ => by first | rfl | simp (disch := omega) only [wI_ne, wI_o]) (by first | rfl | simp (disch := omega) only [wI_ne, wI_o]) (fun _ _ _ => by first | rfl | simp (disch := omega) only [wI_ne, wI_o]), rOwn_congr p9 (fun _ _ => by first | rfl | simp (disch := omega) only [wI_ne, wI_o])⟩, rPort_congr h3 (fun _ _ _ => by first | rfl | simp (disch := omega) only [wI_ne, wI_o]) (by first | rfl | simp (disch := omega) only [wI_ne, wI_o]), ?_, fun t ht => rText_congr (h5 t ht) (fun _ _ => by first | rfl | simp (disch := omega) only [wI_ne, wI_o]) (fun _ _ => by first | rfl | simp (disch := omega) only [wI_ne, wI_o])⟩
      refine ⟨k, by omega, wI_eq, wI_eq, fun i hi => ?_, ?_, ?_, ?_⟩
      · simp (disch := omega) only [wI_ne]
        exact b4 i (by omega)
      · simp (disch := omega) only [wI_ne]; exact b5
      · simp (disch := omega) only [wI_ne]; exact b6
      · simp (disch := omega) only [wI_ne]; exact b7
  · refine ⟨-1, IC, IM, ?_, ?_, ⟨nb, nt, mb, mt, h1, ⟨p1, p2, p3, p4, p5, p6, p7, p8, p9⟩, h3, ⟨n, b1, b2, b3, b4, b5, b6, b7⟩, h5⟩⟩
    · unfold fX6_end
      rw [within_eq, isIn_neg (lo := 0) (n := n) (by omega) rfl b2 c1, gi_pos rfl]
    · unfold fX7_end
      rw [isIn_neg (lo := 0) (n := n) (by omega) rfl b3 c1, gi_pos rfl]
theorem case_5 : st_5 V0 := by
  intro a1 IC IM JM hV
  refine ⟨_, rfl, ?_, hV⟩
  obtain ⟨nb, nt, mb, mt, h1, ⟨p1, p2, p3, p4, p5, p6, p7, p8, p9⟩, h3, h4, h5⟩ := hV
  obtain ⟨n, b1, b2, b3, b4, b5, b6, b7⟩ := h4
  unfold fX7_fault fX6_fault
  rw [b5, b6]
theorem case_16 : st_16 V0 := by
  intro a1 a2 IC IM JM hV
  by_cases c1 : inR a1 5
  · obtain ⟨r, hr⟩ : ∃ r, fX6_ofSort a1 a2 IC = some r := by
      unfold fX6_ofSort
      obtain ⟨k, hk, rfl⟩ := id c1
      rw [isSort6_pos c1, gi_neg one_ne, gdN hk (by decide), gdN hk (by decide)]
      by_cases d1 : a2 = 0
      · exact ⟨_, gi_pos d1⟩
      · rw [gi_neg (show ¬ a2 = (0 : Int32) from d1)]
        by_cases d2 : a2 = 1
        · exact ⟨_, gi_pos d2⟩
        · exact ⟨_, gi_neg d2⟩
    refine ⟨r, hr, ?_, hV⟩
    obtain ⟨nb, nt, mb, mt, h1, ⟨p1, p2, p3, p4, p5, p6, p7, p8, p9⟩, h3, h4, h5⟩ := hV
    rw [← hr]
    unfold fX7_ofSort fX6_ofSort
    obtain ⟨k, hk, rfl⟩ := id c1
    obtain ⟨q1, q2, q3, q4⟩ := p4 k hk
    rw [isSort6_pos c1, isSort7_pos c1, gi_neg one_ne, gi_neg one_ne]
    simp (disch := omega) only [lit, addN, mulN, subN, clN, gdN, ltN, leN, eqN, divN, remN, giT, giF, lzE, prE, bdE, smL, smR, shlN, shrN]
    rw [← q3, ← q4]
  · refine ⟨-1, ?_, ?_, hV⟩
    · unfold fX6_ofSort
      rw [isSort6_neg c1, gi_pos rfl]
    · unfold fX7_ofSort
      rw [isSort7_neg c1, gi_pos rfl]
theorem case_37 : st_37 V0 := by
  intro a1 a2 IC IM JM hV
  by_cases c1 : inR a1 12
  · by_cases c2 : inR a2 100
    · obtain ⟨nb, nt, mb, mt, h1, ⟨p1, p2, p3, p4, p5, p6, p7, p8, p9⟩, h3, h4, h5⟩ := hV
      obtain ⟨k, hk, rfl⟩ := c1
      obtain ⟨x, hx, rfl⟩ := c2
      refine ⟨1, wI IC 8 k (nI x), wI IM 1 (69 + k) (nI x), ?_, ?_, ?_⟩
      · unfold fX6_value fX6_isSlice fX6_within
        simp (disch := omega) only [lit, addN, mulN, subN, clN, gdN, ltN, leN, eqN, divN, remN, giT, giF, lzE, prE, bdE, smL, smR, shlN, shrN]
      · unfold fX7_value fX7_isSlice fX7_isIn
        simp (disch := omega) only [lit, addN, mulN, subN, clN, gdN, ltN, leN, eqN, divN, remN, giT, giF, lzE, prE, bdE, smL, smR, shlN, shrN]
      · refine ⟨nb, nt, mb, mt, h1, ⟨rHead_congr p1 ⟨by first | rfl | simp (disch := omega) only [wI_ne, wI_o], by first | rfl | simp (disch := omega) only [wI_ne, wI_o], by first | rfl | simp (disch := omega) only [wI_ne, wI_o]⟩ (fun _ _ => by first | rfl | simp (disch := omega) only [wI_ne, wI_o]), rPaid_congr p2 ⟨by first | rfl | simp (disch := omega) only [wI_ne, wI_o], by first | rfl | simp (disch := omega) only [wI_ne, wI_o]⟩ (by first | rfl | simp (disch := omega) only [wI_ne, wI_o]) (fun _ _ _ => by first | rfl | simp (disch := omega) only [wI_ne, wI_o]), rSaid_congr p3 (by first | rfl | simp (disch := omega) only [wI_ne, wI_o]) (by first | rfl | simp (disch := omega) only [wI_ne, wI_o]) (by first | rfl | simp (disch := omega) only [wI_ne, wI_o]) (by first | rfl | simp (disch := omega) only [wI_ne, wI_o]) (fun _ _ _ => by first | rfl | simp (disch := omega) only [wI_ne, wI_o]), rOdds_congr p4 (by first | rfl | simp (disch := omega) only [wI_ne, wI_o]) (by first | rfl | simp (disch := omega) only [wI_ne, wI_o]) (fun _ _ _ => by first | rfl | simp (disch := omega) only [wI_ne, wI_o]), rBuy_congr p5 (by first | rfl | simp (disch := omega) only [wI_ne, wI_o]) (by first | rfl | simp (disch := omega) only [wI_ne, wI_o]) (by first | rfl | simp (disch := omega) only [wI_ne, wI_o]) (by first | rfl | simp (disch := omega) only [wI_ne, wI_o]) (fun _ _ _ => by first | rfl | simp (disch := omega) only [wI_ne, wI_o]), ?_, rWall_congr p7 (by first | rfl | simp (disch := omega) only [wI_ne, wI_o]) (by first | rfl | simp (disch := omega) only [wI_ne, wI_o]) (by first | rfl | simp (disch := omega) only [wI_ne, wI_o]) (by first | rfl | simp (disch := omega) only [wI_ne, wI_o]) (fun _ _ => by first | rfl | simp (disch := omega) only [wI_ne, wI_o]) (fun _ _ => by first | rfl | simp (disch := omega) only [wI_ne, wI_o]), rSteps_congr p8 ⟨by first | rfl | simp (disch := omega) only [wI_ne, wI_o], by first | rfl | simp (disch := omega) only [wI_ne, wI_o]⟩ (by first | rfl | simp (disch := omega) only [wI_ne, wI_o]) (fun _ _ => by first | rfl | simp (disch := omega) only [wI_ne, wI_o]) (by first | rfl | simp (disch := omega) only [wI_ne, wI_o]) (fun _ _ _ => by first | rfl | simp (disch := omega) only [wI_ne, wI_o]), rOwn_congr p9 (fun _ _ => by first | rfl | simp (disch := omega) only [wI_ne, wI_o])⟩, rPort_congr h3 (fun _ _ _ => by first | rfl | simp (disch := omega) only [wI_ne, wI_o]) (by first | rfl | simp (disch := omega) only [wI_ne, wI_o]), rTape_congr h4 (by first | rfl | simp (disch := omega) only [wI_ne, wI_o]) (by first | rfl | simp (disch := omega) only [wI_ne, wI_o]) (by first | rfl | simp (disch := omega) only [wI_ne, wI_o]) ⟨by first | rfl | simp (disch := omega) only [wI_ne, wI_o], by first | rfl | simp (disch := omega) only [wI_ne, wI_o], by first | rfl | simp (disch := omega) only [wI_ne, wI_o], by first | rfl | simp (disch := omega) only [wI_ne, wI_o]⟩, fun t ht => rText_congr (h5 t ht) (fun _ _ => by first | rfl | simp (disch := omega) only [wI_ne, wI_o]) (fun _ _ => by first | rfl | simp (disch := omega) only [wI_ne, wI_o])⟩
        intro s hs
        by_cases hsk : s = k
        · subst hsk
          simp (disch := omega) only [wI_eq]
          exact ⟨inR_nI hx, trivial⟩
        · simp (disch := omega) only [wI_ne]
          exact p6 s hs
    · refine ⟨0, IC, IM, ?_, ?_, hV⟩
      · unfold fX6_value
        rw [isSlice6_pos c1, gi_neg one_ne, within_eq, isIn_neg (lo := 0) (hi := 99) (n := 99) (by decide) rfl rfl c2, gi_pos rfl]
      · unfold fX7_value
        rw [isSlice7_pos c1, gi_neg one_ne, isIn_neg (lo := 0) (hi := 99) (n := 99) (by decide) rfl rfl c2, gi_pos rfl]
  · refine ⟨0, IC, IM, ?_, ?_, hV⟩
    · unfold fX6_value
      rw [isSlice6_neg c1, gi_pos rfl]
    · unfold fX7_value
      rw [isSlice7_neg c1, gi_pos rfl]
