-- 87: PURE PART: a text (out of wip/whole/pure by pure.py)
theorem ty_0 {k v : Nat} {M : gI} {J : gJ} (h : tkR k v (M 0 9) (M 0 10) (J 0 11)) : (M 0 9 = nI 0) ↔ k = 40 := by
  rcases h with ⟨h0, e⟩ | ⟨h0, e, _⟩ | ⟨h0, e, _⟩ | ⟨h0, e⟩ | ⟨a1, a2, e⟩
  · rw [e, nI_eq (by omega) (by omega)]
    omega
  · rw [e, nI_eq (by omega) (by omega)]
    omega
  · rw [e, nI_eq (by omega) (by omega)]
    omega
  · rcases e with ⟨e, _⟩ | e | e
    · rw [e, nI_eq (by omega) (by omega)]
      omega
    · rw [e, nI_eq (by omega) (by omega)]
      omega
    · rw [e, nI_eq (by omega) (by omega)]
      omega
  · have c := sgn_lt k a2 a1
    rw [e, nI_eq (by omega) (by omega)]
    omega
/-- clause by clause -/
theorem reads_lp {tk tv tp ep : Nat → Nat} {B : gI} {t K : Nat} (hN : NXT tk tv tp ep B K) (hT : toksOK tk tv tp K) (h38 : ∀ j, j ≤ K → ¬ tk j = 38) (ht : t < 4) (hK : K ≤ 300) (hE : tk K = 40) (t0 : Nat) : ∀ g m fa fb i cn n law b C M J, 25 - m ≤ g → 25 - m < fa → 25 - m < fb → CST tk tv tp ep B t K law i cn n m b C M J →
    (∃ C' f j M' J', fX1_reads_63 t0 fa (nI m) C = some (Sum.inl C') ∧ fX7_readText_43 fb M J = some (Sum.inl (nI f, M', J')) ∧ 0 < f ∧ f < 7 ∧ C' 275 7 = nI f ∧ C' 275 8 = nI (tp j) ∧ M' 0 8 = nI (tp j) ∧ FC t C C' ∧ FM t M M') ∨
    ∃ C' M' J' law' i' cn' n' m' b', fX1_reads_63 t0 fa (nI m) C = some (Sum.inr C') ∧ fX7_readText_43 fb M J = some (Sum.inr (M', J')) ∧ CST tk tv tp ep B t K law' i' cn' n' m' b' C' M' J' ∧ FC t C C' ∧ FM t M M' := by
  intro g
  induction g with
  | zero =>
    intro m fa fb i cn n law b C M J hg _ _ cst
    have := cst.2.2.1.2.2.2
    omega
  | succ g ih =>
    intro m fa fb i cn n law b C M J hg hfa hfb cst
    obtain ⟨fa, rfl⟩ : ∃ a, fa = a + 1 := ⟨fa - 1, by omega⟩
    obtain ⟨fb, rfl⟩ : ∃ a, fb = a + 1 := ⟨fb - 1, by omega⟩
    have hm := cst.2.2.1.2.2.2
    have hi := cst.2.2.1.1
    have pc := cst.1
    have qm := cst.2.1
    have ek := (pc.2.2.2.2.1 i (by omega)).1
    have hk := (hT i hi).1
    have t0' := ty_0 qm.1.2.2
    rw [sX1_reads_63, fX1_reads_63b, sX7_readText_43, fX7_readText_43b, gi_neg (show ¬ (24 : Int32) < nI m from fun z => by have := (ltN (a := 24) (b := m) (by omega) (by omega)).mp z; omega), pc.1, gdN (by omega) (by omega), clN (by omega), ek]
    by_cases c : tk i = 40
    · right
      rw [gi_pos (show nI (tk i) = (40 : Int32) by rw [c]; rfl), gi_pos (show M 0 9 = 0 from t0'.mpr c)]
      exact ⟨C, M, J, law, i, cn, n, m, b, rfl, rfl, cst, FC_rf, FM_rf⟩
    · rw [gi_neg (show ¬ nI (tk i) = (40 : Int32) from fun z => c ((nI_eq (by omega) (by omega)).mp (show nI (tk i) = nI 40 from z))), gi_neg (show ¬ M 0 9 = 0 from fun z => c (t0'.mp z))]
      rcases clause_ok hN hT h38 ht hK hE cst c with ⟨C', f, j, M', J', e6, e7, f0, f7, q1, q2, q3, fc, fm⟩ | ⟨C', i', cn', n', b', law', M', J', e6, e7, cst', fc, fm⟩
      · left
        refine ⟨C', f, j, M', J', ?_, ?_, f0, f7, q1, q2, q3, fc, fm⟩
        · rw [e6, bdE, prE, gi_pos (show nI 0 = (0 : Int32) from rfl)]
        · rw [e7, bdE, prE, prE, gi_neg (show ¬ nI f = (0 : Int32) from fun z => by have := (nI_eq (a := f) (b := 0) (by omega) (by omega)).mp z; omega)]
      · rw [e6, bdE, prE, gi_neg (show ¬ nI 1 = (0 : Int32) from one_ne), lzE, show nI m + (1 : Int32) = nI (m + 1) from addN m 1, e7, bdE, prE, prE, gi_pos (show nI 0 = (0 : Int32) from rfl)]
        rcases ih (m + 1) fa fb i' cn' n' law' b' C' M' J' (by omega) (by omega) (by omega) cst' with ⟨C2, f, j, M2, J2, g1, g2, g3, g4, g5, g6, g7, g8, g9⟩ | ⟨C2, M2, J2, l2, i2, cn2, n2, m2, b2, g1, g2, g3, g4, g5⟩
        · exact Or.inl ⟨C2, f, j, M2, J2, g1, g2, g3, g4, g5, g6, g7, FC_tr fc g8, FM_tr fm g9⟩
        · exact Or.inr ⟨C2, M2, J2, l2, i2, cn2, n2, m2, b2, g1, g2, g3, FC_tr fc g4, FM_tr fm g5⟩
theorem clear6 {t : Nat} {C : gI} : ∃ C', fX3_clear (296 + 8 * t) C = some C' ∧ C' (296 + 8 * t) 7 = nI 0 ∧ C' (296 + 8 * t) 8 = nI 0 ∧ (∀ l, l < 2 → C' (296 + 8 * t + 6) l = nI 0 ∧ C' (296 + 8 * t + 7) l = nI 0) ∧ ∀ o, o ≠ 296 + 8 * t → o ≠ 296 + 8 * t + 6 → o ≠ 296 + 8 * t + 7 → C' o = C o := by
  refine ⟨wI (wI (wI (wI (wI (wI C (296 + 8 * t) 7 (nI 0)) (296 + 8 * t) 8 (nI 0)) (296 + 8 * t + 6) 0 (nI 0)) (296 + 8 * t + 7) 0 (nI 0)) (296 + 8 * t + 6) 1 (nI 0)) (296 + 8 * t + 7) 1 (nI 0), ?_, ?_, ?_, fun l hl => ?_, fun o o1 o2 o3 => ?_⟩
  · unfold fX3_clear
    rw [lzE, lzE, show fX3_clear_12 (296 + 8 * t) FU 0 (wI (wI C (296 + 8 * t) 7 0) (296 + 8 * t) 8 0) = fX3_clear_12 (296 + 8 * t) (4999 + 1) (nI 0) (wI (wI C (296 + 8 * t) 7 (nI 0)) (296 + 8 * t) 8 (nI 0)) from rfl, sX3_clear_12, fX3_clear_12b, gi_neg (show ¬ (2 : Int32) ≤ nI 0 by decide), gdN (by omega) (by omega), clN (by omega), lzE, lzE, lzE, show nI 0 + (1 : Int32) = nI 1 from rfl, show (4999 : Nat) = 4998 + 1 from rfl, sX3_clear_12, fX3_clear_12b, gi_neg (show ¬ (2 : Int32) ≤ nI 1 by decide), gdN (by omega) (by omega), clN (by omega), lzE, lzE, lzE, show nI 1 + (1 : Int32) = nI 2 from rfl, show (4998 : Nat) = 4997 + 1 from rfl, sX3_clear_12, fX3_clear_12b, gi_pos (show (2 : Int32) ≤ nI 2 by decide), bdE]
    rfl
  · rw [wI_o (by omega), wI_o (by omega), wI_o (by omega), wI_o (by omega), wI_ne (by omega), wI_eq]
  · rw [wI_o (by omega), wI_o (by omega), wI_o (by omega), wI_o (by omega), wI_eq]
  · have : l = 0 ∨ l = 1 := by omega
    rcases this with rfl | rfl
    · refine ⟨?_, ?_⟩
      · rw [wI_o (by omega), wI_ne (by omega), wI_o (by omega), wI_eq]
      · rw [wI_ne (by omega), wI_o (by omega), wI_eq]
    · refine ⟨?_, ?_⟩
      · rw [wI_o (by omega), wI_eq]
      · rw [wI_eq]
  · rw [wI_o o3, wI_o o2, wI_o o3, wI_o o2, wI_o o1, wI_o o1]
/-- outside the reader and the new text -/
def GC (t : Nat) (C C' : gI) : Prop := ∀ o, (o < 275 ∨ 296 ≤ o) → (o < 296 + 8 * t ∨ 296 + 8 * t + 8 ≤ o) → C' o = C o
theorem reads67 {nt L : Nat} {bt : Nat → Nat} {IC IM : gI} {JM : gJ} (hnt : nt < 4) (hL : L ≤ 300) (hb : ∀ j, bt j < 256) (hC : BYc bt L IC) (hM : RYm bt L IM) (h1 : IM 1 1 = nI nt) :
    (∃ C' f pl M' J', fX1_reads (296 + 8 * nt) (nI L) IC = some (nI 0, C') ∧ fX7_readText IM JM = some (nI f, M', J') ∧ 0 < f ∧ f < 7 ∧ C' 275 7 = nI f ∧ C' 275 8 = pl ∧ M' 0 8 = pl ∧ GC nt IC C' ∧ FM nt IM M') ∨
    ∃ C' M' J', fX1_reads (296 + 8 * nt) (nI L) IC = some (nI 1, C') ∧ fX7_readText IM JM = some (nI 0, M', J') ∧ C' 275 7 = nI 0 ∧ C' 275 8 = -1 ∧ rText C' (M' 3) nt ∧ GC nt IC C' ∧ FM nt IM M' := by
  -- the class: made ready
  obtain ⟨C1, k1, k2, k3, k4, k5⟩ := clear6 (t := nt) (C := wI IC 275 6 (nI (296 + 8 * nt)))
  obtain ⟨C2, hC2⟩ : ∃ C2, C2 = wI (wI (wI C1 275 4 (nI 0)) 275 7 (nI 0)) 275 8 (-1) := ⟨_, rfl⟩
  have c2o : ∀ o, o ≠ 275 → C2 o = C1 o := fun o ho => by rw [hC2, wI_o ho, wI_o ho, wI_o ho]
  have b2 : BYc bt L C2 := fun j hj => by rw [c2o _ (by omega), k5 _ (by omega) (by omega) (by omega), wI_o (by omega)]; exact hC j hj
  obtain ⟨C3, K, s1, s2, s3, s4, s5, s6, s7, s8⟩ := split6 hL hb b2
  obtain ⟨tk, tv, tp, ep, t1, t2, t3, t4, t5, t6⟩ := toks hL hb hM s2 s5 s6 s7 s8
  -- the reference: made ready
  obtain ⟨M2, hM2⟩ : ∃ M2, M2 = wI (wI (wI (wI (wI IM 0 12 (nI (681 * nt))) 3 (681 * nt) (nI 0)) 0 13 (nI 0)) 0 19 (nI 0)) 0 7 (nI 0) := ⟨_, rfl⟩
  have m2o : ∀ o, o ≠ 0 → o ≠ 3 → M2 o = IM o := fun o o1 o2 => by rw [hM2, wI_o o1, wI_o o1, wI_o o1, wI_o o2, wI_o o1]
  have m20 : ∀ k, k < 7 ∨ 19 < k → M2 0 k = IM 0 k := fun k hk => by rw [hM2, wI_ne (by omega), wI_ne (by omega), wI_ne (by omega), wI_o (by omega), wI_ne (by omega)]
  have m23 : M2 3 = wI IM 3 (681 * nt) (nI 0) 3 := by
    rw [hM2, wI_o (by omega), wI_o (by omega), wI_o (by omega)]
    funext j
    show (if 3 = 3 ∧ j = 681 * nt then nI 0 else wI IM 0 12 (nI (681 * nt)) 3 j) = if 3 = 3 ∧ j = 681 * nt then nI 0 else IM 3 j
    rw [wI_o (by omega)]
  obtain ⟨M3, J3, n1, n2, n3, n4⟩ := t6 M2 JM (m2o 4 (by omega) (by omega)) (m20 4 (by omega)) (by rw [hM2]; exact wI_eq)
  have m33 : M3 3 = M2 3 := n3 3 (by omega)
  have cst : CST tk tv tp ep IM nt K (tI (C3 275 5)) 0 0 0 0 (fun _ => 0) C3 M3 J3 := by
    refine ⟨⟨?_, tI_n _, ?_, ?_, fun j _ => t1 j, ?_, ?_⟩, ⟨n2, ⟨?_, ?_⟩, ?_, ?_⟩, ⟨by omega, by omega, by omega, by omega⟩, ⟨?_, ?_⟩, fun c hc => by omega, ?_, fun l hl => Or.inl ⟨rfl, ?_, ?_, fun c hc => by omega⟩⟩
    · rw [s4 4 (by omega), hC2, wI_ne (by omega), wI_ne (by omega), wI_eq]
    · rw [s4 6 (by omega), hC2, wI_ne (by omega), wI_ne (by omega), wI_ne (by omega), k5 _ (by omega) (by omega) (by omega), wI_eq]
    · rw [s3 _ (by omega) (by omega) (by omega) (by omega), c2o _ (by omega)]; exact k3
    · rw [s4 7 (by omega), hC2, wI_ne (by omega), wI_eq]
    · rw [s4 8 (by omega), hC2, wI_eq]
    · rw [n3 4 (by omega)]; exact m2o 4 (by omega) (by omega)
    · rw [n4 4 (by omega)]; exact m20 4 (by omega)
    · rw [n4 12 (by omega), hM2, wI_ne (by omega), wI_ne (by omega), wI_ne (by omega), wI_o (by omega), wI_eq]
    · rw [n4 13 (by omega), hM2, wI_ne (by omega), wI_ne (by omega), wI_eq]
    · rw [s3 _ (by omega) (by omega) (by omega) (by omega), c2o _ (by omega)]; exact k2
    · rw [m33, m23]; exact wI_eq
    · rw [n4 19 (by omega), hM2, wI_ne (by omega), wI_eq]
      rfl
    · rw [s3 _ (by omega) (by omega) (by omega) (by omega), c2o _ (by omega)]; exact (k4 l hl).1
    · rw [s3 _ (by omega) (by omega) (by omega) (by omega), c2o _ (by omega)]; exact (k4 l hl).2
  have gc3 : GC nt IC C3 := fun o o1 o2 => by rw [s3 o (by omega) (by omega) (by omega) (by omega), c2o o (by omega), k5 o (by omega) (by omega) (by omega), wI_o (by omega)]
  have fm3 : FM nt IM M3 := ⟨fun o o1 o2 _ => (n3 o o1).trans (m2o o o1 o2), fun k hk => (n4 k (by omega)).trans (m20 k hk), fun k hk => by rw [m33, m23]; exact wI_ne (by omega)⟩
  have e6 : fX1_reads (296 + 8 * nt) (nI L) IC = bd (fX1_reads_63 (296 + 8 * nt) FU (nI 0) C3) (sm (fun (I34 : gI) => some ((0 : Int32), I34)) (fun (I36 : gI) => some ((1 : Int32), I36))) := by
    unfold fX1_reads
    rw [gi_neg (show ¬ nI L < 0 from nI_pos (by omega)), gi_neg (show ¬ (300 : Int32) < nI L from fun z => by have := (ltN (a := 300) (b := L) (by omega) (by omega)).mp z; omega), gi_pos (show nI L ≤ (300 : Int32) from (leN (a := L) (b := 300) (by omega) (by omega)).mpr hL), lzE, wI_eq, gAn hnt, clN (by omega), k1, bdE, lzE, lzE, lzE]
    rw [show wI (wI (wI C1 275 4 0) 275 7 0) 275 8 (-1) = C2 from hC2.symm, s1, bdE]
    rfl
  have e7 : fX7_readText IM JM = bd (fX7_readText_43 FU M3 J3) (sm (pr (fun (u30 : Int32) => (pr (fun (I31 : gI) (J32 : gJ) => some (u30, I31, J32))))) (pr (fun (I34 : gI) (J35 : gJ) => some ((0 : Int32), I34, J35)))) := by
    unfold fX7_readText
    rw [h1, show (681 : Int32) * nI nt = nI (681 * nt) from mulN 681 nt, lzE, wI_eq, gdN (by omega) (by omega), clN (by omega), lzE, lzE, lzE, lzE]
    rw [show wI (wI (wI (wI (wI IM 0 12 (nI (681 * nt))) 3 (681 * nt) 0) 0 13 0) 0 19 0) 0 7 0 = M2 from hM2.symm, n1, bdE, prE]
  have hK300 : K ≤ 300 := by omega
  rw [e6, e7]
  rcases reads_lp t5 t2 t3 hnt hK300 t4 (296 + 8 * nt) 25 0 FU FU 0 0 0 _ _ C3 M3 J3 (by omega) (by show _ < 5000; omega) (by show _ < 5000; omega) cst with ⟨C', f, j, M', J', g1, g2, g3, g4, g5, g6, g7, g8, g9⟩ | ⟨C', M', J', l2, i2, cn2, n2', m2, b2', g1, g2, g3, g4, g5⟩
  · left
    refine ⟨C', f, nI (tp j), M', J', ?_, ?_, g3, g4, g5, g6, g7, fun o o1 o2 => (g8 o (by omega) o2).trans (gc3 o o1 o2), FM_tr fm3 g9⟩
    · rw [g1, bdE, smL]
      rfl
    · rw [g2, bdE, smL, prE, prE]
  · right
    obtain ⟨pc, qm, ⟨b1, b2, b3, b4⟩, ⟨x7, xm⟩, rows, hb19, laws⟩ := g3
    refine ⟨C', M', J', ?_, ?_, pc.2.2.2.2.2.1, pc.2.2.2.2.2.2, ⟨m2, b4, x7, xm, rows, fun l hl => ?_⟩, fun o o1 o2 => (g4 o (by omega) o2).trans (gc3 o o1 o2), FM_tr fm3 g5⟩
    · rw [g1, bdE, smR]
      rfl
    · rw [g2, bdE, smR, prE]
      rfl
    · rcases laws l hl with ⟨_, y2, y3, y4⟩ | ⟨_, c, d, i, j, p, q, y1, y2, y3, y4, y5, y6, y7, y8, y9, y10, y11, y12⟩
      · exact Or.inl ⟨⟨0, 0, by omega, by omega, y2, y3⟩, y4⟩
      · exact Or.inr ⟨c, d, i, j, p, q, y1, y2, y3, y4, y5, by omega, by omega, y8, y9, y10, y11, y12⟩
theorem case_4 : st_4 V0 := by
  intro IC IM JM hV
  have hV' := hV
  obtain ⟨nb, nt, mb, mt, h1, h2, h3, h4, h5⟩ := hV
  have hd := h2.1
  obtain ⟨d1, d2, d3, d4, d5, d6, d7, d8⟩ := hd
  by_cases c : nt < 4
  · obtain ⟨L, b1, b2, b3, b4, b5, b6, b7⟩ := h4
    obtain ⟨bt, hbt⟩ : ∃ bt : Nat → Nat, bt = fun j => if j < L then tI (IM 4 j) else 0 := ⟨_, rfl⟩
    have hb : ∀ j, bt j < 256 := fun j => by
      rw [hbt]
      dsimp only
      by_cases z : j < L
      · rw [if_pos z]
        obtain ⟨k, y1, y2⟩ := (b4 j z).1
        rw [y2, tI_v (by omega)]
        exact y1
      · rw [if_neg z]; omega
    have hM : RYm bt L IM := ⟨b3, fun j hj => by
      rw [hbt]
      dsimp only
      rw [if_pos hj]
      exact tI_n _⟩
    have hC : BYc bt L IC := fun j hj => (b4 j hj).2.trans (hM.2 j hj)
    have e6 : fX6_text IC = bd (fX1_reads (296 + 8 * nt) (nI L) IC) (pr (fun (u3 : Int32) (I4 : gI) => lz (wI I4 0 10 (0 : Int32)) (fun (I7 : gI) => lz (wI I7 0 11 (I7 275 7)) (fun (I9 : gI) => lz (wI I9 0 12 (I9 275 8)) (fun (I11 : gI) => gi (u3 = 0) (some ((-1 : Int32), I11)) (lz (wI I11 1 13 ((I11 1 13) + (1 : Int32))) (fun (I14 : gI) => some (((I14 1 13) - (1 : Int32)), I14)))))))) := by
      unfold fX6_text
      rw [d6, gi_pos (show nI nt < (4 : Int32) from (ltN (a := nt) (b := 4) (by omega) (by omega)).mpr c), gdN c (by omega), clN (by omega), b2]
    have e7 : fX7_text IM JM = bd (fX7_readText IM JM) (pr (fun (u2 : Int32) => pr (fun (I3 : gI) (J4 : gJ) => lz (wI I3 0 5 u2) (fun (I7 : gI) => lz (fun (u9 : Int32) => lz (wI I7 0 6 u9) (fun (I13 : gI) => lz (wI I13 0 4 (0 : Int32)) (fun (I15 : gI) => gi ((I15 0 5) = 0) (lz (wI I15 1 1 ((I15 1 1) + (1 : Int32))) (fun (I19 : gI) => some (((I19 1 1) - (1 : Int32)), I19, J4))) (some ((-1 : Int32), I15, J4))))) (fun j10 => gi ((I7 0 5) = 0) (j10 (-1 : Int32)) (j10 (I7 0 8))))))) := by
      unfold fX7_text
      rw [d5, gi_neg (show ¬ nI nt = (4 : Int32) from fun z => by have := (nI_eq (by omega) (by omega)).mp (show nI nt = nI 4 from z); omega)]
    -- what holds behind it, ahead of the new text's count
    have mid : ∀ (C' M' : gI) (J' : gJ) (f pl : Int32), C' 275 7 = f → C' 275 8 = pl → GC nt IC C' → FM nt IM M' → V0 (wI (wI (wI C' 0 10 0) 0 11 f) 0 12 pl) (wI (wI (wI M' 0 5 f) 0 6 pl) 0 4 0) J' := by
      intro C' M' J' f pl h7 h8 gc fm
      refine ⟨nb, nt, mb, mt, h1, rPort_congr h2 (fun o o1 o2 => by rw [wI_o (by omega), wI_o (by omega), wI_o (by omega)]; exact gc o (by omega) (by omega)) (by rw [wI_o (by omega), wI_o (by omega), wI_o (by omega)]; exact fm.1 1 (by omega) (by omega) (by omega)), rPort_congr h3 (fun o o1 o2 => by rw [wI_o (by omega), wI_o (by omega), wI_o (by omega)]; exact gc o (by omega) (by omega)) (by rw [wI_o (by omega), wI_o (by omega), wI_o (by omega)]; exact fm.1 2 (by omega) (by omega) (by omega)), ⟨0, by omega, ?_, wI_eq, fun j hj => by omega, ?_, ?_, ?_⟩, fun t ht => rText_congr (h5 t ht) (fun k hk => by rw [wI_o (by omega), wI_o (by omega), wI_o (by omega)]; exact gc _ (by omega) (by omega)) (fun k hk => by rw [wI_o (by omega), wI_o (by omega), wI_o (by omega)]; exact fm.2.2 _ (by omega))⟩
      · rw [wI_ne (by omega), wI_ne (by omega), wI_eq]
        rfl
      · rw [wI_ne (by omega), wI_eq, wI_ne (by omega), wI_ne (by omega), wI_eq]
      · rw [wI_eq, wI_ne (by omega), wI_eq]
      · rw [wI_ne (by omega), wI_ne (by omega), wI_ne (by omega), fm.2.1 23 (by omega)]; exact b7
    rw [e6, e7]
    rcases reads67 (JM := JM) c b1 hb hC hM d5 with ⟨C', f, pl, M', J', g1, g2, g3, g4, g5, g6, g7, gc, fm⟩ | ⟨C', M', J', g1, g2, g5, g6, tx, gc, fm⟩
    · have fne : ¬ nI f = (0 : Int32) := fun z => by have := (nI_eq (a := f) (b := 0) (by omega) (by omega)).mp z; omega
      refine ⟨-1, _, _, J', ?_, ?_, mid C' M' J' (nI f) pl g5 g6 gc fm⟩
      · rw [g1, bdE, prE, lzE, wI_o (show (275 : Nat) ≠ 0 by omega), g5, lzE, wI_o (show (275 : Nat) ≠ 0 by omega), wI_o (show (275 : Nat) ≠ 0 by omega), g6, lzE, gi_pos (show nI 0 = (0 : Int32) from rfl)]
      · rw [g2, bdE, prE, prE, lzE, lzE, wI_eq, gi_neg fne]
        dsimp only
        rw [wI_ne (show ¬ ((0 : Nat) = 0 ∧ 8 = 5) by omega), g7, lzE, lzE, wI_ne (show ¬ ((0 : Nat) = 0 ∧ 5 = 4) by omega), wI_ne (show ¬ ((0 : Nat) = 0 ∧ 5 = 6) by omega), wI_eq, gi_neg fne]
    · have V1 := mid C' M' J' (nI 0) (-1) g5 g6 gc fm
      obtain ⟨A, hA⟩ : ∃ A, A = wI (wI (wI C' 0 10 0) 0 11 (nI 0)) 0 12 (-1) := ⟨_, rfl⟩
      obtain ⟨D, hD⟩ : ∃ D, D = wI (wI (wI M' 0 5 (nI 0)) 0 6 (-1)) 0 4 0 := ⟨_, rfl⟩
      rw [← hA, ← hD] at V1
      have a13 : A 1 13 = nI nt := by rw [hA, wI_o (by omega), wI_o (by omega), wI_o (by omega), gc 1 (by omega) (by omega)]; exact d6
      have d11 : D 1 1 = nI nt := by rw [hD, wI_o (by omega), wI_o (by omega), wI_o (by omega), fm.1 1 (by omega) (by omega) (by omega)]; exact d5
      have tA : rText A (D 3) nt := rText_congr tx (fun k hk => by rw [hA, wI_o (by omega), wI_o (by omega), wI_o (by omega)]) (fun k hk => by rw [hD, wI_o (by omega), wI_o (by omega), wI_o (by omega)])
      have dec : nI (nt + 1) - (1 : Int32) = nI nt := dec1' nt
      refine ⟨nI nt, wI A 1 13 (nI (nt + 1)), wI D 1 1 (nI (nt + 1)), J', ?_, ?_, ?_⟩
      · rw [g1, bdE, prE, lzE, wI_o (show (275 : Nat) ≠ 0 by omega), g5, lzE, wI_o (show (275 : Nat) ≠ 0 by omega), wI_o (show (275 : Nat) ≠ 0 by omega), g6, lzE, gi_neg (show ¬ nI 1 = (0 : Int32) from one_ne), ← hA, a13, show nI nt + (1 : Int32) = nI (nt + 1) from addN nt 1, lzE, wI_eq, dec]
      · rw [g2, bdE, prE, prE, lzE, lzE, wI_eq, gi_pos (show nI 0 = (0 : Int32) from rfl)]
        dsimp only
        rw [lzE, lzE, wI_ne (show ¬ ((0 : Nat) = 0 ∧ 5 = 4) by omega), wI_ne (show ¬ ((0 : Nat) = 0 ∧ 5 = 6) by omega), wI_eq, gi_pos (show nI 0 = (0 : Int32) from rfl), ← hD, d11, show nI nt + (1 : Int32) = nI (nt + 1) from addN nt 1, lzE, wI_eq, dec]
      · clear h1 h2 h3 h5 mid
        obtain ⟨nb, nt2, mb, mt, h1, ⟨p1, p2, p3, p4, p5, p6, p7, p8, p9⟩, h3, h4, h5⟩ := V1
        have en : nt2 = nt := by
          have := p1.2.2.2.2.2.1
          rw [a13] at this
          exact ((nI_eq (by have := p1.2.1; omega) (by omega)).mp this.symm)
        subst en
        obtain ⟨u1, u2, u3, u4, u5, u6, u7, u8⟩ := p1
        have h1' : mt ≤ nt2 + 1 := by omega
        refine ⟨nb, (nt2+1), mb, mt, h1', ⟨?_, rPaid_congr p2 ⟨by first | rfl | simp (disch := omega) only [wI_ne, wI_o], by first | rfl | simp (disch := omega) only [wI_ne, wI_o]⟩ (by first | rfl | simp (disch := omega) only [wI_ne, wI_o]) (fun _ _ _ => by first | rfl | simp (disch := omega) only [wI_ne, wI_o]), rSaid_congr p3 (by first | rfl | simp (disch := omega) only [wI_ne, wI_o]) (by first | rfl | simp (disch := omega) only [wI_ne, wI_o]) (by first | rfl | simp (disch := omega) only [wI_ne, wI_o]) (by first | rfl | simp (disch := omega) only [wI_ne, wI_o]) (fun _ _ _ => by first | rfl | simp (disch := omega) only [wI_ne, wI_o]), rOdds_congr p4 (by first | rfl | simp (disch := omega) only [wI_ne, wI_o]) (by first | rfl | simp (disch := omega) only [wI_ne, wI_o]) (fun _ _ _ => by first | rfl | simp (disch := omega) only [wI_ne, wI_o]), rBuy_congr p5 (by first | rfl | simp (disch := omega) only [wI_ne, wI_o]) (by first | rfl | simp (disch := omega) only [wI_ne, wI_o]) (by first | rfl | simp (disch := omega) only [wI_ne, wI_o]) (by first | rfl | simp (disch := omega) only [wI_ne, wI_o]) (fun _ _ _ => by first | rfl | simp (disch := omega) only [wI_ne, wI_o]), rVals_congr p6 (by first | rfl | simp (disch := omega) only [wI_ne, wI_o]) (fun _ _ _ => by first | rfl | simp (disch := omega) only [wI_ne, wI_o]), rWall_congr p7 (by first | rfl | simp (disch := omega) only [wI_ne, wI_o]) (by first | rfl | simp (disch := omega) only [wI_ne, wI_o]) (by first | rfl | simp (disch := omega) only [wI_ne, wI_o]) (by first | rfl | simp (disch := omega) only [wI_ne, wI_o]) (fun _ _ => by first | rfl | simp (disch := omega) only [wI_ne, wI_o]) (fun _ _ => by first | rfl | simp (disch := omega) only [wI_ne, wI_o]), rSteps_congr p8 ⟨by first | rfl | simp (disch := omega) only [wI_ne, wI_o], by first | rfl | simp (disch := omega) only [wI_ne, wI_o]⟩ (by first | rfl | simp (disch := omega) only [wI_ne, wI_o]) (fun _ _ => by first | rfl | simp (disch := omega) only [wI_ne, wI_o]) (by first | rfl | simp (disch := omega) only [wI_ne, wI_o]) (fun _ _ _ => by first | rfl | simp (disch := omega) only [wI_ne, wI_o]), rOwn_congr p9 (fun _ _ => by first | rfl | simp (disch := omega) only [wI_ne, wI_o])⟩, rPort_congr h3 (fun _ _ _ => by first | rfl | simp (disch := omega) only [wI_ne, wI_o]) (by first | rfl | simp (disch := omega) only [wI_ne, wI_o]), rTape_congr h4 (by first | rfl | simp (disch := omega) only [wI_ne, wI_o]) (by first | rfl | simp (disch := omega) only [wI_ne, wI_o]) (by first | rfl | simp (disch := omega) only [wI_ne, wI_o]) ⟨by first | rfl | simp (disch := omega) only [wI_ne, wI_o], by first | rfl | simp (disch := omega) only [wI_ne, wI_o], by first | rfl | simp (disch := omega) only [wI_ne, wI_o], by first | rfl | simp (disch := omega) only [wI_ne, wI_o]⟩, ?_⟩
        · refine ⟨u1, by omega, ?_, ?_, wI_eq, wI_eq, ?_, ?_⟩
          · rw [wI_ne (by omega)]; exact u3
          · rw [wI_ne (by omega)]; exact u4
          · rw [wI_ne (by omega), wI_ne (by omega)]; exact u7
          · rw [wI_ne (by omega)]
            rcases u8 with z | ⟨t, z1, z2⟩
            · exact Or.inl z
            · exact Or.inr ⟨t, by omega, z2⟩
        · intro t ht
          by_cases z : t < nt2
          · exact rText_congr (h5 t z) (fun k hk => wI_o (by omega)) (fun k hk => by rw [wI_o (by omega)])
          · have : t = nt2 := by omega
            subst this
            exact rText_congr tA (fun k hk => wI_o (by omega)) (fun k hk => by rw [wI_o (by omega)])
  · have n4 : nt = 4 := by omega
    refine ⟨-1, IC, IM, JM, ?_, ?_, hV'⟩
    · unfold fX6_text
      rw [d6, n4, gi_neg (show ¬ nI 4 < (4 : Int32) by decide)]
    · unfold fX7_text
      rw [d5, n4, gi_pos (show nI 4 = (4 : Int32) from rfl)]
