-- 83: PURE PART: a clause, both readers alike: all of it (out of gen83.py and pure.py)
section CE
variable {tk tv tp ep : Nat → Nat} {B : gI} {t law K i cn n m : Nat} {b : Nat → Nat} {C M : gI} {J : gJ}
/-- a clause of numbers: its end -/
theorem num_end (hN : NXT tk tv tp ep B K) (hT : toksOK tk tv tp K) (ht : t < 4) (hK : K ≤ 300) (hE : tk K = 40) (cst : CST tk tv tp ep B t K law i cn n m b C M J) (hm24 : m < 24) {i2 lw : Nat} {C2 M2 : gI} {J2 : gJ} (hi1 : i < i2) (hi2 : i2 ≤ K) (pc2 : PC tk tv tp t lw i2 cn C2) (hC : ∀ o, o ≠ 275 → C2 o = C o) (qm2 : QM tk tv tp ep B t i2 n M2 J2) (hM : ∀ o, o ≠ 0 → o ≠ 3 → M2 o = M o) (hM0 : ∀ k, k < 7 ∨ 19 < k → M2 0 k = M 0 k) (h19 : M2 0 19 = nI (b 0 + 2 * b 1)) {s : Nat} (hs : 2 ≤ s) (hs8 : s < 8) (r1 : M2 3 (681 * t + (1 + 3 * m)) = nI s) (rr : ∀ k, k ≠ 681 * t + (1 + 3 * m) → k ≠ 681 * t + (2 + 3 * m) → k ≠ 681 * t + (3 + 3 * m) → M2 3 k = M 3 k) {k6 x6 y6 : Int32} (hcl : rCl k6 x6 y6 (nI s) (M2 3 (681 * t + (2 + 3 * m))) (M2 3 (681 * t + (3 + 3 * m)))) : CRES tk tv tp ep B t K m C M (bd (fX1_takes 37 C2) (pr (fun (u6 : Int32) (I7 : gI) => gi (u6 = 0) (some ((0 : Int32), I7)) (gd (gAt LC (I7 275 6).toNatClampNeg 0 3) (bd (fX3_add ((I7 275 6).toNatClampNeg) k6 x6 y6 I7) (fun (I12 : gI) => some ((1 : Int32), I12))))))) (endC (nI 0) M2 J2) := by
  obtain ⟨pc, qm, ⟨b1, b2, b3, b4⟩, ⟨e7, em⟩, rows, hb, laws⟩ := cst
  have em2 : M2 3 (681 * t) = nI m := (rr _ (by omega) (by omega) (by omega)).trans em
  have e72 : C2 (296 + 8 * t) 7 = nI m := by rw [hC _ (by omega)]; exact e7
  have fm : FM t M M2 := ⟨fun o x y _ => hM o x y, hM0, fun k hk => rr k (by omega) (by omega) (by omega)⟩
  by_cases c : tk i2 = 37
  · right
    have i2K := ltK hE hi2 (by omega)
    have t37 := takes6p pc2 ht (by omega) c
    obtain ⟨pc3, kc3⟩ := PC_on pc2 ht
    have e73 : (wI C2 275 4 (nI (i2 + 1))) (296 + 8 * t) 7 = nI m := by rw [wI_o (by omega)]; exact e72
    obtain ⟨C4, e4, pc4, g1, g2, ⟨g3, g4, g5⟩, g6⟩ := add6 pc3 ht e73 hm24 k6 x6 y6
    obtain ⟨M4, J4, f4, qm4, tm4, r4⟩ := end_p hN qm2 ht em2 i2K c
    have m4 : ∀ k, k ≠ 681 * t → M4 3 k = M2 3 k := fun k hk => by rw [r4]; exact wI_ne (by omega)
    have c4 : ∀ o, o ≠ 275 → o ≠ 296 + 8 * t → o ≠ 296 + 8 * t + 1 → o ≠ 296 + 8 * t + 2 → o ≠ 296 + 8 * t + 3 → C4 o = C o := fun o o1 o2 o3 o4 o5 => by rw [g6 o o2 o3 o4 o5, wI_o o1, hC o o1]
    refine ⟨C4, i2 + 1, cn, n, b, lw, M4, J4, ?_, f4, ⟨pc4, qm4, ⟨by omega, by omega, by omega, by omega⟩, ⟨g1, by rw [r4]; exact wI_eq⟩, fun c hc => ?_, ?_, fun l hl => ?_⟩, fun o x y => ?_, ?_⟩
    · rw [show fX1_takes 37 C2 = _ from t37, bdE, prE, gi_neg (show ¬ nI 1 = (0 : Int32) from one_ne), pc3.2.2.1, gAn ht, clN (by omega), e4, bdE]
      rfl
    · by_cases z : c = m
      · subst z
        rw [g3, g4, g5, m4 _ (by omega), m4 _ (by omega), m4 _ (by omega), r1]
        exact hcl
      · obtain ⟨u1, u2, u3⟩ := g2 c (by omega)
        rw [u1, u2, u3, wI_o (by omega), wI_o (by omega), wI_o (by omega), hC _ (by omega), hC _ (by omega), hC _ (by omega), m4 _ (by omega), m4 _ (by omega), m4 _ (by omega), rr _ (by omega) (by omega) (by omega), rr _ (by omega) (by omega) (by omega), rr _ (by omega) (by omega) (by omega)]
        exact rows c (by omega)
    · rw [tm4.2 19 (by omega)]; exact h19
    · refine LAW_keep (laws l hl) rfl (Nat.le_refl _) (Nat.le_refl _) (by omega) (by rw [c4 _ (by omega) (by omega) (by omega) (by omega) (by omega)]) (by rw [c4 _ (by omega) (by omega) (by omega) (by omega) (by omega)]) (fun a _ => by rw [c4 _ (by omega) (by omega) (by omega) (by omega) (by omega), c4 _ (by omega) (by omega) (by omega) (by omega) (by omega)]; exact ⟨rfl, rfl⟩) (fun k k1 k2 => by rw [m4 k (by omega), rr k (by omega) (by omega) (by omega)]) (fun c hc => by rw [m4 _ (by omega), m4 _ (by omega), m4 _ (by omega), rr _ (by omega) (by omega) (by omega), rr _ (by omega) (by omega) (by omega), rr _ (by omega) (by omega) (by omega)]; exact ⟨rfl, rfl, rfl⟩) (fun c c1 c2 => ?_)
      have : c = m := by omega
      subst this
      rw [m4 _ (by omega), r1]
      intro z
      have := (nI_eq (by omega) (by omega)).mp z
      omega
    · rw [c4 o x (by omega) (by omega) (by omega) (by omega)]
    · exact FM_tr fm (TM_FM tm4 (fun k hk => m4 k (by omega)))
  · left
    obtain ⟨C3, e3, f7, f8, kc3⟩ := takes6n pc2 ht (by omega) hT hi2 (k := 37) (by omega) c
    obtain ⟨M3, e5, g8, fm3⟩ := end_n qm2 ht em2 c
    refine ⟨C3, 1, i2, M3, J2, ?_, e5, by omega, by omega, f7, f8, g8, FC_tr (fun o x _ => hC o x) (KC_FC kc3), FM_tr fm fm3⟩
    rw [show fX1_takes 37 C2 = _ from e3, bdE, prE, gi_pos (show nI 0 = (0 : Int32) from rfl)]
    rfl
/-- behind a clause's first word -/
def HST (tk tv tp ep : Nat → Nat) (B : gI) (t lw i cn n m s : Nat) (b' : Nat → Nat) (C M C1 M3 : gI) (J3 : gJ) : Prop :=
  PC tk tv tp t lw (i + 1) cn C1 ∧ (∀ o, o ≠ 275 → C1 o = C o) ∧ QM tk tv tp ep B t (i + 1) n M3 J3 ∧ (∀ o, o ≠ 0 → o ≠ 3 → M3 o = M o) ∧ (∀ k, k < 7 ∨ 19 < k → M3 0 k = M 0 k) ∧ M3 3 = wI M 3 (681 * t + (1 + 3 * m)) (nI s) 3 ∧ M3 0 14 = nI s ∧ M3 0 19 = nI (b' 0 + 2 * b' 1)
theorem HST_FM {lw s : Nat} {b' : Nat → Nat} {C1 M3 : gI} {J3 : gJ} (h : HST tk tv tp ep B t lw i cn n m s b' C M C1 M3 J3) (hm : m < 24) : FC t C C1 ∧ FM t M M3 := by
  obtain ⟨_, h2, _, h4, h5, h6, _, _⟩ := h
  exact ⟨fun o x _ => h2 o x, fun o x y _ => h4 o x y, h5, fun k hk => by rw [h6]; exact wI_ne (by omega)⟩
/-- a clause of one number -/
theorem one_cl (hN : NXT tk tv tp ep B K) (hT : toksOK tk tv tp K) (ht : t < 4) (hK : K ≤ 300) (hE : tk K = 40) (cst : CST tk tv tp ep B t K law i cn n m b C M J) (hm24 : m < 24) (hi : i < K) {lw s k lo hi' : Nat} {C1 M3 : gI} {J3 : gJ} (hs : 2 ≤ s) (hs8 : s < 8) (hd : HST tk tv tp ep B t lw i cn n m s b C M C1 M3 J3) (hlo : lo ≤ 9999) (hhi : hi' ≤ 9999) (hcl : ∀ v y, lo ≤ v → v ≤ hi' → rCl (nI k) (nI v) (nI 0) (nI s) (nI v) y) : CRES tk tv tp ep B t K m C M (fX1_oneNumber (nI k) (nI lo) (nI hi') C1) (bd (fX7_figure (nI (681 * t + (1 + 3 * m)) + 1) (nI lo) (nI hi') M3 J3) (pr (fun (u27 : Int32) => pr (fun (I28 : gI) (J29 : gJ) => endC u27 I28 J29)))) := by
  obtain ⟨fc1, fm3⟩ := HST_FM hd hm24
  obtain ⟨h1, h2, h3, h4, h5, h6, h7, h8⟩ := hd
  rw [show nI (681 * t + (1 + 3 * m)) + (1 : Int32) = nI (681 * t + (2 + 3 * m)) by rw [show (1 : Int32) = nI 1 from rfl, addN]; exact congrArg nI (by omega)]
  unfold fX1_oneNumber
  rcases num_cl hN hT ht hK hE h1 h3 (by omega) (lo := lo) (hi' := hi') (y := 681 * t + (2 + 3 * m)) hlo hhi (by omega) with ⟨C', f, e, f7, f8, kc, f0, f1, eM⟩ | ⟨v, M4, J4, v1, v2, iK, e, eM, qm4, tm4, r4⟩
  · left
    rw [e, bdE, prE, gi_pos (show oI 0 = (-1 : Int32) from rfl), eM, bdE, prE, prE, end_f f0 f1]
    exact ⟨C', f, i + 1, M3, J3, rfl, rfl, f0, f1, f7, f8, h3.1.2.1, FC_tr fc1 (KC_FC kc), fm3⟩
  · rw [e, bdE, prE, gi_neg (show ¬ nI v = (-1 : Int32) from nI_none (by omega)), eM, bdE, prE, prE]
    obtain ⟨pc2, _⟩ := PC_on h1 ht
    refine num_end hN hT ht hK hE cst hm24 (by omega) (by omega) pc2 (fun o x => by rw [wI_o x]; exact h2 o x) qm4 (fun o x y => (tm4.1 o x y).trans (h4 o x y)) (fun k hk => (tm4.2 k (by omega)).trans (h5 k hk)) ((tm4.2 19 (by omega)).trans h8) hs hs8 ?_ (fun k k1 k2 k3 => ?_) ?_
    · rw [r4, wI_ne (by omega), h6]; exact wI_eq
    · rw [r4, wI_ne (by omega), h6]; exact wI_ne (by omega)
    · rw [show M4 3 (681 * t + (2 + 3 * m)) = nI v by rw [r4]; exact wI_eq]
      exact hcl v _ v1 v2
/-- buyer .. to .. -/
theorem buyer_cl (hN : NXT tk tv tp ep B K) (hT : toksOK tk tv tp K) (ht : t < 4) (hK : K ≤ 300) (hE : tk K = 40) (cst : CST tk tv tp ep B t K law i cn n m b C M J) (hm24 : m < 24) (hi : i < K) {lw : Nat} {C1 M3 : gI} {J3 : gJ} (hd : HST tk tv tp ep B t lw i cn n m 2 b C M C1 M3 J3) : CRES tk tv tp ep B t K m C M (fX1_twoNumbers (nI 2) (nI 11) (nI 3) (nI 11) C1) (bd (fX7_buyerClause (nI (681 * t + (1 + 3 * m))) M3 J3) (pr (fun (u27 : Int32) => pr (fun (I28 : gI) (J29 : gJ) => endC u27 I28 J29)))) := by
  obtain ⟨fc1, fm3⟩ := HST_FM hd hm24
  obtain ⟨h1, h2, h3, h4, h5, h6, h7, h8⟩ := hd
  have x1 : nI (681 * t + (1 + 3 * m)) + (1 : Int32) = nI (681 * t + (2 + 3 * m)) := by rw [show (1 : Int32) = nI 1 from rfl, addN]; exact congrArg nI (by omega)
  have x2 : nI (681 * t + (1 + 3 * m)) + (2 : Int32) = nI (681 * t + (3 + 3 * m)) := by rw [show (2 : Int32) = nI 2 from rfl, addN]; exact congrArg nI (by omega)
  unfold fX1_twoNumbers fX7_buyerClause
  rw [x1, x2]
  rcases num_cl hN hT ht hK hE h1 h3 (by omega) (lo := 0) (hi' := 11) (y := 681 * t + (2 + 3 * m)) (by omega) (by omega) (by omega) with ⟨C', f, e, f7, f8, kc, f0, f1, eM⟩ | ⟨v, M4, J4, v1, v3, iK, e, eM, qm4, tm4, r4⟩
  · left
    rw [show fX1_number 0 (nI 11) C1 = some (oI 0, C') from e, bdE, prE, gi_pos (show oI 0 = (-1 : Int32) from rfl), show fX7_figure (nI (681 * t + (2 + 3 * m))) 0 11 M3 J3 = some (nI f, M3, J3) from eM, bdE, prE, prE, gi_neg (show ¬ nI f = (0 : Int32) from fun z => by have := (nI_eq (a := f) (b := 0) (by omega) (by omega)).mp z; omega), bdE, prE, prE, end_f f0 f1]
    exact ⟨C', f, i + 1, M3, J3, rfl, rfl, f0, f1, f7, f8, h3.1.2.1, FC_tr fc1 (KC_FC kc), fm3⟩
  rw [show fX1_number 0 (nI 11) C1 = _ from e, bdE, prE, gi_neg (show ¬ nI v = (-1 : Int32) from nI_none (by omega)), show fX7_figure (nI (681 * t + (2 + 3 * m))) 0 11 M3 J3 = _ from eM, bdE, prE, prE, gi_pos (show nI 0 = (0 : Int32) from rfl), wd_to]
  obtain ⟨pc2, kc2⟩ := PC_on h1 ht
  have fm4 : FM t M M4 := FM_tr fm3 (TM_FM tm4 (fun k hk => by rw [r4]; exact wI_ne (by omega)))
  by_cases c : tk (i + 1 + 1) = 3
  · have i2K := ltK hE (by omega) (show ¬ tk (i + 1 + 1) = 40 by omega)
    have tt := takes6p pc2 ht (by omega) c
    obtain ⟨pc3, kc3⟩ := PC_on pc2 ht
    obtain ⟨M5, J5, e5, qm5, tm5, r5⟩ := qx7 hN qm4 i2K (by omega)
    rw [tt, bdE, prE, gi_neg (show ¬ nI 1 = (0 : Int32) from one_ne), lzE, gi_pos (show nI 2 = (2 : Int32) from rfl), isW_p qm4.1.2.2 (by omega) c, gi_neg (show ¬ nI 1 = (0 : Int32) from one_ne), e5, bdE, prE]
    have fm5 : FM t M M5 := FM_tr fm4 (TM_FM tm5 (fun k hk => by rw [r5]))
    have r5v : M5 3 (681 * t + (2 + 3 * m)) = nI v := by rw [r5, r4]; exact wI_eq
    rw [gdN (show 681 * t + (2 + 3 * m) < 2724 by omega) (by omega), clN (show 681 * t + (2 + 3 * m) < 2147483648 by omega), r5v]
    rcases num_cl hN hT ht hK hE pc3 qm5 (by omega) (lo := v) (hi' := 11) (y := 681 * t + (3 + 3 * m)) (by omega) (by omega) (by omega) with ⟨C', f, e', f7, f8, kc, f0, f1, eM'⟩ | ⟨w, M6, J6, w1, w2, iK2, e', eM', qm6, tm6, r6⟩
    · left
      rw [show fX7_figure (nI (681 * t + (3 + 3 * m))) (nI v) 11 M5 J5 = some (nI f, M5, J5) from eM', bdE, prE, prE, bdE, prE, prE, end_f f0 f1]
      refine ⟨C', f, i + 1 + 1 + 1, M5, J5, ?_, rfl, f0, f1, f7, f8, qm5.1.2.1, FC_tr (FC_tr (FC_tr fc1 (KC_FC kc2)) (KC_FC kc3)) (KC_FC kc), fm5⟩
      show bd (fX1_number (nI v) (nI 11) _) _ = _
      rw [e', bdE, prE, gi_pos (show oI 0 = (-1 : Int32) from rfl)]
      rfl
    · obtain ⟨pc4, kc4⟩ := PC_on pc3 ht
      rw [show fX7_figure (nI (681 * t + (3 + 3 * m))) (nI v) 11 M5 J5 = _ from eM', bdE, prE, prE, bdE, prE, prE]
      have row2 : M6 3 (681 * t + (2 + 3 * m)) = nI v := by rw [r6, wI_ne (by omega)]; exact r5v
      have row3 : M6 3 (681 * t + (3 + 3 * m)) = nI w := by rw [r6]; exact wI_eq
      have ne := num_end (k6 := nI 2) (x6 := nI v) (y6 := nI w) (s := 2) hN hT ht hK hE cst hm24 (by omega) (by omega) pc4 (fun o x => by rw [wI_o x, wI_o x, wI_o x]; exact h2 o x) qm6 (fun o x y => (tm6.1 o x y).trans ((tm5.1 o x y).trans ((tm4.1 o x y).trans (h4 o x y)))) (fun k hk => (tm6.2 k (by omega)).trans ((tm5.2 k (by omega)).trans ((tm4.2 k (by omega)).trans (h5 k hk)))) ((tm6.2 19 (by omega)).trans ((tm5.2 19 (by omega)).trans ((tm4.2 19 (by omega)).trans h8))) (by omega) (by omega) (by rw [r6, wI_ne (by omega), r5, r4, wI_ne (by omega), h6]; exact wI_eq) (fun k k1 k2 k3 => by rw [r6, wI_ne (by omega), r5, r4, wI_ne (by omega), h6]; exact wI_ne (by omega)) (by
        rw [row2, row3]
        exact Or.inl ⟨v, w, w1, by omega, rfl, rfl, rfl, rfl, rfl, rfl⟩)
      have en : bd (fX1_number (nI v) (nI 11) (wI (wI C1 275 4 (nI (i + 1 + 1))) 275 4 (nI (i + 1 + 1 + 1)))) (pr (fun (u15 : Int32) (I16 : gI) => gi (u15 = -1) (some ((0 : Int32), I16)) (bd (fX1_takes (37 : Int32) I16) (pr (fun (u20 : Int32) (I21 : gI) => gi (u20 = 0) (some ((0 : Int32), I21)) (gd (gAt LC (I21 275 6).toNatClampNeg 0 3) (bd (fX3_add ((I21 275 6).toNatClampNeg) (nI 2) (nI v) u15 I21) (fun (I26 : gI) => some ((1 : Int32), I26))))))))) = bd (fX1_takes (37 : Int32) (wI (wI (wI C1 275 4 (nI (i + 1 + 1))) 275 4 (nI (i + 1 + 1 + 1))) 275 4 (nI (i + 1 + 1 + 1 + 1)))) (pr (fun (u20 : Int32) (I21 : gI) => gi (u20 = 0) (some ((0 : Int32), I21)) (gd (gAt LC (I21 275 6).toNatClampNeg 0 3) (bd (fX3_add ((I21 275 6).toNatClampNeg) (nI 2) (nI v) (nI w) I21) (fun (I26 : gI) => some ((1 : Int32), I26)))))) := by
        rw [e', bdE, prE, gi_neg (show ¬ nI w = (-1 : Int32) from nI_none (by omega))]
      rw [← en] at ne
      exact ne
  · left
    obtain ⟨C3, e3, f7, f8, kc3⟩ := takes6n pc2 ht (by omega) hT (by omega) (k := 3) (by omega) c
    rw [e3, bdE, prE, gi_pos (show nI 0 = (0 : Int32) from rfl), isW_n qm4.1.2.2 (by omega) c, gi_pos (show nI 0 = (0 : Int32) from rfl), bdE, prE, prE, show (1 : Int32) = nI 1 from rfl, end_f (by omega) (by omega)]
    exact ⟨C3, 1, i + 1 + 1, M4, J4, rfl, rfl, by omega, by omega, f7, f8, qm4.1.2.1, FC_tr (FC_tr fc1 (KC_FC kc2)) (KC_FC kc3), fm4⟩
/-- sort .. by .. -/
theorem sort_cl (hN : NXT tk tv tp ep B K) (hT : toksOK tk tv tp K) (ht : t < 4) (hK : K ≤ 300) (hE : tk K = 40) (cst : CST tk tv tp ep B t K law i cn n m b C M J) (hm24 : m < 24) (hi : i < K) {lw : Nat} {C1 M3 : gI} {J3 : gJ} (hd : HST tk tv tp ep B t lw i cn n m 3 b C M C1 M3 J3) : CRES tk tv tp ep B t K m C M (fX1_twoNumbers (nI 4) (nI 4) (nI 5) (nI 9) C1) (bd (fX7_sortClause (nI (681 * t + (1 + 3 * m))) M3 J3) (pr (fun (u27 : Int32) => pr (fun (I28 : gI) (J29 : gJ) => endC u27 I28 J29)))) := by
  obtain ⟨fc1, fm3⟩ := HST_FM hd hm24
  obtain ⟨h1, h2, h3, h4, h5, h6, h7, h8⟩ := hd
  have x1 : nI (681 * t + (1 + 3 * m)) + (1 : Int32) = nI (681 * t + (2 + 3 * m)) := by rw [show (1 : Int32) = nI 1 from rfl, addN]; exact congrArg nI (by omega)
  have x2 : nI (681 * t + (1 + 3 * m)) + (2 : Int32) = nI (681 * t + (3 + 3 * m)) := by rw [show (2 : Int32) = nI 2 from rfl, addN]; exact congrArg nI (by omega)
  unfold fX1_twoNumbers fX7_sortClause
  rw [x1, x2]
  rcases num_cl hN hT ht hK hE h1 h3 (by omega) (lo := 0) (hi' := 4) (y := 681 * t + (2 + 3 * m)) (by omega) (by omega) (by omega) with ⟨C', f, e, f7, f8, kc, f0, f1, eM⟩ | ⟨v, M4, J4, v1, v3, iK, e, eM, qm4, tm4, r4⟩
  · left
    rw [show fX1_number 0 (nI 4) C1 = some (oI 0, C') from e, bdE, prE, gi_pos (show oI 0 = (-1 : Int32) from rfl), show fX7_figure (nI (681 * t + (2 + 3 * m))) 0 4 M3 J3 = some (nI f, M3, J3) from eM, bdE, prE, prE, gi_neg (show ¬ nI f = (0 : Int32) from fun z => by have := (nI_eq (a := f) (b := 0) (by omega) (by omega)).mp z; omega), bdE, prE, prE, end_f f0 f1]
    exact ⟨C', f, i + 1, M3, J3, rfl, rfl, f0, f1, f7, f8, h3.1.2.1, FC_tr fc1 (KC_FC kc), fm3⟩
  rw [show fX1_number 0 (nI 4) C1 = _ from e, bdE, prE, gi_neg (show ¬ nI v = (-1 : Int32) from nI_none (by omega)), show fX7_figure (nI (681 * t + (2 + 3 * m))) 0 4 M3 J3 = _ from eM, bdE, prE, prE, gi_pos (show nI 0 = (0 : Int32) from rfl), wd_by]
  obtain ⟨pc2, kc2⟩ := PC_on h1 ht
  have fm4 : FM t M M4 := FM_tr fm3 (TM_FM tm4 (fun k hk => by rw [r4]; exact wI_ne (by omega)))
  by_cases c : tk (i + 1 + 1) = 5
  · have i2K := ltK hE (by omega) (show ¬ tk (i + 1 + 1) = 40 by omega)
    have tt := takes6p pc2 ht (by omega) c
    obtain ⟨pc3, kc3⟩ := PC_on pc2 ht
    obtain ⟨M5, J5, e5, qm5, tm5, r5⟩ := qx7 hN qm4 i2K (by omega)
    rw [tt, bdE, prE, gi_neg (show ¬ nI 1 = (0 : Int32) from one_ne), lzE, gi_neg (show ¬ nI 4 = (2 : Int32) by decide), isW_p qm4.1.2.2 (by omega) c, gi_neg (show ¬ nI 1 = (0 : Int32) from one_ne), e5, bdE, prE]
    have fm5 : FM t M M5 := FM_tr fm4 (TM_FM tm5 (fun k hk => by rw [r5]))
    have r5v : M5 3 (681 * t + (2 + 3 * m)) = nI v := by rw [r5, r4]; exact wI_eq
    skip
    rcases num_cl hN hT ht hK hE pc3 qm5 (by omega) (lo := 0) (hi' := 9) (y := 681 * t + (3 + 3 * m)) (by omega) (by omega) (by omega) with ⟨C', f, e', f7, f8, kc, f0, f1, eM'⟩ | ⟨w, M6, J6, w1, w2, iK2, e', eM', qm6, tm6, r6⟩
    · left
      rw [show fX7_figure (nI (681 * t + (3 + 3 * m))) 0 9 M5 J5 = some (nI f, M5, J5) from eM', bdE, prE, prE, bdE, prE, prE, end_f f0 f1]
      refine ⟨C', f, i + 1 + 1 + 1, M5, J5, ?_, rfl, f0, f1, f7, f8, qm5.1.2.1, FC_tr (FC_tr (FC_tr fc1 (KC_FC kc2)) (KC_FC kc3)) (KC_FC kc), fm5⟩
      show bd (fX1_number (nI 0) (nI 9) _) _ = _
      rw [e', bdE, prE, gi_pos (show oI 0 = (-1 : Int32) from rfl)]
      rfl
    · obtain ⟨pc4, kc4⟩ := PC_on pc3 ht
      rw [show fX7_figure (nI (681 * t + (3 + 3 * m))) 0 9 M5 J5 = _ from eM', bdE, prE, prE, bdE, prE, prE]
      have row2 : M6 3 (681 * t + (2 + 3 * m)) = nI v := by rw [r6, wI_ne (by omega)]; exact r5v
      have row3 : M6 3 (681 * t + (3 + 3 * m)) = nI w := by rw [r6]; exact wI_eq
      have ne := num_end (k6 := nI 4) (x6 := nI v) (y6 := nI w) (s := 3) hN hT ht hK hE cst hm24 (by omega) (by omega) pc4 (fun o x => by rw [wI_o x, wI_o x, wI_o x]; exact h2 o x) qm6 (fun o x y => (tm6.1 o x y).trans ((tm5.1 o x y).trans ((tm4.1 o x y).trans (h4 o x y)))) (fun k hk => (tm6.2 k (by omega)).trans ((tm5.2 k (by omega)).trans ((tm4.2 k (by omega)).trans (h5 k hk)))) ((tm6.2 19 (by omega)).trans ((tm5.2 19 (by omega)).trans ((tm4.2 19 (by omega)).trans h8))) (by omega) (by omega) (by rw [r6, wI_ne (by omega), r5, r4, wI_ne (by omega), h6]; exact wI_eq) (fun k k1 k2 k3 => by rw [r6, wI_ne (by omega), r5, r4, wI_ne (by omega), h6]; exact wI_ne (by omega)) (by
        rw [row2, row3]
        exact Or.inr (Or.inl ⟨v, w, by omega, by omega, rfl, rfl, rfl, rfl, rfl, rfl⟩))
      have en : bd (fX1_number (nI 0) (nI 9) (wI (wI C1 275 4 (nI (i + 1 + 1))) 275 4 (nI (i + 1 + 1 + 1)))) (pr (fun (u15 : Int32) (I16 : gI) => gi (u15 = -1) (some ((0 : Int32), I16)) (bd (fX1_takes (37 : Int32) I16) (pr (fun (u20 : Int32) (I21 : gI) => gi (u20 = 0) (some ((0 : Int32), I21)) (gd (gAt LC (I21 275 6).toNatClampNeg 0 3) (bd (fX3_add ((I21 275 6).toNatClampNeg) (nI 4) (nI v) u15 I21) (fun (I26 : gI) => some ((1 : Int32), I26))))))))) = bd (fX1_takes (37 : Int32) (wI (wI (wI C1 275 4 (nI (i + 1 + 1))) 275 4 (nI (i + 1 + 1 + 1))) 275 4 (nI (i + 1 + 1 + 1 + 1)))) (pr (fun (u20 : Int32) (I21 : gI) => gi (u20 = 0) (some ((0 : Int32), I21)) (gd (gAt LC (I21 275 6).toNatClampNeg 0 3) (bd (fX3_add ((I21 275 6).toNatClampNeg) (nI 4) (nI v) (nI w) I21) (fun (I26 : gI) => some ((1 : Int32), I26)))))) := by
        rw [e', bdE, prE, gi_neg (show ¬ nI w = (-1 : Int32) from nI_none (by omega))]
      rw [← en] at ne
      exact ne
  · left
    obtain ⟨C3, e3, f7, f8, kc3⟩ := takes6n pc2 ht (by omega) hT (by omega) (k := 5) (by omega) c
    rw [e3, bdE, prE, gi_pos (show nI 0 = (0 : Int32) from rfl), isW_n qm4.1.2.2 (by omega) c, gi_pos (show nI 0 = (0 : Int32) from rfl), bdE, prE, prE, show (1 : Int32) = nI 1 from rfl, end_f (by omega) (by omega)]
    exact ⟨C3, 1, i + 1 + 1, M4, J4, rfl, rfl, by omega, by omega, f7, f8, qm4.1.2.1, FC_tr (FC_tr fc1 (KC_FC kc2)) (KC_FC kc3), fm4⟩
/-- a law -/
theorem law_cl (hN : NXT tk tv tp ep B K) (hT : toksOK tk tv tp K) (h38 : ∀ j, j ≤ K → ¬ tk j = 38) (ht : t < 4) (hK : K ≤ 300) (hE : tk K = 40) (cst : CST tk tv tp ep B t K law i cn n m b C M J) (hm24 : m < 24) (hi : i < K) {l : Nat} (hl : l < 2) (hbl : b l = 0) {C1 M3 : gI} {J3 : gJ} (hd : HST tk tv tp ep B t l i cn n m l (fun q => if q = l then 1 else b q) C M C1 M3 J3) : CRES tk tv tp ep B t K m C M (fX1_lawClause (nI l) C1) (bd (fX7_lawClause (nI (681 * t + (1 + 3 * m))) M3 J3) (pr (fun (u27 : Int32) => pr (fun (I28 : gI) (J29 : gJ) => endC u27 I28 J29)))) := by
  obtain ⟨fc1, fm3⟩ := HST_FM hd hm24
  obtain ⟨h1, h2, h3, h4, h5, h6, h7, h8⟩ := hd
  obtain ⟨pc, qm, ⟨b1, b2, b3, b4⟩, ⟨e7, em⟩, rows, hb, laws⟩ := cst
  have x1 : nI (681 * t + (1 + 3 * m)) + (1 : Int32) = nI (681 * t + (2 + 3 * m)) := by rw [show (1 : Int32) = nI 1 from rfl, addN]; exact congrArg nI (by omega)
  have x2 : nI (681 * t + (1 + 3 * m)) + (2 : Int32) = nI (681 * t + (3 + 3 * m)) := by rw [show (2 : Int32) = nI 2 from rfl, addN]; exact congrArg nI (by omega)
  obtain ⟨A, hA⟩ : ∃ A, A = wI M3 3 (681 * t + (2 + 3 * m)) (nI n) := ⟨_, rfl⟩
  have qA : QM tk tv tp ep B t (i + 1) n A J3 := by
    rw [hA]
    obtain ⟨⟨g1, g2, g3⟩, ⟨g4, g5⟩, g6, g7⟩ := h3
    refine ⟨?_, ?_, ?_, ?_⟩
    · simp (disch := omega) only [wI_o]; exact ⟨g1, g2, g3⟩
    · simp (disch := omega) only [wI_o]; exact ⟨g4, g5⟩
    · simp (disch := omega) only [wI_o]; exact g6
    · simp (disch := omega) only [wI_o]; exact g7
  have a14 : A 0 14 = nI l := by rw [hA, wI_o (by omega)]; exact h7
  have a3 : ∀ k, k ≠ 681 * t + (2 + 3 * m) → k ≠ 681 * t + (1 + 3 * m) → A 3 k = M 3 k := fun k k1 k2 => by rw [hA, wI_ne (by omega), h6]; exact wI_ne (by omega)
  have fmA : FM t M A := FM_tr fm3 (by rw [hA]; exact ⟨fun o _ y _ => wI_o y, fun k _ => by rw [wI_o (by omega)], fun k hk => wI_ne (by omega)⟩)
  have eL : ∀ u Mf Jf, fX7_summed A J3 = some (u, Mf, Jf) → fX7_lawClause (nI (681 * t + (1 + 3 * m))) M3 J3 = some (u, wI Mf 3 (681 * t + (3 + 3 * m)) (Mf 0 13), Jf) := by
    intro u Mf Jf e
    unfold fX7_lawClause
    rw [x1, x2, gdN (by omega) (by omega), clN (by omega), h3.2.2.2, lzE, ← hA, e, bdE, prE, prE, gdN (by omega) (by omega), clN (by omega), lzE]
  have u2 : C1 (296 + 8 * t) 8 = nI cn := h1.2.2.2.1
  unfold fX1_lawClause
  rw [h1.2.2.1, gAn ht, clN (by omega), u2, lzE]
  rcases top_sum hN hT h38 ht hl hK hE h1 qA a14 (by omega) (by omega) (by omega) with ⟨C', f, j, Mf, Jf, e, f7, f8, kc, f0, f1, eS, q8, km⟩ | ⟨C2, i2, cn2, d, n2, M2, J2, e, a1, a2, pc2, kc2, a4, a5, a6, a7, a8, eS, qm2, km2, cor2⟩
  · left
    rw [e, bdE, prE, gi_pos (show nI 0 = (0 : Int32) from rfl), eL _ _ _ eS, bdE, prE, prE, end_f f0 f1]
    refine ⟨C', f, j, _, Jf, rfl, rfl, f0, f1, f7, f8, ?_, FC_tr fc1 (KC_FC kc), FM_tr (FM_tr fmA (KM_FM km)) ⟨fun o _ y _ => wI_o y, fun k _ => by rw [wI_o (by omega)], fun k hk => wI_ne (by omega)⟩⟩
    rw [wI_o (by omega)]; exact q8
  rw [e, bdE, prE, gi_neg (show ¬ nI 1 = (0 : Int32) from one_ne), eL _ _ _ eS, bdE, prE, prE, qm2.2.2.2]
  obtain ⟨M5, hM5⟩ : ∃ M5, M5 = wI M2 3 (681 * t + (3 + 3 * m)) (nI n2) := ⟨_, rfl⟩
  rw [← hM5]
  have qm5 : QM tk tv tp ep B t i2 n2 M5 J2 := by
    rw [hM5]
    obtain ⟨⟨g1, g2, g3⟩, ⟨g4, g5⟩, g6, g7⟩ := qm2
    refine ⟨?_, ?_, ?_, ?_⟩
    · simp (disch := omega) only [wI_o]; exact ⟨g1, g2, g3⟩
    · simp (disch := omega) only [wI_o]; exact ⟨g4, g5⟩
    · simp (disch := omega) only [wI_o]; exact g6
    · simp (disch := omega) only [wI_o]; exact g7
  have m5 : ∀ k, k ≠ 681 * t + (3 + 3 * m) → M5 3 k = M2 3 k := fun k hk => by rw [hM5]; exact wI_ne (by omega)
  have fm5 : FM t M M5 := FM_tr (FM_tr fmA (KM_FM km2)) (by rw [hM5]; exact ⟨fun o _ y _ => wI_o y, fun k _ => by rw [wI_o (by omega)], fun k hk => wI_ne (by omega)⟩)
  have m2 : ∀ k, k < 681 * t + 73 + 2 * n → k ≠ 681 * t + (2 + 3 * m) → k ≠ 681 * t + (1 + 3 * m) → M2 3 k = M 3 k := fun k k1 k2 k3 => (km2.2.2 k (Or.inl k1)).trans (a3 k k2 k3)
  have em5 : M5 3 (681 * t) = nI m := by rw [m5 _ (by omega), m2 _ (by omega) (by omega) (by omega)]; exact em
  by_cases c : tk i2 = 37
  · right
    have i2K := ltK hE a2 (by omega)
    have t37 := takes6p pc2 ht (by omega) c
    obtain ⟨pc3, kc3⟩ := PC_on pc2 ht
    obtain ⟨C3, hC3⟩ : ∃ C3, C3 = wI C2 275 4 (nI (i2 + 1)) := ⟨_, rfl⟩
    rw [← hC3] at pc3 kc3 t37
    obtain ⟨C4, hC4⟩ : ∃ C4, C4 = wI (wI C3 (296 + 8 * t + 6) l (nI cn)) (296 + 8 * t + 7) l (nI cn2) := ⟨_, rfl⟩
    have pc4 : PC tk tv tp t l (i2 + 1) cn2 C4 := by
      obtain ⟨g1, g2, g3, g4, g5, g7, g8⟩ := pc3
      rw [hC4]
      refine ⟨?_, ?_, ?_, ?_, fun j hj => ?_, ?_, ?_⟩
      · simp (disch := omega) only [wI_o]; exact g1
      · simp (disch := omega) only [wI_o]; exact g2
      · simp (disch := omega) only [wI_o]; exact g3
      · simp (disch := omega) only [wI_o]; exact g4
      · simp (disch := omega) only [wI_o]; exact g5 j hj
      · simp (disch := omega) only [wI_o]; exact g7
      · simp (disch := omega) only [wI_o]; exact g8
    have k3 : ∀ o, o ≠ 275 → C3 o = C2 o := fun o ho => by rw [hC3]; exact wI_o ho
    have k4 : ∀ o, o ≠ 296 + 8 * t + 6 → o ≠ 296 + 8 * t + 7 → C4 o = C3 o := fun o o1 o2 => by rw [hC4, wI_o o2, wI_o o1]
    have c2 : ∀ k, k ≠ 8 → C2 (296 + 8 * t) k = C (296 + 8 * t) k := fun k hk => by rw [kc2.2.2.1 k hk, h2 _ (by omega)]
    have c2o : ∀ o, o ≠ 275 → o ≠ 296 + 8 * t → o ≠ 296 + 8 * t + 4 → o ≠ 296 + 8 * t + 5 → C2 o = C o := fun o o1 o2 o3 o4 => by rw [kc2.1 o o1 o2 o3 o4, h2 _ o1]
    have e74 : C4 (296 + 8 * t) 7 = nI m := by rw [k4 _ (by omega) (by omega), k3 _ (by omega), c2 7 (by omega)]; exact e7
    obtain ⟨C5, e5, pc5, g1, g2, ⟨g3, g4, g5⟩, g6⟩ := add6 pc4 ht e74 hm24 (nI l) 0 0
    obtain ⟨M6, J6, f6, qm6, tm6, r6⟩ := end_p hN qm5 ht em5 i2K c
    have m6 : ∀ k, k ≠ 681 * t → M6 3 k = M5 3 k := fun k hk => by rw [r6]; exact wI_ne (by omega)
    have m62 : ∀ k, k ≠ 681 * t → k ≠ 681 * t + (3 + 3 * m) → M6 3 k = M2 3 k := fun k k1 k2 => (m6 k k1).trans (m5 k k2)
    have m6M : ∀ k, k < 681 * t + 73 + 2 * n → k ≠ 681 * t → k ≠ 681 * t + (3 + 3 * m) → k ≠ 681 * t + (2 + 3 * m) → k ≠ 681 * t + (1 + 3 * m) → M6 3 k = M 3 k := fun k k0 k1 k2 k3 k4 => (m62 k k1 k2).trans (m2 k k0 k3 k4)
    have row1 : M6 3 (681 * t + (1 + 3 * m)) = nI l := by
      rw [m62 _ (by omega) (by omega), km2.2.2 _ (by omega), hA, wI_ne (by omega), h6]
      exact wI_eq
    have row2 : M6 3 (681 * t + (2 + 3 * m)) = nI n := by
      rw [m62 _ (by omega) (by omega), km2.2.2 _ (by omega), hA]
      exact wI_eq
    have row3 : M6 3 (681 * t + (3 + 3 * m)) = nI n2 := by
      rw [m6 _ (by omega), hM5]
      exact wI_eq
    have c5 : ∀ o, o ≠ 296 + 8 * t → o ≠ 296 + 8 * t + 1 → o ≠ 296 + 8 * t + 2 → o ≠ 296 + 8 * t + 3 → o ≠ 275 → o ≠ 296 + 8 * t + 6 → o ≠ 296 + 8 * t + 7 → C5 o = C2 o := fun o o1 o2 o3 o4 o5 o6 o7 => by rw [g6 o o1 o2 o3 o4, k4 o o6 o7, k3 o o5]
    have c5r : ∀ q, C5 (296 + 8 * t + q) = C4 (296 + 8 * t + q) ∨ q < 4 := fun q => by
      by_cases z : q < 4
      · exact Or.inr z
      · exact Or.inl (g6 _ (by omega) (by omega) (by omega) (by omega))
    have s6 : ∀ q, q ≠ l → C5 (296 + 8 * t + 6) q = C (296 + 8 * t + 6) q ∧ C5 (296 + 8 * t + 7) q = C (296 + 8 * t + 7) q := fun q hq => by
      rw [g6 _ (by omega) (by omega) (by omega) (by omega), g6 _ (by omega) (by omega) (by omega) (by omega), hC4, wI_o (by omega), wI_ne (by omega), wI_ne (by omega), wI_o (by omega), k3 _ (by omega), k3 _ (by omega), c2o _ (by omega) (by omega) (by omega) (by omega), c2o _ (by omega) (by omega) (by omega) (by omega)]
      exact ⟨rfl, rfl⟩
    have s6l : C5 (296 + 8 * t + 6) l = nI cn ∧ C5 (296 + 8 * t + 7) l = nI cn2 := by
      rw [g6 _ (by omega) (by omega) (by omega) (by omega), g6 _ (by omega) (by omega) (by omega) (by omega), hC4, wI_o (by omega)]
      exact ⟨wI_eq, wI_eq⟩
    have c45 : ∀ a, C5 (296 + 8 * t + 4) a = C2 (296 + 8 * t + 4) a ∧ C5 (296 + 8 * t + 5) a = C2 (296 + 8 * t + 5) a := fun a => by
      rw [c5 _ (by omega) (by omega) (by omega) (by omega) (by omega) (by omega) (by omega), c5 _ (by omega) (by omega) (by omega) (by omega) (by omega) (by omega) (by omega)]
      exact ⟨rfl, rfl⟩
    refine ⟨C5, i2 + 1, cn2, n2, (fun q => if q = l then 1 else b q), l, M6, J6, ?_, f6, ⟨pc5, qm6, ⟨by omega, by omega, by omega, by omega⟩, ⟨g1, by rw [r6]; exact wI_eq⟩, fun c hc => ?_, ?_, fun l' hl' => ?_⟩, fun o x y => ?_, FM_tr fm5 (TM_FM tm6 (fun k hk => m6 k (by omega)))⟩
    · have e35 : C3 275 5 = nI l := pc3.2.1
      have e36 : C3 275 6 = nI (296 + 8 * t) := pc3.2.2.1
      have e38 : C3 (296 + 8 * t) 8 = nI cn2 := pc3.2.2.2.1
      rw [show fX1_takes 37 C2 = some (nI 1, C3) from t37, bdE, prE, gi_neg (show ¬ nI 1 = (0 : Int32) from one_ne), e36, gAn ht, e35, gdN hl (by omega), clN (show 296 + 8 * t < 2147483648 by omega), clN (show l < 2147483648 by omega), lzE, wI_o (show (275 : Nat) ≠ 296 + 8 * t + 6 by omega), e36, gAn ht, e35, gdN hl (by omega), clN (show 296 + 8 * t < 2147483648 by omega), clN (show l < 2147483648 by omega), wI_o (show 296 + 8 * t ≠ 296 + 8 * t + 6 by omega), e38, lzE, ← hC4, pc4.2.2.1, gAn ht, clN (show 296 + 8 * t < 2147483648 by omega), e5, bdE]
      rfl
    · by_cases z : c = m
      · subst z
        rw [g3, row1]
        exact Or.inr (Or.inr (Or.inr (Or.inr (Or.inr (Or.inr ⟨l, hl, rfl, rfl⟩)))))
      · obtain ⟨u1, u2, u3⟩ := g2 c (by omega)
        rw [u1, u2, u3, k4 _ (by omega) (by omega), k4 _ (by omega) (by omega), k4 _ (by omega) (by omega), k3 _ (by omega), k3 _ (by omega), k3 _ (by omega), c2o _ (by omega) (by omega) (by omega) (by omega), c2o _ (by omega) (by omega) (by omega) (by omega), c2o _ (by omega) (by omega) (by omega) (by omega), m6M _ (by omega) (by omega) (by omega) (by omega) (by omega), m6M _ (by omega) (by omega) (by omega) (by omega) (by omega), m6M _ (by omega) (by omega) (by omega) (by omega) (by omega)]
        exact rows c (by omega)
    · have k19 : M2 0 19 = A 0 19 := km2.2.1 19 (by omega)
      rw [tm6.2 19 (by omega), hM5, wI_o (by omega), k19, hA, wI_o (by omega)]
      exact h8
    · by_cases z : l' = l
      · subst z
        right
        refine ⟨if_pos rfl, m, d, cn, cn2, n, n2, by omega, row1, fun c' hc' => ?_, by omega, a5, Nat.le_refl _, Nat.le_refl _, s6l.1, s6l.2, row2, row3, ?_⟩
        · rw [m6M _ (by omega) (by omega) (by omega) (by omega) (by omega)]
          rcases laws l' hl' with ⟨_, _, _, w⟩ | ⟨w, _⟩
          · exact w c' hc'
          · omega
        · refine (Cor_ag cor2).2.2 (fun a _ _ => c45 a) (fun a _ z2 => rC_ag (n := n2) (fun k k1 k2 => m62 k (by omega) (by omega)) z2)
      · refine LAW_keep (laws l' hl') (if_neg z) (by omega) (by omega) (by omega) (s6 l' z).1 (s6 l' z).2 (fun a ha => ?_) (fun k k1 k2 => m6M k (by omega) (by omega) (by omega) (by omega) (by omega)) (fun c hc => ⟨m6M _ (by omega) (by omega) (by omega) (by omega) (by omega), m6M _ (by omega) (by omega) (by omega) (by omega) (by omega), m6M _ (by omega) (by omega) (by omega) (by omega) (by omega)⟩) (fun c c1 c2 => ?_)
        · have w := kc2.2.2.2 a ha
          rw [(c45 a).1, (c45 a).2, w.1, w.2, h2 _ (by omega), h2 _ (by omega)]
          exact ⟨rfl, rfl⟩
        · have : c = m := by omega
          subst this
          rw [row1]
          intro w
          exact z ((nI_eq (by omega) (by omega)).mp w).symm
    · rw [c5 o (by omega) (by omega) (by omega) (by omega) x (by omega) (by omega), c2o o x (by omega) (by omega) (by omega)]
  · left
    obtain ⟨C3, e3, f7, f8, kc3⟩ := takes6n pc2 ht (by omega) hT a2 (k := 37) (by omega) c
    obtain ⟨M6, e6, g8, fm6⟩ := end_n qm5 ht em5 c
    refine ⟨C3, 1, i2, M6, J2, ?_, e6, by omega, by omega, f7, f8, g8, FC_tr (FC_tr fc1 (KC_FC kc2)) (KC_FC kc3), FM_tr fm5 fm6⟩
    rw [show fX1_takes 37 C2 = _ from e3, bdE, prE, gi_pos (show nI 0 = (0 : Int32) from rfl)]
    rfl
theorem PC_law {lw : Nat} (h : PC tk tv tp t law i cn C) : PC tk tv tp t lw i cn (wI C 275 5 (nI lw)) := by
  obtain ⟨h1, h2, h3, h4, h5, h7, h8⟩ := h
  refine ⟨by rw [wI_ne (by omega)]; exact h1, wI_eq, by rw [wI_ne (by omega)]; exact h3, ?_, fun j hj => ?_, by rw [wI_ne (by omega)]; exact h7, by rw [wI_ne (by omega)]; exact h8⟩
  · rw [wI_ne (by omega)]; exact h4
  · rw [wI_o (by omega), wI_o (by omega), wI_o (by omega)]; exact h5 j hj
/-- one clause -/
theorem clause_ok (hN : NXT tk tv tp ep B K) (hT : toksOK tk tv tp K) (h38 : ∀ j, j ≤ K → ¬ tk j = 38) (ht : t < 4) (hK : K ≤ 300) (hE : tk K = 40) (cst : CST tk tv tp ep B t K law i cn n m b C M J) (h40 : ¬ tk i = 40) : CRES tk tv tp ep B t K m C M (fX1_clause C) (fX7_clause M J) := by
  have cst' := cst
  obtain ⟨pc, qm, ⟨b1, b2, b3, b4⟩, ⟨e7, em⟩, rows, hb, laws⟩ := cst'
  have hi3 : i ≤ 300 := by omega
  have iK := ltK hE b1 h40
  have hk40 := (hT i b1).1
  have bl : ∀ l, l < 2 → b l = 0 ∨ b l = 1 := fun l hl => (laws l hl).imp (fun z => z.1) (fun z => z.1)
  have b01 : b 0 ≤ 1 := by have := bl 0 (by omega); omega
  have b11 : b 1 ≤ 1 := by have := bl 1 (by omega); omega
  by_cases hs : srt (tk i) = 0
  · left
    obtain ⟨C', e, f7, f8, kc⟩ := bad6 pc ht hi3 hk40 e7 hs
    exact ⟨C', 1, i, M, J, e, head7_1 qm hs, by omega, by omega, f7, f8, qm.1.2.1, KC_FC kc, FM_rf⟩
  obtain ⟨k, hk⟩ : ∃ k, tk i = k := ⟨_, rfl⟩
  rw [hk] at hs
  obtain ⟨s, hs1⟩ : ∃ s, srt k = s + 1 := ⟨srt k - 1, by omega⟩
  have hs2 : srt (tk i) = s + 1 := by rw [hk]; exact hs1
  have hkk : k = 0 ∨ k = 1 ∨ k = 2 ∨ k = 4 ∨ k = 6 ∨ k = 7 ∨ k = 8 ∨ k = 9 := by
    unfold srt at hs
    apply Decidable.byContradiction
    intro z
    rw [if_neg (by omega), if_neg (by omega), if_neg (by omega), if_neg (by omega), if_neg (by omega), if_neg (by omega), if_neg (by omega), if_neg (by omega)] at hs
    exact hs rfl
  have hss : (k = 0 ∧ s = 0) ∨ (k = 1 ∧ s = 1) ∨ (k = 2 ∧ s = 2) ∨ (k = 4 ∧ s = 3) ∨ (k = 6 ∧ s = 4) ∨ (k = 7 ∧ s = 5) ∨ (k = 8 ∧ s = 6) ∨ (k = 9 ∧ s = 7) := by
    rcases hkk with z | z | z | z | z | z | z | z <;> rw [z] at hs1 <;> simp [srt] at hs1 <;> omega
  obtain ⟨lw, hlw⟩ : ∃ lw, lw = if k = 1 then 1 else 0 := ⟨_, rfl⟩
  have lw2 : lw < 2 := by
    by_cases c : k = 1
    · rw [hlw, if_pos c]; omega
    · rw [hlw, if_neg c]; omega
  have lws : s < 2 → lw = s := fun z => by
    by_cases c : k = 1
    · rw [hlw, if_pos c]; omega
    · rw [hlw, if_neg c]; omega
  obtain ⟨r6, er6, e6⟩ := head6 pc ht hi3 e7 hk (by omega) (by omega) (by omega) hlw
  have pcl := PC_law (lw := lw) pc
  have fcl : FC t C (wI C 275 5 (nI lw)) := fun o x _ => wI_o x
  have q1 : s < 2 → ¬ (1 : Int32) < nI k := fun z w => by have := (ltN (a := 1) (b := k) (by omega) (by omega)).mp w; omega
  have q2 : ¬ s < 2 → (1 : Int32) < nI k := fun z => (ltN (a := 1) (b := k) (by omega) (by omega)).mpr (by omega)
  by_cases c4 : s < 2 ∧ b s = 1
  · left
    obtain ⟨C', e, f7, f8, kc⟩ := fails6 pcl ht hi3 4
    refine ⟨C', 4, i, M, J, ?_, head7_4 qm hs2 c4.1 hb b01 b11 c4.2, by omega, by omega, f7, f8, qm.1.2.1, FC_tr fcl (KC_FC kc), FM_rf⟩
    rw [e6, gi_neg (q1 c4.1), rules6 lw2 (laws lw lw2) (by omega), bdE, lws c4.1, c4.2, gi_neg (show ¬ nI 1 = (0 : Int32) from one_ne)]
    rw [lws c4.1] at e
    rw [show fX1_fails 4 (wI C 275 5 (nI s)) = _ from e]
    rfl
  have hno : s < 2 → b s = 0 := fun z => by
    rcases bl s z with w | w
    · exact w
    · exact absurd ⟨z, w⟩ c4
  have e6' : fX1_clause C = r6 := by
    rw [e6]
    by_cases z : s < 2
    · rw [gi_neg (q1 z), rules6 lw2 (laws lw lw2) (by omega), bdE, lws z, hno z, gi_pos (show nI 0 = (0 : Int32) from rfl)]
    · rw [gi_pos (q2 z)]
  rw [e6', er6]
  by_cases c24 : m < 24
  · rw [gi_pos (show nI m < (24 : Int32) from (ltN (a := m) (b := 24) (by omega) (by omega)).mpr c24), disp_eq (by omega) (by omega) (by omega)]
    obtain ⟨M3, J3, eM, hd⟩ := head7 hN qm ht iK h40 hs2 (by omega) em c24 hb b01 b11 hno
    have hd' : HST tk tv tp ep B t lw i cn n m s (fun q => if q = s then 1 else b q) C M (wI (wI C 275 5 (nI lw)) 275 4 (nI (i + 1))) M3 J3 := ⟨(PC_on pcl ht).1, fun o x => by rw [wI_o x, wI_o x], hd⟩
    rw [eM, body_eq s (by omega)]
    have hdb : 2 ≤ s → HST tk tv tp ep B t lw i cn n m s b C M (wI (wI C 275 5 (nI lw)) 275 4 (nI (i + 1))) M3 J3 := fun z => by
      obtain ⟨d1, d2, d3, d4, d5, d6, d7, d8⟩ := hd'
      refine ⟨d1, d2, d3, d4, d5, d6, d7, ?_⟩
      rw [d8]
      show nI ((if 0 = s then 1 else b 0) + 2 * (if 1 = s then 1 else b 1)) = _
      rw [if_neg (by omega), if_neg (by omega)]
    rcases hss with ⟨rfl, rfl⟩ | ⟨rfl, rfl⟩ | ⟨rfl, rfl⟩ | ⟨rfl, rfl⟩ | ⟨rfl, rfl⟩ | ⟨rfl, rfl⟩ | ⟨rfl, rfl⟩ | ⟨rfl, rfl⟩
    · have := lws (by omega)
      subst this
      exact law_cl hN hT h38 ht hK hE cst c24 iK (l := 0) (by omega) (hno (by omega)) hd'
    · have := lws (by omega)
      subst this
      exact law_cl hN hT h38 ht hK hE cst c24 iK (l := 1) (by omega) (hno (by omega)) hd'
    · exact buyer_cl hN hT ht hK hE cst c24 iK (hdb (by omega))
    · exact sort_cl hN hT ht hK hE cst c24 iK (hdb (by omega))
    · exact one_cl hN hT ht hK hE cst c24 iK (k := 6) (lo := 0) (hi' := 5) (by omega) (by omega) (hdb (by omega)) (by omega) (by omega) (fun v y v1 v2 => Or.inr (Or.inr (Or.inl ⟨v, by omega, rfl, rfl, rfl, rfl⟩)))
    · exact one_cl hN hT ht hK hE cst c24 iK (k := 7) (lo := 0) (hi' := 11) (by omega) (by omega) (hdb (by omega)) (by omega) (by omega) (fun v y v1 v2 => Or.inr (Or.inr (Or.inr (Or.inl ⟨v, by omega, rfl, rfl, rfl, rfl⟩))))
    · exact one_cl hN hT ht hK hE cst c24 iK (k := 8) (lo := 0) (hi' := 5) (by omega) (by omega) (hdb (by omega)) (by omega) (by omega) (fun v y v1 v2 => Or.inr (Or.inr (Or.inr (Or.inr (Or.inl ⟨v, by omega, rfl, rfl, rfl, rfl⟩)))))
    · exact one_cl hN hT ht hK hE cst c24 iK (k := 9) (lo := 1) (hi' := 60) (by omega) (by omega) (hdb (by omega)) (by omega) (by omega) (fun v y v1 v2 => Or.inr (Or.inr (Or.inr (Or.inr (Or.inr (Or.inl ⟨v, v1, v2, rfl, rfl, rfl, rfl⟩))))))
  · left
    have m24 : m = 24 := by omega
    subst m24
    obtain ⟨C', e, f7, f8, kc⟩ := fails6 pcl ht hi3 6
    refine ⟨C', 6, i, M, J, ?_, head7_6 qm ht hs2 (by omega) em hb b01 b11 hno, by omega, by omega, f7, f8, qm.1.2.1, FC_tr fcl (KC_FC kc), FM_rf⟩
    rw [gi_neg (show ¬ nI 24 < (24 : Int32) by decide), show fX1_fails 6 (wI C 275 5 (nI lw)) = _ from e]
    rfl
end CE
