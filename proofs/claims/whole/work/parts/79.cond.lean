-- 79: PURE PART: questions, both readers alike (out of gen79.py and pure.py)
/-- a question was read: the reference as it is (M'), and the same with all laid (M0) -/
def QST (tk tv tp ep : Nat → Nat) (B : gI) (t law K rho dB i cn n ps : Nat) (pl : Nat → Nat) (x : Nat) (C M : gI) (J : gJ) (C' : gI) (i' cn' d n' : Nat) (M' : gI) (J' : gJ) (M0 : gI) (ps1 : Nat) (pl1 : Nat → Nat) (n1 x1 : Nat) : Prop :=
  (i < i' ∧ i' ≤ K ∧ d ≤ dB ∧ cn < cn' ∧ cn' + i ≤ cn + i' ∧ n < n' ∧ n' + i ≤ n + i') ∧
  (PC tk tv tp t law i' cn' C' ∧ KC t cn C C') ∧
  (PM tk tv tp ep B t law i' n1 ps1 pl1 x1 1 M' J' ∧ KM t n M M' ∧ n ≤ n1 ∧ n1 ≤ n' ∧ ps1 ≤ 60 ∧ (∀ j, j < ps1 → pl1 j < 44) ∧ onw pl1 ps1 = 42 ∧ cpd pl1 ps1 = 1) ∧
  (PM tk tv tp ep B t law i' n' ps pl x 1 M0 J' ∧ KM t n1 M' M0 ∧ ∀ r, 0 < r → r ≤ rho → fX7_settle (nI r) M' = fX7_settle (nI r) M0) ∧
  Cor (C' (296 + 8 * t + 4)) (C' (296 + 8 * t + 5)) (rC (M0 3) t) (rO (M0 3) t) 1 d cn cn' n n' ∧ PROG t i i' n M J M' J'
def OKC (tk tv tp ep : Nat → Nat) (B : gI) (t law K rho dB : Nat) (la : Nat → Prop) (i cn n ps : Nat) (pl : Nat → Nat) (x : Nat) (C M : gI) (J : gJ) (res : Option (Int32 × gI)) : Prop := ∃ C' i' cn' d n' M' J' M0 ps1 pl1 n1 x1, res = some (nI 1, C') ∧ QST tk tv tp ep B t law K rho dB i cn n ps pl x C M J C' i' cn' d n' M' J' M0 ps1 pl1 n1 x1 ∧ la (tk i')
def ASK (tk tv tp ep : Nat → Nat) (B : gI) (t law K x : Nat) (rg : gR) : Prop := ∀ i cn n ps pl C M J, PC tk tv tp t law i cn C → PM tk tv tp ep B t law i n ps pl x 0 M J → i ≤ K → cn ≤ i → n + ps ≤ i → ps ≤ 6 * x + 2 → (∀ j, j < ps → pl j < 44) → onw pl ps = 42 → 0 < ps → rk (pl (ps - 1)) < 4 → FAILs tp t K i cn n C M J (rg 7 (nI x) 0 C) ∨ OKC tk tv tp ep B t law K 3 (5 * (8 - x) + 4) (fun k => ¬ k = 31 ∧ ¬ k = 32 ∧ ¬ k = 33 ∧ ¬ k = 34) i cn n ps pl x C M J (rg 7 (nI x) 0 C)
def BOTH (tk tv tp ep : Nat → Nat) (B : gI) (t law K x : Nat) (rg : gR) : Prop := ∀ i cn n ps pl C M J, PC tk tv tp t law i cn C → PM tk tv tp ep B t law i n ps pl x 0 M J → i ≤ K → cn ≤ i → n + ps ≤ i → ps ≤ 6 * x + 1 → (∀ j, j < ps → pl j < 44) → onw pl ps = 42 → 0 < ps → rk (pl (ps - 1)) < 2 → FAILs tp t K i cn n C M J (rg 6 (nI x) 0 C) ∨ OKC tk tv tp ep B t law K 2 (5 * (8 - x) + 5) (fun k => ¬ k = 17 ∧ ¬ k = 31 ∧ ¬ k = 32 ∧ ¬ k = 33 ∧ ¬ k = 34) i cn n ps pl x C M J (rg 6 (nI x) 0 C)
def EITH (tk tv tp ep : Nat → Nat) (B : gI) (t law K x : Nat) (rg : gR) : Prop := ∀ i cn n ps pl C M J, PC tk tv tp t law i cn C → PM tk tv tp ep B t law i n ps pl x 0 M J → i ≤ K → cn ≤ i → n + ps ≤ i → ps ≤ 6 * x + 0 → (∀ j, j < ps → pl j < 44) → onw pl ps = 42 → 0 < ps → rk (pl (ps - 1)) < 1 → FAILs tp t K i cn n C M J (rg 5 (nI x) 0 C) ∨ OKC tk tv tp ep B t law K 1 (5 * (8 - x) + 6) (fun k => ¬ k = 16 ∧ ¬ k = 17 ∧ ¬ k = 31 ∧ ¬ k = 32 ∧ ¬ k = 33 ∧ ¬ k = 34) i cn n ps pl x C M J (rg 5 (nI x) 0 C)
section CD
variable {tk tv tp ep : Nat → Nat} {B : gI} {t law K : Nat}
theorem cm_iff {k : Nat} (hk : k ≤ 40) : fX4_isComparison (nI k) = (if 25 ≤ k ∧ k ≤ 30 then nI 1 else nI 0) := by
  unfold fX4_isComparison
  by_cases c1 : k < 25
  · rw [if_neg (by omega)]
    simp (disch := (first | assumption | trivial | omega)) only [c1, lit, neg1, oI_s, addN, mulN, subN, clN, gdN, ltN, leN, eqN, nIo, oIn, oI_eq, divN, remN, giT, giF, lzE, prE, bdE, smL, smR, shlN, shrN, hasE, andN, orN, bit1, bit0, max7, min7, giTr, giFa, gdp, litL, i2l, addL, mulL, divL, remL, cmLe, cmGt, cmGe, cmEq, eqL]
  · by_cases c2 : 30 < k
    · rw [if_neg (by omega)]
      simp (disch := (first | assumption | trivial | omega)) only [c1, c2, lit, neg1, oI_s, addN, mulN, subN, clN, gdN, ltN, leN, eqN, nIo, oIn, oI_eq, divN, remN, giT, giF, lzE, prE, bdE, smL, smR, shlN, shrN, hasE, andN, orN, bit1, bit0, max7, min7, giTr, giFa, gdp, litL, i2l, addL, mulL, divL, remL, cmLe, cmGt, cmGe, cmEq, eqL]
    · rw [if_pos (by omega)]
      simp (disch := (first | assumption | trivial | omega)) only [c1, c2, lit, neg1, oI_s, addN, mulN, subN, clN, gdN, ltN, leN, eqN, nIo, oIn, oI_eq, divN, remN, giT, giF, lzE, prE, bdE, smL, smR, shlN, shrN, hasE, andN, orN, bit1, bit0, max7, min7, giTr, giFa, gdp, litL, i2l, addL, mulL, divL, remL, cmLe, cmGt, cmGe, cmEq, eqL]
theorem cm_ref {k : Nat} (h1 : 25 ≤ k) (h2 : k ≤ 30) : ∃ u, cmI k = u + 1 ∧ cmP k u ∧ rk u = 4 ∧ u < 16 ∧ 10 ≤ u := by
  have : k = 25 ∨ k = 26 ∨ k = 27 ∨ k = 28 ∨ k = 29 ∨ k = 30 := by omega
  rcases this with rfl | rfl | rfl | rfl | rfl | rfl
  · exact ⟨11, by decide, by unfold cmP; omega, by decide, by omega, by omega⟩
  · exact ⟨13, by decide, by unfold cmP; omega, by decide, by omega, by omega⟩
  · exact ⟨10, by decide, by unfold cmP; omega, by decide, by omega, by omega⟩
  · exact ⟨12, by decide, by unfold cmP; omega, by decide, by omega, by omega⟩
  · exact ⟨14, by decide, by unfold cmP; omega, by decide, by omega, by omega⟩
  · exact ⟨15, by decide, by unfold cmP; omega, by decide, by omega, by omega⟩
theorem cm_no {k : Nat} (h : ¬ (25 ≤ k ∧ k ≤ 30)) : cmI k = 0 := by
  unfold cmI
  rw [if_neg (by omega), if_neg (by omega), if_neg (by omega), if_neg (by omega), if_neg (by omega), if_neg (by omega)]
theorem KC_dn {n m : Nat} {C C' : gI} (h : KC t m C C') (hm : n ≤ m) : KC t n C C' := KC_tr KC_rf h hm
theorem KM_dn {n m : Nat} {M M' : gI} (h : KM t m M M') (hm : n ≤ m) : KM t n M M' := KM_tr KM_rf h hm
/-- codes that lie stay -/
theorem Cor_up {C C' M M' : gI} {k d i j p q : Nat} (h : Cor (C (296 + 8 * t + 4)) (C (296 + 8 * t + 5)) (rC (M 3) t) (rO (M 3) t) k d i j p q) (kc : KC t j C C') (km : KM t q M M') : Cor (C' (296 + 8 * t + 4)) (C' (296 + 8 * t + 5)) (rC (M' 3) t) (rO (M' 3) t) k d i j p q :=
  (Cor_ag h).2.2 (fun a _ z2 => kc.2.2.2 a z2) (fun _ _ z2 => KM_rc km z2)
theorem PROG_1 {i n : Nat} {M M' : gI} {J J' : gJ} (h : ∀ m Q, wpF m M' J' Q → wpF (m + 1) M J Q) : PROG t i (i + 1) n M J M' J' := fun m Q _ q => by
  rw [show m + (i + 1 - i) = m + 1 by omega]
  exact h m Q q
theorem PROG_tr {i i1 i2 n n1 : Nat} {M M1 M2 : gI} {J J1 J2 : gJ} (h : PROG t i i1 n M J M1 J1) (g : PROG t i1 i2 n1 M1 J1 M2 J2) (h1 : i ≤ i1) (h2 : i1 ≤ i2) (hn : n ≤ n1) : PROG t i i2 n M J M2 J2 := fun m Q hQ q => by
  rw [show m + (i2 - i) = (m + (i2 - i1)) + (i1 - i) by omega]
  exact h _ Q hQ (g m Q (RQ_up hQ hn) q)
/-- a fault further on -/
theorem FAILs_up {i i1 cn cn1 n n1 : Nat} {C C1 M M1 : gI} {J J1 : gJ} {res res1 : Option (Int32 × gI)} (h : FAILs tp t K i1 cn1 n1 C1 M1 J1 res1) (hi : i ≤ i1) (hc : cn ≤ cn1) (hn : n ≤ n1) (kc : KC t cn C C1) (km : KM t n M M1) (pr : PROG t i i1 n M J M1 J1) (hr : ∀ C', res1 = some (nI 0, C') → res = some (nI 0, C')) : FAILs tp t K i cn n C M J res := by
  obtain ⟨C', f, j, e, f7, j1, j2, f8, kc2, f0, f1, hw⟩ := h
  refine ⟨C', f, j, hr C' e, f7, by omega, j2, f8, KC_tr kc kc2 hc, f0, f1, fun m Q hQ hm hq => ?_⟩
  obtain ⟨m', rfl⟩ : ∃ m', m = m' + (i1 - i) := ⟨m - (i1 - i), by omega⟩
  exact pr m' Q hQ (hw m' Q (RQ_up hQ hn) (by omega) (fun Mf Jf z1 z2 => hq Mf Jf z1 (KM_tr km z2 hn)))
/-- a fault behind an operand -/
theorem fail_beh {i cn n n1 ps x : Nat} {pl : Nat → Nat} {C C' M : gI} {J : gJ} {res : Option (Int32 × gI)} (pm : PM tk tv tp ep B t law i n1 ps pl x 1 M J) (hp : ps < 160) (hpl : ∀ j, j < ps → pl j < 44) (hb : bwI (tk i) (onw pl ps) (cpd pl ps) = 0) (hw : pwI (tk i) (onw pl ps) (cpd pl ps) = 0) (ho : 0 < onw pl ps) (hi : i ≤ K) (e : res = some (nI 0, C')) (f7 : C' 275 7 = nI 1) (f8 : C' 275 8 = nI (tp i)) (kc : KC t cn C C') : FAILs tp t K i cn n C M J res := by
  refine ⟨C', 1, i, e, f7, Nat.le_refl _, hi, f8, kc, by omega, by omega, fun m Q hQ hm hq => ?_⟩
  obtain ⟨m', rfl⟩ : ∃ a, m = a + 1 := ⟨m - 1, by omega⟩
  exact bh_stop pm hp (fun j hj => by have := hpl j hj; omega) hb hw ho m' (hq M J pm.1.2.1 KM_rf)
theorem ltK {i : Nat} (hE : tk K = 40) (hi : i ≤ K) (h : ¬ tk i = 40) : i < K := by
  apply Decidable.byContradiction
  intro z
  have : i = K := by omega
  rw [this] at h
  exact h hE
/-- in a question: above one that binds weaker -/
theorem qs_pu {ps u : Nat} {pl : Nat → Nat} (hpl : ∀ j, j < ps → pl j < 44) (hu : u < 40) : (∀ j, j < ps + 1 → pu1 pl ps u j < 44) ∧ onw (pu1 pl ps u) (ps + 1) = onw pl ps := by
  refine ⟨fun j hj => ?_, ?_⟩
  · by_cases e : j = ps
    · subst e; rw [pu1_e]; omega
    · rw [pu1_n e]; exact hpl j (by omega)
  · rw [onw_low (by rw [pu1_e]; exact hu)]
    have key : ∀ j, j ≤ ps → oat (pu1 pl ps u) j = oat pl j := by
      intro j
      induction j with
      | zero => intro _; rfl
      | succ j ih =>
        intro hj
        show (if 40 ≤ pu1 pl ps u j then j + 1 else oat (pu1 pl ps u) j) = if 40 ≤ pl j then j + 1 else oat pl j
        rw [pu1_n (by omega), ih (by omega)]
    unfold onw
    rw [key ps (Nat.le_refl _)]
    by_cases c : oat pl ps = 0
    · rw [if_pos c, if_pos c]
    · have := oat_le (pl := pl) ps
      rw [if_neg c, if_neg c, pu1_n (by omega)]
theorem aa_1 {ps : Nat} {pl : Nat → Nat} (ho : onw pl ps = 42) (hr : rk (pl (ps - 1)) < 4) : aaI pl ps = 1 := by
  unfold aaI
  rw [if_pos ho]
  by_cases c : 40 ≤ pl (ps - 1)
  · rw [if_pos c]
  · rw [if_neg c]
    by_cases d : 1 ≤ rk (pl (ps - 1)) ∧ rk (pl (ps - 1)) ≤ 3
    · rw [if_pos d]
    · exfalso
      have : rk (pl (ps - 1)) = 0 := by omega
      revert this
      unfold rk
      rw [if_pos (by omega)]
      split
      · omega
      · split
        · omega
        · split
          · omega
          · split
            · split
              · split <;> omega
              · omega
            · omega
theorem cp_0 {ps : Nat} {pl : Nat → Nat} (hp : 0 < ps) (hr : rk (pl (ps - 1)) < 4) : cpd pl ps = 0 := by
  obtain ⟨p, rfl⟩ : ∃ p, ps = p + 1 := ⟨ps - 1, by omega⟩
  rw [Nat.add_sub_cancel] at hr
  show (if rk (pl p) ≤ 4 then (if rk (pl p) = 4 then 1 else 0) else cpd pl p) = 0
  rw [if_pos (by omega), if_neg (by omega)]
theorem bw_q {k c : Nat} (h1 : ¬ k = 31) (h2 : ¬ k = 32) (h3 : ¬ k = 33) (h4 : ¬ k = 34) : bwI k 42 c = if c = 0 then cmI k else if k = 17 then 22 else if k = 16 then 23 else 0 := by
  unfold bwI
  rw [if_neg h1, if_neg h2, if_neg h3, if_neg h4, if_pos rfl]
/-- one that is asked -/
theorem ask_step {x : Nat} (hx : x ≤ 8) (hN : NXT tk tv tp ep B K) (hT : toksOK tk tv tp K) (ht : t < 4) (hK : K ≤ 300) (hE : tk K = 40) {rg : gR} (hS : SUM tk tv tp ep B t law K x rg) (hA : x < 8 → ASK tk tv tp ep B t law K (x + 1) rg) {rg' : gR} (hr : ∀ C, rg' 7 (nI x) 0 C = fX1_asking_B rg (nI x) C) : ASK tk tv tp ep B t law K x rg' := by
  intro i cn n ps pl C M J pc pm hi hc hn hps hpl how hp0 htop
  rw [hr]
  have hi3 : i ≤ 300 := by omega
  have haa := aa_1 how htop
  have hpl100 : ∀ j, j < ps → pl j < 100 := fun j hj => by have := hpl j hj; omega
  have hk := (hT i hi).1
  have eK : fX1_asking_B rg (nI x) C = (gi (tk i = 18)
 (bd (fX1_opens (nI x) C) (pr (fun (u29 : Int32) (I30 : gI) => gi (u29 = 0)
 (some ((0 : Int32), I30))
 (bd (rg 7 (nI (x + 1)) 0 I30) (pr (fun (u34 : Int32) (I35 : gI) => gi (u34 = 0)
 (some ((0 : Int32), I35))
 (gd (gAt LC (I35 275 6).toNatClampNeg 0 3) (bd (fX3_emit ((I35 275 6).toNatClampNeg) (nI 18) (nI 0) I35) (pr (fun (_ : Int32) (I41 : gI) => some ((1 : Int32), I41)))))))))))
 (bd (rg 0 (nI x) 0 C) (pr (fun (u3 : Int32) (I4 : gI) => gi (u3 = 0)
 (some ((0 : Int32), I4))
 (gd (vp_in (I4 275 4) 301) (gi ((fX4_isComparison (I4 276 ((I4 275 4)).toNatClampNeg)) = 0)
 (bd (fX1_fails 1 I4) (pr (fun (u25 : Int32) (I26 : gI) => some (u25, I26))))
 (bd (rg 0 (nI x) 0 (wI I4 275 4 ((I4 275 4) + (1 : Int32)))) (pr (fun (u15 : Int32) (I16 : gI) => gi (u15 = 0)
 (some ((0 : Int32), I16))
 (gd (gAt LC (I16 275 6).toNatClampNeg 0 3) (bd (fX3_emit ((I16 275 6).toNatClampNeg) (I4 276 ((I4 275 4)).toNatClampNeg) (nI 0) I16) (pr (fun (_ : Int32) (I22 : gI) => some ((1 : Int32), I22)))))))))))))) := by
    have ek := (pc.2.2.2.2.1 i hi3).1
    unfold fX1_asking_B
    rw [pc.1, gdN (by omega) (by omega), clN (by omega), ek, show (nI (tk i) = (18 : Int32)) = (tk i = 18) from eqN (a := tk i) (b := 18) (by omega) (by omega), show nI x + (1 : Int32) = nI (x + 1) from addN x 1]
    rfl
  rw [eK]
  clear eK
  by_cases c18 : tk i = 18
  · rw [gi_pos c18]
    have eb : fX7_beginOne M J = fX7_opened (nI 20) M J := by
      rw [bg_oth pm (by omega) hpl100 (by omega) (by rw [c18]; rfl), if_neg (by omega), if_neg (by omega), if_neg (by omega), if_neg (by omega), if_neg (by omega), if_pos ⟨c18, haa⟩]
      rfl
    by_cases hx8 : x < 8
    · rw [opens6p pc hi3 hx8, bdE, prE, gi_neg (show ¬ nI 1 = (0 : Int32) from one_ne)]
      obtain ⟨pcn, kcn⟩ := PC_on pc ht
      have iK := ltK hE hi (by omega)
      obtain ⟨M1, J1, e1, pm1, km1⟩ := open7 hN pm (by omega) (by omega) hx8 (by omega) 20
      obtain ⟨q1, q2⟩ := qs_pu (u := 20) hpl (by omega)
      have w1 : PROG t i (i + 1) n M J M1 J1 := PROG_1 (fun m Q q => bg_on pm (eb.trans e1) m q)
      rcases hA hx8 (i + 1) cn n (ps + 1) (pu1 pl ps 20) _ M1 J1 pcn pm1 (by omega) (by omega) (by omega) (by omega) q1 (q2.trans how) (by omega) (by rw [Nat.add_sub_cancel, pu1_e]; decide) with hf | ⟨C2, i2, cn2, d2, n2, M2, J2, M0, ps1, pl1, n1, x1, e2, ⟨⟨a1, a2, a3, a4, a5, a6, a7⟩, ⟨pc2, kc2⟩, ⟨pm2, km2, b1, b2, b3, b4, b5, b6⟩, ⟨pm0, km0, st⟩, cor2, pr2⟩, la2⟩
      · left
        refine FAILs_up hf (by omega) (Nat.le_refl _) (Nat.le_refl _) kcn km1 w1 (fun C' e => ?_)
        rw [e, bdE, prE, gi_pos (show nI 0 = (0 : Int32) from rfl)]
        rfl
      · right
        obtain ⟨C3, e3, pc3, kc3, c3a, c3b⟩ := emit6 pc2 ht (by omega) 18 0
        have r20 : rk 20 = 3 := by decide
        obtain ⟨M3, pm3, km3, c3, st3⟩ := pop_eq pm0 ht (by omega) (fun j hj => by have := q1 j hj; omega) (by rw [pu1_e]; omega) (by omega) (fun _ => by omega)
        rw [pu1_e] at c3 st3 pm3
        rw [if_pos (Or.inr rfl), Nat.add_sub_cancel] at pm3
        refine ⟨C3, i2, cn2 + 1, d2, n2 + 1, M2, J2, M3, ps1, pl1, n1, x1, ?_, ⟨⟨by omega, a2, by omega, by omega, by omega, by omega, by omega⟩, ⟨pc3, KC_tr (KC_tr kcn kc2 (by omega)) kc3 (by omega)⟩, ⟨pm2, KM_tr km1 km2 (by omega), b1, by omega, b3, b4, b5, b6⟩, ⟨PM_pl pm3 (fun j hj => (pu1_n (by omega)).symm), KM_tr km0 km3 (by omega), fun r r0 r1 => (st r r0 r1).trans (st3 r r0 (by omega))⟩, ?_, PROG_tr w1 pr2 (by omega) (by omega) (by omega)⟩, la2⟩
        · rw [e2, bdE, prE, gi_neg (show ¬ nI 1 = (0 : Int32) from one_ne), pc2.2.2.1, gAn ht, clN (by omega), e3, bdE, prE]
          rfl
        · exact Cor_not c3a c3 (Cor_up cor2 kc3 km3)
    · left
      obtain ⟨C2, e2, f7, f8, kc2⟩ := opens6n pc ht hi3 hx8 (by omega)
      refine fail_here pm hi ?_ f7 f8 kc2 (f := 3) (by omega) (by omega) (eb.trans (open7n pm (by omega) (nI 20)))
      rw [e2, bdE, prE, gi_pos (show nI 0 = (0 : Int32) from rfl)]
      rfl
  · rw [gi_neg c18]
    rcases hS i cn n ps pl C M J pc pm hi hc hn (by omega) hpl (Or.inr (by omega)) (fun _ => c18) with hf | ⟨C2, i2, cn2, d2, n2, M2, J2, e2, a1, a2, pc2, kc2, a3, a4, a5, a6, a7, pm2, km2, cor2, lk2, w2⟩
    · left
      refine FAILs_up hf (Nat.le_refl _) (Nat.le_refl _) (Nat.le_refl _) KC_rf KM_rf (fun m Q _ q => by rw [Nat.sub_self]; exact q) (fun C' e => ?_)
      rw [e, bdE, prE, gi_pos (show nI 0 = (0 : Int32) from rfl)]
      rfl
    · have i2K : i2 ≤ 300 := by omega
      have hk2 := (hT i2 a2).1
      have ek2 := (pc2.2.2.2.2.1 i2 i2K).1
      rw [e2, bdE, prE, gi_neg (show ¬ nI 1 = (0 : Int32) from one_ne), pc2.1, gdN (by omega) (by omega), clN (by omega), ek2, cm_iff hk2]
      have hcp := cp_0 hp0 (show rk (pl (ps - 1)) < 4 from htop)
      have ebw : bwI (tk i2) (onw pl ps) (cpd pl ps) = cmI (tk i2) := by
        rw [how, hcp, bw_q lk2.1 lk2.2.1 lk2.2.2.1 lk2.2.2.2, if_pos rfl]
      by_cases c25 : 25 ≤ tk i2 ∧ tk i2 ≤ 30
      · rw [if_pos c25, gi_neg (show ¬ nI 1 = (0 : Int32) from one_ne)]
        obtain ⟨u, u1, u2, u3, u4, u5⟩ := cm_ref c25.1 c25.2
        have iK := ltK hE a2 (by omega)
        obtain ⟨pcn, kcn⟩ := PC_on pc2 ht
        have hset : fX7_settle (nI (if rk u = 4 then 5 else rk u)) M2 = some M2 := by
          rw [u3, if_pos rfl]
          exact stl_run (stl_stop pm2 (by omega) hpl100 (by omega) (Or.inr (by omega))) (by omega)
        obtain ⟨M3, J3, pm3, km3, w3⟩ := bh_op hN pm2 (by omega) hpl100 (ebw.trans u1) hset pm2 (by omega) (by omega)
        obtain ⟨q1, q2⟩ := qs_pu (u := u) hpl (by omega)
        have w3' : PROG t i2 (i2 + 1) n M2 J2 M3 J3 := PROG_1 (fun m Q q => w3 m Q q)
        have haa3 : aaI (pu1 pl ps u) (ps + 1) = 0 := by
          unfold aaI
          rw [Nat.add_sub_cancel, pu1_e, u3, if_neg (show ¬ 40 ≤ u by omega), if_neg (show ¬ (1 ≤ 4 ∧ 4 ≤ 3) by omega)]
          by_cases z : onw (pu1 pl ps u) (ps + 1) = 42
          · rw [if_pos z]
          · rw [if_neg z]
        rw [show nI i2 + (1 : Int32) = nI (i2 + 1) from addN i2 1]
        have w23 := PROG_tr w2 w3' (by omega) (by omega) (Nat.le_refl _)
        rcases hS (i2 + 1) cn2 n2 (ps + 1) (pu1 pl ps u) _ M3 J3 pcn pm3 (by omega) (by omega) (by omega) (by omega) q1 (Or.inr (by rw [Nat.add_sub_cancel, pu1_e, u3]; omega)) (fun z => by rw [haa3] at z; exact absurd z (by decide)) with hf | ⟨C4, i4, cn4, d4, n4, M4, J4, e4, f1, f2, pc4, kc4, f3, f4, f5, f6, f7, pm4, km4, cor4, lk4, w4⟩
        · left
          refine FAILs_up hf (by omega) (by omega) (by omega) (KC_tr kc2 kcn (by omega)) (KM_tr km2 km3 (by omega)) w23 (fun C' e => ?_)
          rw [e, bdE, prE, gi_pos (show nI 0 = (0 : Int32) from rfl)]
          rfl
        · right
          obtain ⟨C5, e5, pc5, kc5, c5a, c5b⟩ := emit6 pc4 ht (by omega) (tk i2) 0
          obtain ⟨M5, pm5, km5, c5, st5⟩ := pop_eq pm4 ht (by omega) (fun j hj => by have := q1 j hj; omega) (by rw [pu1_e]; omega) (by omega) (fun z => by rw [pu1_e, u3] at z; omega)
          rw [pu1_e] at c5 st5 pm5
          rw [if_neg (by omega)] at pm5
          refine ⟨C5, i4, cn4 + 1, max d2 (d4 + 1), n4 + 1, M4, J4, M5, ps + 1, pu1 pl ps u, n4, x, ?_, ⟨⟨by omega, f2, by omega, by omega, by omega, by omega, by omega⟩, ⟨pc5, KC_tr (KC_tr (KC_tr kc2 kcn (by omega)) kc4 (by omega)) kc5 (by omega)⟩, ⟨pm4, KM_tr (KM_tr km2 km3 (by omega)) km4 (by omega), by omega, by omega, by omega, q1, q2.trans how, ?_⟩, ⟨PM_pl pm5 (fun j hj => (pu1_n (by omega)).symm), km5, fun r r0 r1 => st5 r r0 (by omega)⟩, ?_, PROG_tr w23 w4 (by omega) (by omega) (by omega)⟩, lk4⟩
          · rw [e4, bdE, prE, gi_neg (show ¬ nI 1 = (0 : Int32) from one_ne), pc4.2.2.1, gAn ht, clN (by omega), e5, bdE, prE]
            rfl
          · show (if rk (pu1 pl ps u ps) ≤ 4 then (if rk (pu1 pl ps u ps) = 4 then 1 else 0) else cpd (pu1 pl ps u) ps) = 1
            rw [pu1_e, u3, if_pos (by omega), if_pos rfl]
          · refine Cor_cm u2 c5a c5 ?_ (Cor_up cor4 kc5 km5)
            exact Cor_up cor2 (KC_tr (KC_tr kcn kc4 (by omega)) kc5 (by omega)) (KM_tr (KM_tr km3 km4 (by omega)) km5 (by omega))
      · left
        rw [if_neg c25, gi_pos (show nI 0 = (0 : Int32) from rfl)]
        obtain ⟨C3, e3, f7, f8, kc3⟩ := fails6 pc2 ht i2K 1
        rw [show fX1_fails 1 C2 = some (nI 0, C3) from e3, bdE, prE]
        refine FAILs_up (fail_beh (cn := cn2) (n := n2) (C := C2) (res := some (nI 0, C3)) pm2 (by omega) hpl (ebw.trans (cm_no c25)) ?_ (by omega) a2 rfl f7 f8 kc3) (by omega) (by omega) (by omega) kc2 km2 w2 (fun C' e => e)
        rw [how, hcp]
        unfold pwI
        rw [if_neg (by omega), if_pos rfl, if_neg (by omega)]
theorem both_lp (rg : gR) (hN : NXT tk tv tp ep B K) (hT : toksOK tk tv tp K) (ht : t < 4) (hK : K ≤ 300) (hE : tk K = 40) {x : Nat} (hx : x ≤ 8) (hrg : ASK tk tv tp ep B t law K x rg)
    {i cn n ps : Nat} {pl : Nat → Nat} {C M : gI} {J : gJ} (hps : ps ≤ 6 * x + 1) (hpl : ∀ j, j < ps → pl j < 44) (how : onw pl ps = 42) (hp0 : 0 < ps) (htop : rk (pl (ps - 1)) < 2) (hnp : n + ps ≤ i) (hci : cn ≤ i) :
    ∀ g q i' cn' d n' (C' M' : gI) (J' : gJ) M0 ps1 pl1 n1 x1 m6, K - i' < g → K - i' < m6 → 2 * q + i + 1 ≤ i' → QST tk tv tp ep B t law K 2 (5 * (8 - x) + 5) i cn n ps pl x C M J C' i' cn' d n' M' J' M0 ps1 pl1 n1 x1 → (¬ tk i' = 31 ∧ ¬ tk i' = 32 ∧ ¬ tk i' = 33 ∧ ¬ tk i' = 34) →
    FAILs tp t K i cn n C M J (bd (fX1_both_12 rg m6 (nI x) (nI q) C') (sm (fun (I29 : gI) => some ((0 : Int32), I29)) (fun (I31 : gI) => some ((1 : Int32), I31)))) ∨ OKC tk tv tp ep B t law K 2 (5 * (8 - x) + 5) (fun k => ¬ k = 17 ∧ ¬ k = 31 ∧ ¬ k = 32 ∧ ¬ k = 33 ∧ ¬ k = 34) i cn n ps pl x C M J (bd (fX1_both_12 rg m6 (nI x) (nI q) C') (sm (fun (I29 : gI) => some ((0 : Int32), I29)) (fun (I31 : gI) => some ((1 : Int32), I31)))) := by
  intro g
  induction g with
  | zero => intro q i' cn' d n' C' M' J' M0 ps1 pl1 n1 x1 m6 hg; omega
  | succ g ih =>
    intro q i' cn' d n' C' M' J' M0 ps1 pl1 n1 x1 m6 hg hm6 hq hQ hla
    have hQ0 := hQ
    obtain ⟨⟨a1, a2, a3, a4, a5, a6, a7⟩, ⟨pc, kc⟩, ⟨pm, km, b1, b2, b3, b4, b5, b6⟩, ⟨pm0, km0, st⟩, hcor, hpr⟩ := hQ
    obtain ⟨m6, rfl⟩ : ∃ a, m6 = a + 1 := ⟨m6 - 1, by omega⟩
    have q300 : ¬ 300 ≤ q := by omega
    have i301 : i' < 301 := by omega
    have ek := (pc.2.2.2.2.1 i' (by omega)).1
    have hb := (hT i' (by omega)).1
    have eK : fX1_both_12 rg (m6 + 1) (nI x) (nI q) C' = gi (tk i' = 17) (bd (rg 7 (nI x) 0 (wI C' 275 4 (nI (i' + 1)))) (pr (fun (u15 : Int32) (I16 : gI) => gi (u15 = 0)
 (some (Sum.inl I16))
 (gd (gAt LC (I16 275 6).toNatClampNeg 0 3) (bd (fX3_emit ((I16 275 6).toNatClampNeg) (nI 17) (nI 0) I16) (pr (fun (_ : Int32) (I22 : gI) => fX1_both_12 rg m6 (nI x) (nI (q + 1)) I22))))))) (some (Sum.inr C')) := by
      rw [sX1_both_12, fX1_both_12b]
      rw [gi_neg (show ¬ (300 : Int32) ≤ nI q from fun z => q300 ((leN (a := 300) (b := q) (by omega) (by omega)).mp z)), pc.1, gdN i301 (by omega), clN (by omega), ek, show (nI (tk i') = (17 : Int32)) = (tk i' = 17) from eqN (a := tk i') (b := 17) (by omega) (by omega), lzE, show nI i' + (1 : Int32) = nI (i' + 1) from addN i' 1, show nI q + (1 : Int32) = nI (q + 1) from addN q 1]
      rfl
    rw [eK]
    clear eK
    by_cases cop : tk i' = 17
    · rw [gi_pos cop]
      have iK := ltK hE a2 (by omega)
      have hr : rk 21 = 2 := by decide
      have hpl100 : ∀ j, j < ps → pl j < 100 := fun j hj => by have := hpl j hj; omega
      have ebw : bwI (tk i') (onw pl1 ps1) (cpd pl1 ps1) = 21 + 1 := by
        rw [b5, b6, cop, bw_q (by omega) (by omega) (by omega) (by omega), if_neg (by omega), if_pos rfl]
      have hset : fX7_settle (nI (if rk 21 = 4 then 5 else rk 21)) M' = some M0 := by
        rw [hr, if_neg (by omega), st 2 (by omega) (by omega)]
        exact stl_run (stl_stop pm0 (by omega) hpl100 (by omega) (Or.inr htop)) (by omega)
      obtain ⟨M1, J1, pm1, km1, w1⟩ := bh_op hN pm (by omega) (fun j hj => by have := b4 j hj; omega) ebw hset pm0 (by omega) (by omega)
      obtain ⟨q1, q2⟩ := qs_pu (u := 21) hpl (by omega)
      obtain ⟨pcn, kcn⟩ := PC_on pc ht
      have kmA : KM t n M M1 := KM_tr (KM_tr km km0 (by omega)) km1 (by omega)
      have w1' : PROG t i (i' + 1) n M J M1 J1 := PROG_tr hpr (PROG_1 (n := n) (fun m Q q => w1 m Q q)) (by omega) (by omega) (Nat.le_refl _)
      rcases hrg (i' + 1) cn' n' (ps + 1) (pu1 pl ps 21) _ M1 J1 pcn pm1 (by omega) (by omega) (by omega) (by omega) q1 (q2.trans how) (by omega) (by rw [Nat.add_sub_cancel, pu1_e, hr]; omega) with hf | ⟨C2, i2, cn2, d2, n2, M2, J2, M02, ps2, pl2, n12, x12, e2, ⟨⟨c1, c2, c3, c4, c5, c6, c7⟩, ⟨pc2, kc2⟩, ⟨pm2, km2, g1, g2, g3, g4, g5, g6⟩, ⟨pm02, km02, st2⟩, cor2, pr2⟩, la2⟩
      · left
        refine FAILs_up hf (by omega) (by omega) (by omega) (KC_tr kc kcn (by omega)) kmA w1' (fun C' e => ?_)
        rw [e, bdE, prE, gi_pos (show nI 0 = (0 : Int32) from rfl)]
        rfl
      · obtain ⟨C3, e3, pc3, kc3, c3a, c3b⟩ := emit6 pc2 ht (by omega) 17 0
        obtain ⟨M3, pm3, km3, c3, st3⟩ := pop_eq pm02 ht (by omega) (fun j hj => by have := q1 j hj; omega) (by rw [pu1_e]; omega) (by omega) (fun z => by rw [pu1_e, hr] at z; omega)
        rw [pu1_e] at c3 st3 pm3
        rw [if_neg (by omega)] at pm3
        rw [e2, bdE, prE, gi_neg (show ¬ nI 1 = (0 : Int32) from one_ne), pc2.2.2.1, gAn ht, clN (by omega), e3, bdE, prE]
        refine ih (q + 1) i2 (cn2 + 1) (max d (d2 + 1)) (n2 + 1) C3 M2 J2 M3 ps2 pl2 n12 x12 m6 (by omega) (by omega) (by omega) ⟨⟨by omega, c2, by omega, by omega, by omega, by omega, by omega⟩, ⟨pc3, KC_tr (KC_tr (KC_tr kc kcn (by omega)) kc2 (by omega)) kc3 (by omega)⟩, ⟨pm2, KM_tr kmA km2 (by omega), by omega, by omega, g3, g4, g5, g6⟩, ⟨PM_pl pm3 (fun j hj => (pu1_n (by omega)).symm), KM_tr km02 km3 (by omega), fun r r0 r1 => (st2 r r0 (by omega)).trans (st3 r r0 (by omega))⟩, ?_, PROG_tr w1' pr2 (by omega) (by omega) (by omega)⟩ la2
        refine Cor_jo (by unfold joP; omega) c3a c3 ?_ (Cor_up cor2 kc3 km3)
        exact Cor_up hcor (KC_tr (KC_tr kcn kc2 (by omega)) kc3 (by omega)) (KM_tr (KM_tr (KM_tr km1 km2 (by omega)) km02 (by omega)) km3 (by omega))
    · right
      rw [gi_neg cop]
      exact ⟨C', i', cn', d, n', M', J', M0, ps1, pl1, n1, x1, rfl, hQ0, ⟨cop, hla⟩⟩
theorem both_step {x : Nat} (hx : x ≤ 8) (hN : NXT tk tv tp ep B K) (hT : toksOK tk tv tp K) (ht : t < 4) (hK : K ≤ 300) (hE : tk K = 40) {rg : gR} (h1 : ASK tk tv tp ep B t law K x rg) {rg' : gR} (hr : ∀ C, rg' 6 (nI x) 0 C = fX1_both_B rg (nI x) C) : BOTH tk tv tp ep B t law K x rg' := by
  intro i cn n ps pl C M J pc pm hi hc hn hps hpl how hp0 htop
  rw [hr]
  unfold fX1_both_B
  rcases h1 i cn n ps pl C M J pc pm hi hc hn (by omega) hpl how hp0 (by omega) with hf | ⟨C2, i2, cn2, d2, n2, M2, J2, M02, ps2, pl2, n12, x12, e2, ⟨⟨c1, c2, c3, c4, c5, c6, c7⟩, c8, c9, ⟨c10, c11, st⟩, c12⟩, la2⟩
  · left
    refine FAILs_up hf (Nat.le_refl _) (Nat.le_refl _) (Nat.le_refl _) KC_rf KM_rf (fun m Q _ q => by rw [Nat.sub_self]; exact q) (fun C' e => ?_)
    rw [e, bdE, prE, gi_pos (show nI 0 = (0 : Int32) from rfl)]
    rfl
  · rw [e2, bdE, prE, gi_neg (show ¬ nI 1 = (0 : Int32) from one_ne)]
    exact both_lp rg hN hT ht hK hE hx h1 hps hpl how hp0 htop hn hc 301 0 i2 cn2 d2 n2 C2 M2 J2 M02 ps2 pl2 n12 x12 FU (by omega) (by show _ < 5000; omega) (by omega) ⟨⟨c1, c2, by omega, c4, c5, c6, c7⟩, c8, c9, ⟨c10, c11, fun r r0 r1 => st r r0 (by omega)⟩, c12⟩ la2
theorem either_lp (rg : gR) (hN : NXT tk tv tp ep B K) (hT : toksOK tk tv tp K) (ht : t < 4) (hK : K ≤ 300) (hE : tk K = 40) {x : Nat} (hx : x ≤ 8) (hrg : BOTH tk tv tp ep B t law K x rg)
    {i cn n ps : Nat} {pl : Nat → Nat} {C M : gI} {J : gJ} (hps : ps ≤ 6 * x + 0) (hpl : ∀ j, j < ps → pl j < 44) (how : onw pl ps = 42) (hp0 : 0 < ps) (htop : rk (pl (ps - 1)) < 1) (hnp : n + ps ≤ i) (hci : cn ≤ i) :
    ∀ g q i' cn' d n' (C' M' : gI) (J' : gJ) M0 ps1 pl1 n1 x1 m6, K - i' < g → K - i' < m6 → 2 * q + i + 1 ≤ i' → QST tk tv tp ep B t law K 1 (5 * (8 - x) + 6) i cn n ps pl x C M J C' i' cn' d n' M' J' M0 ps1 pl1 n1 x1 → (¬ tk i' = 17 ∧ ¬ tk i' = 31 ∧ ¬ tk i' = 32 ∧ ¬ tk i' = 33 ∧ ¬ tk i' = 34) →
    FAILs tp t K i cn n C M J (bd (fX1_either_12 rg m6 (nI x) (nI q) C') (sm (fun (I29 : gI) => some ((0 : Int32), I29)) (fun (I31 : gI) => some ((1 : Int32), I31)))) ∨ OKC tk tv tp ep B t law K 1 (5 * (8 - x) + 6) (fun k => ¬ k = 16 ∧ ¬ k = 17 ∧ ¬ k = 31 ∧ ¬ k = 32 ∧ ¬ k = 33 ∧ ¬ k = 34) i cn n ps pl x C M J (bd (fX1_either_12 rg m6 (nI x) (nI q) C') (sm (fun (I29 : gI) => some ((0 : Int32), I29)) (fun (I31 : gI) => some ((1 : Int32), I31)))) := by
  intro g
  induction g with
  | zero => intro q i' cn' d n' C' M' J' M0 ps1 pl1 n1 x1 m6 hg; omega
  | succ g ih =>
    intro q i' cn' d n' C' M' J' M0 ps1 pl1 n1 x1 m6 hg hm6 hq hQ hla
    have hQ0 := hQ
    obtain ⟨⟨a1, a2, a3, a4, a5, a6, a7⟩, ⟨pc, kc⟩, ⟨pm, km, b1, b2, b3, b4, b5, b6⟩, ⟨pm0, km0, st⟩, hcor, hpr⟩ := hQ
    obtain ⟨m6, rfl⟩ : ∃ a, m6 = a + 1 := ⟨m6 - 1, by omega⟩
    have q300 : ¬ 300 ≤ q := by omega
    have i301 : i' < 301 := by omega
    have ek := (pc.2.2.2.2.1 i' (by omega)).1
    have hb := (hT i' (by omega)).1
    have eK : fX1_either_12 rg (m6 + 1) (nI x) (nI q) C' = gi (tk i' = 16) (bd (rg 6 (nI x) 0 (wI C' 275 4 (nI (i' + 1)))) (pr (fun (u15 : Int32) (I16 : gI) => gi (u15 = 0)
 (some (Sum.inl I16))
 (gd (gAt LC (I16 275 6).toNatClampNeg 0 3) (bd (fX3_emit ((I16 275 6).toNatClampNeg) (nI 16) (nI 0) I16) (pr (fun (_ : Int32) (I22 : gI) => fX1_either_12 rg m6 (nI x) (nI (q + 1)) I22))))))) (some (Sum.inr C')) := by
      rw [sX1_either_12, fX1_either_12b]
      rw [gi_neg (show ¬ (300 : Int32) ≤ nI q from fun z => q300 ((leN (a := 300) (b := q) (by omega) (by omega)).mp z)), pc.1, gdN i301 (by omega), clN (by omega), ek, show (nI (tk i') = (16 : Int32)) = (tk i' = 16) from eqN (a := tk i') (b := 16) (by omega) (by omega), lzE, show nI i' + (1 : Int32) = nI (i' + 1) from addN i' 1, show nI q + (1 : Int32) = nI (q + 1) from addN q 1]
      rfl
    rw [eK]
    clear eK
    by_cases cop : tk i' = 16
    · rw [gi_pos cop]
      have iK := ltK hE a2 (by omega)
      have hr : rk 22 = 1 := by decide
      have hpl100 : ∀ j, j < ps → pl j < 100 := fun j hj => by have := hpl j hj; omega
      have ebw : bwI (tk i') (onw pl1 ps1) (cpd pl1 ps1) = 22 + 1 := by
        rw [b5, b6, cop, bw_q (by omega) (by omega) (by omega) (by omega), if_neg (by omega), if_neg (show ¬ 16 = 17 by omega), if_pos rfl]
      have hset : fX7_settle (nI (if rk 22 = 4 then 5 else rk 22)) M' = some M0 := by
        rw [hr, if_neg (by omega), st 1 (by omega) (by omega)]
        exact stl_run (stl_stop pm0 (by omega) hpl100 (by omega) (Or.inr htop)) (by omega)
      obtain ⟨M1, J1, pm1, km1, w1⟩ := bh_op hN pm (by omega) (fun j hj => by have := b4 j hj; omega) ebw hset pm0 (by omega) (by omega)
      obtain ⟨q1, q2⟩ := qs_pu (u := 22) hpl (by omega)
      obtain ⟨pcn, kcn⟩ := PC_on pc ht
      have kmA : KM t n M M1 := KM_tr (KM_tr km km0 (by omega)) km1 (by omega)
      have w1' : PROG t i (i' + 1) n M J M1 J1 := PROG_tr hpr (PROG_1 (n := n) (fun m Q q => w1 m Q q)) (by omega) (by omega) (Nat.le_refl _)
      rcases hrg (i' + 1) cn' n' (ps + 1) (pu1 pl ps 22) _ M1 J1 pcn pm1 (by omega) (by omega) (by omega) (by omega) q1 (q2.trans how) (by omega) (by rw [Nat.add_sub_cancel, pu1_e, hr]; omega) with hf | ⟨C2, i2, cn2, d2, n2, M2, J2, M02, ps2, pl2, n12, x12, e2, ⟨⟨c1, c2, c3, c4, c5, c6, c7⟩, ⟨pc2, kc2⟩, ⟨pm2, km2, g1, g2, g3, g4, g5, g6⟩, ⟨pm02, km02, st2⟩, cor2, pr2⟩, la2⟩
      · left
        refine FAILs_up hf (by omega) (by omega) (by omega) (KC_tr kc kcn (by omega)) kmA w1' (fun C' e => ?_)
        rw [e, bdE, prE, gi_pos (show nI 0 = (0 : Int32) from rfl)]
        rfl
      · obtain ⟨C3, e3, pc3, kc3, c3a, c3b⟩ := emit6 pc2 ht (by omega) 16 0
        obtain ⟨M3, pm3, km3, c3, st3⟩ := pop_eq pm02 ht (by omega) (fun j hj => by have := q1 j hj; omega) (by rw [pu1_e]; omega) (by omega) (fun z => by rw [pu1_e, hr] at z; omega)
        rw [pu1_e] at c3 st3 pm3
        rw [if_neg (by omega)] at pm3
        rw [e2, bdE, prE, gi_neg (show ¬ nI 1 = (0 : Int32) from one_ne), pc2.2.2.1, gAn ht, clN (by omega), e3, bdE, prE]
        refine ih (q + 1) i2 (cn2 + 1) (max d (d2 + 1)) (n2 + 1) C3 M2 J2 M3 ps2 pl2 n12 x12 m6 (by omega) (by omega) (by omega) ⟨⟨by omega, c2, by omega, by omega, by omega, by omega, by omega⟩, ⟨pc3, KC_tr (KC_tr (KC_tr kc kcn (by omega)) kc2 (by omega)) kc3 (by omega)⟩, ⟨pm2, KM_tr kmA km2 (by omega), by omega, by omega, g3, g4, g5, g6⟩, ⟨PM_pl pm3 (fun j hj => (pu1_n (by omega)).symm), KM_tr km02 km3 (by omega), fun r r0 r1 => (st2 r r0 (by omega)).trans (st3 r r0 (by omega))⟩, ?_, PROG_tr w1' pr2 (by omega) (by omega) (by omega)⟩ la2
        refine Cor_jo (by unfold joP; omega) c3a c3 ?_ (Cor_up cor2 kc3 km3)
        exact Cor_up hcor (KC_tr (KC_tr kcn kc2 (by omega)) kc3 (by omega)) (KM_tr (KM_tr (KM_tr km1 km2 (by omega)) km02 (by omega)) km3 (by omega))
    · right
      rw [gi_neg cop]
      exact ⟨C', i', cn', d, n', M', J', M0, ps1, pl1, n1, x1, rfl, hQ0, ⟨cop, hla⟩⟩
theorem either_step {x : Nat} (hx : x ≤ 8) (hN : NXT tk tv tp ep B K) (hT : toksOK tk tv tp K) (ht : t < 4) (hK : K ≤ 300) (hE : tk K = 40) {rg : gR} (h1 : BOTH tk tv tp ep B t law K x rg) {rg' : gR} (hr : ∀ C, rg' 5 (nI x) 0 C = fX1_either_B rg (nI x) C) : EITH tk tv tp ep B t law K x rg' := by
  intro i cn n ps pl C M J pc pm hi hc hn hps hpl how hp0 htop
  rw [hr]
  unfold fX1_either_B
  rcases h1 i cn n ps pl C M J pc pm hi hc hn (by omega) hpl how hp0 (by omega) with hf | ⟨C2, i2, cn2, d2, n2, M2, J2, M02, ps2, pl2, n12, x12, e2, ⟨⟨c1, c2, c3, c4, c5, c6, c7⟩, c8, c9, ⟨c10, c11, st⟩, c12⟩, la2⟩
  · left
    refine FAILs_up hf (Nat.le_refl _) (Nat.le_refl _) (Nat.le_refl _) KC_rf KM_rf (fun m Q _ q => by rw [Nat.sub_self]; exact q) (fun C' e => ?_)
    rw [e, bdE, prE, gi_pos (show nI 0 = (0 : Int32) from rfl)]
    rfl
  · rw [e2, bdE, prE, gi_neg (show ¬ nI 1 = (0 : Int32) from one_ne)]
    exact either_lp rg hN hT ht hK hE hx h1 hps hpl how hp0 htop hn hc 301 0 i2 cn2 d2 n2 C2 M2 J2 M02 ps2 pl2 n12 x12 FU (by omega) (by show _ < 5000; omega) (by omega) ⟨⟨c1, c2, by omega, c4, c5, c6, c7⟩, c8, c9, ⟨c10, c11, fun r r0 r1 => st r r0 (by omega)⟩, c12⟩ la2
end CD
