-- 76: PURE PART: products and sums, both readers alike (out of gen76.py and pure.py)
theorem RQ_up {t n m : Nat} {Q : Int32 → gI → gJ → Prop} (h : RQ t n Q) (hm : n ≤ m) : RQ t m Q := fun M1 M2 J a b q => h M1 M2 J a ⟨b.1, b.2.1, fun k hk => b.2.2 k (by omega)⟩ q
theorem PM_pl {tk tv tp ep : Nat → Nat} {B : gI} {t law i n ps x w : Nat} {pl pl' : Nat → Nat} {M : gI} {J : gJ} (h : PM tk tv tp ep B t law i n ps pl x w M J) (e : ∀ j, j < ps → pl' j = pl j) : PM tk tv tp ep B t law i n ps pl' x w M J :=
  ⟨h.1, h.2.1, h.2.2.1, h.2.2.2.1, h.2.2.2.2.1, h.2.2.2.2.2.1, h.2.2.2.2.2.2.1, h.2.2.2.2.2.2.2.1, fun j hj => by rw [e j hj]; exact h.2.2.2.2.2.2.2.2 j hj⟩
/-- the reference gets from here to there -/
def PROG (t i i' n : Nat) (M : gI) (J : gJ) (M' : gI) (J' : gJ) : Prop := ∀ m Q, RQ t n Q → wpF m M' J' Q → wpF (m + (i' - i)) M J Q
/-- both find a fault -/
def FAILs (tp : Nat → Nat) (t K i cn n : Nat) (C M : gI) (J : gJ) (res : Option (Int32 × gI)) : Prop := ∃ C' f j, res = some (nI 0, C') ∧ C' 275 7 = nI f ∧ i ≤ j ∧ j ≤ K ∧ C' 275 8 = nI (tp j) ∧ KC t cn C C' ∧ 0 < f ∧ f < 7 ∧ ∀ m Q, RQ t n Q → K + 2 ≤ m + i → (∀ Mf Jf, Mf 0 8 = nI (tp j) → KM t n M Mf → Q (nI f) Mf Jf) → wpF m M J Q
/-- both read one ONE; settling the reference goes on -/
def OK7 (tk tv tp ep : Nat → Nat) (B : gI) (t law K dB i cn n ps : Nat) (pl : Nat → Nat) (x : Nat) (C M : gI) (J : gJ) (res : Option (Int32 × gI)) : Prop := ∃ C' i' cn' d n' M' J', res = some (nI 1, C') ∧ i < i' ∧ i' ≤ K ∧ PC tk tv tp t law i' cn' C' ∧ KC t cn C C' ∧ d ≤ dB ∧ cn < cn' ∧ cn' + i ≤ cn + i' ∧ n < n' ∧ n' + i ≤ n + i' ∧ PM tk tv tp ep B t law i' n' ps pl x 1 M' J' ∧ KM t n M M' ∧ Cor (C' (296 + 8 * t + 4)) (C' (296 + 8 * t + 5)) (rC (M' 3) t) (rO (M' 3) t) 0 d cn cn' n n' ∧ ∀ m Q, RQ t n Q → wp7 m M' J' Q → wpF (m + (i' - i)) M J Q
/-- both read a product or a sum -/
def OKF (tk tv tp ep : Nat → Nat) (B : gI) (t law K dB : Nat) (la : Nat → Prop) (i cn n ps : Nat) (pl : Nat → Nat) (x : Nat) (C M : gI) (J : gJ) (res : Option (Int32 × gI)) : Prop := ∃ C' i' cn' d n' M' J', res = some (nI 1, C') ∧ i < i' ∧ i' ≤ K ∧ PC tk tv tp t law i' cn' C' ∧ KC t cn C C' ∧ d ≤ dB ∧ cn < cn' ∧ cn' + i ≤ cn + i' ∧ n < n' ∧ n' + i ≤ n + i' ∧ PM tk tv tp ep B t law i' n' ps pl x 1 M' J' ∧ KM t n M M' ∧ Cor (C' (296 + 8 * t + 4)) (C' (296 + 8 * t + 5)) (rC (M' 3) t) (rO (M' 3) t) 0 d cn cn' n n' ∧ la (tk i') ∧ PROG t i i' n M J M' J'
def ONE (tk tv tp ep : Nat → Nat) (B : gI) (t law K x : Nat) (rg : gR) : Prop := ∀ i cn n ps pl C M J, PC tk tv tp t law i cn C → PM tk tv tp ep B t law i n ps pl x 0 M J → i ≤ K → cn ≤ i → n + ps ≤ i → ps ≤ 6 * x + 5 → (∀ j, j < ps → pl j < 44) → (aaI pl ps = 1 → ¬ tk i = 18) → FAILs tp t K i cn n C M J (rg 2 (nI x) 0 C) ∨ OK7 tk tv tp ep B t law K (5 * (8 - x) + 1) i cn n ps pl x C M J (rg 2 (nI x) 0 C)
def PROD (tk tv tp ep : Nat → Nat) (B : gI) (t law K x : Nat) (rg : gR) : Prop := ∀ i cn n ps pl C M J, PC tk tv tp t law i cn C → PM tk tv tp ep B t law i n ps pl x 0 M J → i ≤ K → cn ≤ i → n + ps ≤ i → ps ≤ 6 * x + 4 → (∀ j, j < ps → pl j < 44) → (ps = 0 ∨ rk (pl (ps - 1)) < 6) → (aaI pl ps = 1 → ¬ tk i = 18) → FAILs tp t K i cn n C M J (rg 1 (nI x) 0 C) ∨ OKF tk tv tp ep B t law K (5 * (8 - x) + 2) (fun k => ¬ k = 33 ∧ ¬ k = 34) i cn n ps pl x C M J (rg 1 (nI x) 0 C)
def SUM (tk tv tp ep : Nat → Nat) (B : gI) (t law K x : Nat) (rg : gR) : Prop := ∀ i cn n ps pl C M J, PC tk tv tp t law i cn C → PM tk tv tp ep B t law i n ps pl x 0 M J → i ≤ K → cn ≤ i → n + ps ≤ i → ps ≤ 6 * x + 3 → (∀ j, j < ps → pl j < 44) → (ps = 0 ∨ rk (pl (ps - 1)) < 5) → (aaI pl ps = 1 → ¬ tk i = 18) → FAILs tp t K i cn n C M J (rg 0 (nI x) 0 C) ∨ OKF tk tv tp ep B t law K (5 * (8 - x) + 3) (fun k => ¬ k = 31 ∧ ¬ k = 32 ∧ ¬ k = 33 ∧ ¬ k = 34) i cn n ps pl x C M J (rg 0 (nI x) 0 C)
section PS
variable {tk tv tp ep : Nat → Nat} {B : gI} {t law K : Nat}
/-- product: the loop -/
theorem product_lp (rg : gR) (hN : NXT tk tv tp ep B K) (hT : toksOK tk tv tp K) (ht : t < 4) (hK : K ≤ 300) (hE : tk K = 40) {x : Nat} (hx : x ≤ 8) (hrg : ONE tk tv tp ep B t law K x rg)
    {i cn n ps : Nat} {pl : Nat → Nat} {C M : gI} {J : gJ} (hps : ps ≤ 6 * x + 4) (hpl : ∀ j, j < ps → pl j < 44) (htop : ps = 0 ∨ rk (pl (ps - 1)) < 6) :
    ∀ g q i' cn' d n' (C' M' : gI) (J' : gJ) m6, K - i' < g → K - i' < m6 → 2 * q + i + 1 ≤ i' → i' ≤ K → PC tk tv tp t law i' cn' C' → KC t cn C C' → d ≤ (5 * (8 - x) + 2) → cn < cn' → cn' + i ≤ cn + i' → n < n' → n' + i ≤ n + i' → n + ps ≤ i → cn ≤ i → PM tk tv tp ep B t law i' n' ps pl x 1 M' J' → KM t n M M' → Cor (C' (296 + 8 * t + 4)) (C' (296 + 8 * t + 5)) (rC (M' 3) t) (rO (M' 3) t) 0 d cn cn' n n' → PROG t i i' n M J M' J' → 
    FAILs tp t K i cn n C M J (bd (fX1_product_12 rg m6 (nI x) (nI q) C') (sm (fun (I35 : gI) => some ((0 : Int32), I35)) (fun (I37 : gI) => some ((1 : Int32), I37)))) ∨ OKF tk tv tp ep B t law K (5 * (8 - x) + 2) (fun k => ¬ k = 33 ∧ ¬ k = 34) i cn n ps pl x C M J (bd (fX1_product_12 rg m6 (nI x) (nI q) C') (sm (fun (I35 : gI) => some ((0 : Int32), I35)) (fun (I37 : gI) => some ((1 : Int32), I37)))) := by
  intro g
  induction g with
  | zero => intro q i' cn' d n' C' M' J' m6 hg; omega
  | succ g ih =>
    intro q i' cn' d n' C' M' J' m6 hg hm6 hq hiK pc kc hd hc1 hc2 hn1 hn2 hnp hci pm km hcor hpr
    obtain ⟨m6, rfl⟩ : ∃ a, m6 = a + 1 := ⟨m6 - 1, by omega⟩
    have q300 : ¬ 300 ≤ q := by omega
    have i301 : i' < 301 := by omega
    have pc' := pc
    obtain ⟨h1, h2, h3, h4, h5, _, _⟩ := pc'
    have ek := (h5 i' (by omega)).1
    have hb := (hT i' (by omega)).1
    rw [sX1_product_12, fX1_product_12b]
    simp (disch := (first | assumption | trivial | omega)) only [lit, leN, q300, giFa, h1, gdN, clN, ek, lzE, addN, eqN]
    by_cases cop : tk i' = 33 ∨ tk i' = 34
    · have hne40 : ¬ tk i' = 40 := by omega
      have hiK2 : i' < K := by
        apply Decidable.byContradiction
        intro z
        have : i' = K := by omega
        rw [this] at hne40
        exact hne40 hE
      obtain ⟨u, o, hu, ho, huo⟩ : ∃ u o, tk i' = o ∧ biP o u ∧ bwI (tk i') (onw pl ps) (cpd pl ps) = u + 1 := by
        rcases cop with z | z
        · refine ⟨8, 33, z, by unfold biP; omega, ?_⟩
          rw [z]; unfold bwI; simp
        · refine ⟨9, 34, z, by unfold biP; omega, ?_⟩
          rw [z]; unfold bwI; simp
      have hu2 : u = 8 ∨ u = 9 := by
        unfold biP at ho
        rcases cop with z | z <;> omega
      have hrk : rk u = 6 := by
        rcases hu2 with z | z <;> rw [z] <;> decide
      have hpl100 : ∀ j, j < ps → pl j < 100 := fun j hj => by have := hpl j hj; omega
      -- the reference lays it on its pile
      have hset : fX7_settle (nI (if rk u = 4 then 5 else rk u)) M' = some M' := by
        rw [hrk, if_neg (by decide)]
        exact stl_run (stl_stop pm (by omega) hpl100 (by omega) htop) (by omega)
      obtain ⟨M1, J1, pm1, km1, w1⟩ := bh_op hN pm (by omega) hpl100 huo hset pm (by omega) (by omega)
      have hpl1 : ∀ j, j < ps + 1 → pu1 pl ps u j < 44 := fun j hj => by
        by_cases e : j = ps
        · subst e; rw [pu1_e]; omega
        · rw [pu1_n e]; exact hpl j (by omega)
      have haa : aaI (pu1 pl ps u) (ps + 1) = 0 := by
        unfold aaI
        rw [Nat.add_sub_cancel, pu1_e, hrk, if_neg (show ¬ 40 ≤ u by omega), if_neg (show ¬ (1 ≤ 6 ∧ 6 ≤ 3) by omega)]
        by_cases z : onw (pu1 pl ps u) (ps + 1) = 42
        · rw [if_pos z]
        · rw [if_neg z]
      obtain ⟨pcn, kcn⟩ := PC_on pc ht
      have hres := hrg (i' + 1) cn' n' (ps + 1) (pu1 pl ps u) (wI C' 275 4 (nI (i' + 1))) M1 J1 pcn pm1 (by omega) (by omega) (by omega) (by omega) hpl1 (fun z => by rw [haa] at z; exact absurd z (by decide))
      have jn : gi (tk i' = 33) (bd (rg 2 (nI x) (nI 0) (wI C' 275 4 (nI (i' + 1)))) (pr (fun (u19 : Int32) (I20 : gI) => gi (u19 = nI 0) (some (Sum.inl I20)) (gd (gAt LC (I20 275 6).toNatClampNeg 0 3) (bd (fX3_emit ((I20 275 6).toNatClampNeg) (nI (tk i')) (nI 0) I20) (pr (fun (_ : Int32) (I26 : gI) => fX1_product_12 rg m6 (nI x) (nI (q + 1)) I26))))))) (gi (tk i' = 34) (bd (rg 2 (nI x) (nI 0) (wI C' 275 4 (nI (i' + 1)))) (pr (fun (u19 : Int32) (I20 : gI) => gi (u19 = nI 0) (some (Sum.inl I20)) (gd (gAt LC (I20 275 6).toNatClampNeg 0 3) (bd (fX3_emit ((I20 275 6).toNatClampNeg) (nI (tk i')) (nI 0) I20) (pr (fun (_ : Int32) (I26 : gI) => fX1_product_12 rg m6 (nI x) (nI (q + 1)) I26))))))) (some (Sum.inr C'))) = bd (rg 2 (nI x) (nI 0) (wI C' 275 4 (nI (i' + 1)))) (pr (fun (u19 : Int32) (I20 : gI) => gi (u19 = nI 0) (some (Sum.inl I20)) (gd (gAt LC (I20 275 6).toNatClampNeg 0 3) (bd (fX3_emit ((I20 275 6).toNatClampNeg) (nI (tk i')) (nI 0) I20) (pr (fun (_ : Int32) (I26 : gI) => fX1_product_12 rg m6 (nI x) (nI (q + 1)) I26)))))) := by
        rcases cop with z | z
        · rw [gi_pos z]
        · rw [gi_neg (by omega), gi_pos z]
      rw [jn]
      rcases hres with ⟨C2, f, j, e2, f7, j1, j2, f8, kc2, f0, f1, hw⟩ | ⟨C2, i2, cn2, d2, n2, M2, J2, e2, a1, a2, pc2, kc2, a3, a4, a5, a6, a7, pm2, km2, cor2, w2⟩
      · left
        refine ⟨C2, f, j, ?_, f7, by omega, j2, f8, KC_tr (KC_tr kc kcn (by omega)) kc2 (by omega), f0, f1, fun m Q hQ hm hq' => ?_⟩
        · rw [show rg 2 (nI x) (nI 0) (wI C' 275 4 (nI (i' + 1))) = some (nI 0, C2) from e2, bdE, prE, gi_pos rfl]
          rfl
        · obtain ⟨m', rfl⟩ : ∃ m', m = m' + 1 + (i' - i) := ⟨m - 1 - (i' - i), by omega⟩
          refine hpr (m' + 1) Q hQ (w1 m' Q (hw m' Q (RQ_up hQ (by omega)) (by omega) (fun Mf Jf z1 z2 => hq' Mf Jf z1 ?_)))
          exact KM_tr (KM_tr km km1 (by omega)) z2 (by omega)
      · have e6 : C2 275 6 = nI (296 + 8 * t) := pc2.2.2.1
        obtain ⟨C3, e3, pc3, kc3, c3a, c3b⟩ := emit6 pc2 ht (by omega) (tk i') 0
        have erun : bd (rg 2 (nI x) (nI 0) (wI C' 275 4 (nI (i' + 1)))) (pr (fun (u19 : Int32) (I20 : gI) => gi (u19 = nI 0) (some (Sum.inl I20)) (gd (gAt LC (I20 275 6).toNatClampNeg 0 3) (bd (fX3_emit ((I20 275 6).toNatClampNeg) (nI (tk i')) (nI 0) I20) (pr (fun (_ : Int32) (I26 : gI) => fX1_product_12 rg m6 (nI x) (nI (q + 1)) I26)))))) = fX1_product_12 rg m6 (nI x) (nI (q + 1)) C3 := by
          rw [show rg 2 (nI x) (nI 0) (wI C' 275 4 (nI (i' + 1))) = some (nI 1, C2) from e2, bdE, prE, gi_neg (show ¬ nI 1 = nI 0 by decide), e6, gAn ht, clN (by omega), e3]
          rfl
        rw [erun]
        -- what waits is laid
        obtain ⟨M4, pm4, km4, c4, w4⟩ := flush pm2 ht (by omega) (fun j hj => by have := hpl1 j hj; omega) (by rw [pu1_e]; omega) (by omega) (fun z => by rw [pu1_e] at z; omega)
        rw [pu1_e] at c4
        have pm4' := PM_pl pm4 (pl' := pl) (fun j hj => (pu1_n (by omega)).symm)
        have cora : Cor (C3 (296 + 8 * t + 4)) (C3 (296 + 8 * t + 5)) (rC (M4 3) t) (rO (M4 3) t) 0 d cn cn' n n' := by
          refine (Cor_ag hcor).2.2 (fun a z1 z2 => ?_) (fun a z1 z2 => ?_)
          · have k1 := kcn.2.2.2 a z2
            have k2 := kc2.2.2.2 a (by omega)
            have k3 := kc3.2.2.2 a (by omega)
            exact ⟨k3.1.trans (k2.1.trans k1.1), k3.2.trans (k2.2.trans k1.2)⟩
          · have k1 := KM_rc km1 (p := a) (by omega)
            have k2 := KM_rc km2 (p := a) (by omega)
            have k3 := KM_rc km4 (p := a) (by omega)
            exact ⟨k3.1.trans (k2.1.trans k1.1), k3.2.trans (k2.2.trans k1.2)⟩
        have corb : Cor (C3 (296 + 8 * t + 4)) (C3 (296 + 8 * t + 5)) (rC (M4 3) t) (rO (M4 3) t) 0 d2 cn' cn2 n' n2 := by
          refine (Cor_ag cor2).2.2 (fun a z1 z2 => ?_) (fun a z1 z2 => ?_)
          · exact kc3.2.2.2 a z2
          · exact KM_rc km4 z2
        have corc := Cor_bi ho (by rw [c3a, hu]) c4 cora corb
        have hw3 : PROG t i i2 n M J M4 J2 := by
          intro m Q hQ hz
          have hQ' := RQ_up hQ (show n ≤ n' by omega)
          have hQ'' := RQ_up hQ (show n ≤ n2 by omega)
          rw [show m + (i2 - i) = (m + (i2 - (i' + 1))) + 1 + (i' - i) by omega]
          refine hpr _ Q hQ (w1 _ Q (w2 m Q hQ' ?_))
          exact ⟨M2, stl_run (stl_stop pm2 (by omega) (fun j hj => by have := hpl1 j hj; omega) (by omega) (Or.inr (by rw [Nat.add_sub_cancel, pu1_e, hrk]; decide))) (by omega), w4 m Q hQ'' hz⟩
        exact ih (q + 1) i2 (cn2 + 1) (max d (d2 + 1)) (n2 + 1) C3 M4 J2 m6 (by omega) (by omega) (by omega) a2 pc3 (KC_tr (KC_tr (KC_tr kc kcn (by omega)) kc2 (by omega)) kc3 (by omega)) (by omega) (by omega) (by omega) (by omega) (by omega) hnp hci pm4' (KM_tr (KM_tr (KM_tr km km1 (by omega)) km2 (by omega)) km4 (by omega)) corc hw3
    · have c1 : ¬ tk i' = 33 := fun z => cop (Or.inl z)
      have c2 : ¬ tk i' = 34 := fun z => cop (Or.inr z)
      right
      refine ⟨C', i', cn', d, n', M', J', ?_, by omega, hiK, pc, kc, hd, hc1, hc2, hn1, hn2, pm, km, hcor, ⟨c1, c2⟩, hpr⟩
      rw [gi_neg c1, gi_neg c2]
      rfl
/-- sum: the loop -/
theorem sum_lp (rg : gR) (hN : NXT tk tv tp ep B K) (hT : toksOK tk tv tp K) (ht : t < 4) (hK : K ≤ 300) (hE : tk K = 40) {x : Nat} (hx : x ≤ 8) (hrg : PROD tk tv tp ep B t law K x rg)
    {i cn n ps : Nat} {pl : Nat → Nat} {C M : gI} {J : gJ} (hps : ps ≤ 6 * x + 3) (hpl : ∀ j, j < ps → pl j < 44) (htop : ps = 0 ∨ rk (pl (ps - 1)) < 5) :
    ∀ g q i' cn' d n' (C' M' : gI) (J' : gJ) m6, K - i' < g → K - i' < m6 → 2 * q + i + 1 ≤ i' → i' ≤ K → PC tk tv tp t law i' cn' C' → KC t cn C C' → d ≤ (5 * (8 - x) + 3) → cn < cn' → cn' + i ≤ cn + i' → n < n' → n' + i ≤ n + i' → n + ps ≤ i → cn ≤ i → PM tk tv tp ep B t law i' n' ps pl x 1 M' J' → KM t n M M' → Cor (C' (296 + 8 * t + 4)) (C' (296 + 8 * t + 5)) (rC (M' 3) t) (rO (M' 3) t) 0 d cn cn' n n' → PROG t i i' n M J M' J' → (¬ tk i' = 33 ∧ ¬ tk i' = 34) →
    FAILs tp t K i cn n C M J (bd (fX1_sum_12 rg m6 (nI x) (nI q) C') (sm (fun (I35 : gI) => some ((0 : Int32), I35)) (fun (I37 : gI) => some ((1 : Int32), I37)))) ∨ OKF tk tv tp ep B t law K (5 * (8 - x) + 3) (fun k => ¬ k = 31 ∧ ¬ k = 32 ∧ ¬ k = 33 ∧ ¬ k = 34) i cn n ps pl x C M J (bd (fX1_sum_12 rg m6 (nI x) (nI q) C') (sm (fun (I35 : gI) => some ((0 : Int32), I35)) (fun (I37 : gI) => some ((1 : Int32), I37)))) := by
  intro g
  induction g with
  | zero => intro q i' cn' d n' C' M' J' m6 hg; omega
  | succ g ih =>
    intro q i' cn' d n' C' M' J' m6 hg hm6 hq hiK pc kc hd hc1 hc2 hn1 hn2 hnp hci pm km hcor hpr hsl
    obtain ⟨m6, rfl⟩ : ∃ a, m6 = a + 1 := ⟨m6 - 1, by omega⟩
    have q300 : ¬ 300 ≤ q := by omega
    have i301 : i' < 301 := by omega
    have pc' := pc
    obtain ⟨h1, h2, h3, h4, h5, _, _⟩ := pc'
    have ek := (h5 i' (by omega)).1
    have hb := (hT i' (by omega)).1
    rw [sX1_sum_12, fX1_sum_12b]
    simp (disch := (first | assumption | trivial | omega)) only [lit, leN, q300, giFa, h1, gdN, clN, ek, lzE, addN, eqN]
    by_cases cop : tk i' = 31 ∨ tk i' = 32
    · have hne40 : ¬ tk i' = 40 := by omega
      have hiK2 : i' < K := by
        apply Decidable.byContradiction
        intro z
        have : i' = K := by omega
        rw [this] at hne40
        exact hne40 hE
      obtain ⟨u, o, hu, ho, huo⟩ : ∃ u o, tk i' = o ∧ biP o u ∧ bwI (tk i') (onw pl ps) (cpd pl ps) = u + 1 := by
        rcases cop with z | z
        · refine ⟨6, 31, z, by unfold biP; omega, ?_⟩
          rw [z]; unfold bwI; simp
        · refine ⟨7, 32, z, by unfold biP; omega, ?_⟩
          rw [z]; unfold bwI; simp
      have hu2 : u = 6 ∨ u = 7 := by
        unfold biP at ho
        rcases cop with z | z <;> omega
      have hrk : rk u = 5 := by
        rcases hu2 with z | z <;> rw [z] <;> decide
      have hpl100 : ∀ j, j < ps → pl j < 100 := fun j hj => by have := hpl j hj; omega
      -- the reference lays it on its pile
      have hset : fX7_settle (nI (if rk u = 4 then 5 else rk u)) M' = some M' := by
        rw [hrk, if_neg (by decide)]
        exact stl_run (stl_stop pm (by omega) hpl100 (by omega) htop) (by omega)
      obtain ⟨M1, J1, pm1, km1, w1⟩ := bh_op hN pm (by omega) hpl100 huo hset pm (by omega) (by omega)
      have hpl1 : ∀ j, j < ps + 1 → pu1 pl ps u j < 44 := fun j hj => by
        by_cases e : j = ps
        · subst e; rw [pu1_e]; omega
        · rw [pu1_n e]; exact hpl j (by omega)
      have haa : aaI (pu1 pl ps u) (ps + 1) = 0 := by
        unfold aaI
        rw [Nat.add_sub_cancel, pu1_e, hrk, if_neg (show ¬ 40 ≤ u by omega), if_neg (show ¬ (1 ≤ 5 ∧ 5 ≤ 3) by omega)]
        by_cases z : onw (pu1 pl ps u) (ps + 1) = 42
        · rw [if_pos z]
        · rw [if_neg z]
      obtain ⟨pcn, kcn⟩ := PC_on pc ht
      have hres := hrg (i' + 1) cn' n' (ps + 1) (pu1 pl ps u) (wI C' 275 4 (nI (i' + 1))) M1 J1 pcn pm1 (by omega) (by omega) (by omega) (by omega) hpl1 (Or.inr (by rw [Nat.add_sub_cancel, pu1_e, hrk]; decide)) (fun z => by rw [haa] at z; exact absurd z (by decide))
      have jn : gi (tk i' = 31) (bd (rg 1 (nI x) (nI 0) (wI C' 275 4 (nI (i' + 1)))) (pr (fun (u19 : Int32) (I20 : gI) => gi (u19 = nI 0) (some (Sum.inl I20)) (gd (gAt LC (I20 275 6).toNatClampNeg 0 3) (bd (fX3_emit ((I20 275 6).toNatClampNeg) (nI (tk i')) (nI 0) I20) (pr (fun (_ : Int32) (I26 : gI) => fX1_sum_12 rg m6 (nI x) (nI (q + 1)) I26))))))) (gi (tk i' = 32) (bd (rg 1 (nI x) (nI 0) (wI C' 275 4 (nI (i' + 1)))) (pr (fun (u19 : Int32) (I20 : gI) => gi (u19 = nI 0) (some (Sum.inl I20)) (gd (gAt LC (I20 275 6).toNatClampNeg 0 3) (bd (fX3_emit ((I20 275 6).toNatClampNeg) (nI (tk i')) (nI 0) I20) (pr (fun (_ : Int32) (I26 : gI) => fX1_sum_12 rg m6 (nI x) (nI (q + 1)) I26))))))) (some (Sum.inr C'))) = bd (rg 1 (nI x) (nI 0) (wI C' 275 4 (nI (i' + 1)))) (pr (fun (u19 : Int32) (I20 : gI) => gi (u19 = nI 0) (some (Sum.inl I20)) (gd (gAt LC (I20 275 6).toNatClampNeg 0 3) (bd (fX3_emit ((I20 275 6).toNatClampNeg) (nI (tk i')) (nI 0) I20) (pr (fun (_ : Int32) (I26 : gI) => fX1_sum_12 rg m6 (nI x) (nI (q + 1)) I26)))))) := by
        rcases cop with z | z
        · rw [gi_pos z]
        · rw [gi_neg (by omega), gi_pos z]
      rw [jn]
      rcases hres with ⟨C2, f, j, e2, f7, j1, j2, f8, kc2, f0, f1, hw⟩ | ⟨C2, i2, cn2, d2, n2, M2, J2, e2, a1, a2, pc2, kc2, a3, a4, a5, a6, a7, pm2, km2, cor2, lk2, w2⟩
      · left
        refine ⟨C2, f, j, ?_, f7, by omega, j2, f8, KC_tr (KC_tr kc kcn (by omega)) kc2 (by omega), f0, f1, fun m Q hQ hm hq' => ?_⟩
        · rw [show rg 1 (nI x) (nI 0) (wI C' 275 4 (nI (i' + 1))) = some (nI 0, C2) from e2, bdE, prE, gi_pos rfl]
          rfl
        · obtain ⟨m', rfl⟩ : ∃ m', m = m' + 1 + (i' - i) := ⟨m - 1 - (i' - i), by omega⟩
          refine hpr (m' + 1) Q hQ (w1 m' Q (hw m' Q (RQ_up hQ (by omega)) (by omega) (fun Mf Jf z1 z2 => hq' Mf Jf z1 ?_)))
          exact KM_tr (KM_tr km km1 (by omega)) z2 (by omega)
      · have e6 : C2 275 6 = nI (296 + 8 * t) := pc2.2.2.1
        obtain ⟨C3, e3, pc3, kc3, c3a, c3b⟩ := emit6 pc2 ht (by omega) (tk i') 0
        have erun : bd (rg 1 (nI x) (nI 0) (wI C' 275 4 (nI (i' + 1)))) (pr (fun (u19 : Int32) (I20 : gI) => gi (u19 = nI 0) (some (Sum.inl I20)) (gd (gAt LC (I20 275 6).toNatClampNeg 0 3) (bd (fX3_emit ((I20 275 6).toNatClampNeg) (nI (tk i')) (nI 0) I20) (pr (fun (_ : Int32) (I26 : gI) => fX1_sum_12 rg m6 (nI x) (nI (q + 1)) I26)))))) = fX1_sum_12 rg m6 (nI x) (nI (q + 1)) C3 := by
          rw [show rg 1 (nI x) (nI 0) (wI C' 275 4 (nI (i' + 1))) = some (nI 1, C2) from e2, bdE, prE, gi_neg (show ¬ nI 1 = nI 0 by decide), e6, gAn ht, clN (by omega), e3]
          rfl
        rw [erun]
        -- what waits is laid
        obtain ⟨M4, pm4, km4, c4, w4⟩ := flush pm2 ht (by omega) (fun j hj => by have := hpl1 j hj; omega) (by rw [pu1_e]; omega) (by omega) (fun _ => lk2)
        rw [pu1_e] at c4
        have pm4' := PM_pl pm4 (pl' := pl) (fun j hj => (pu1_n (by omega)).symm)
        have cora : Cor (C3 (296 + 8 * t + 4)) (C3 (296 + 8 * t + 5)) (rC (M4 3) t) (rO (M4 3) t) 0 d cn cn' n n' := by
          refine (Cor_ag hcor).2.2 (fun a z1 z2 => ?_) (fun a z1 z2 => ?_)
          · have k1 := kcn.2.2.2 a z2
            have k2 := kc2.2.2.2 a (by omega)
            have k3 := kc3.2.2.2 a (by omega)
            exact ⟨k3.1.trans (k2.1.trans k1.1), k3.2.trans (k2.2.trans k1.2)⟩
          · have k1 := KM_rc km1 (p := a) (by omega)
            have k2 := KM_rc km2 (p := a) (by omega)
            have k3 := KM_rc km4 (p := a) (by omega)
            exact ⟨k3.1.trans (k2.1.trans k1.1), k3.2.trans (k2.2.trans k1.2)⟩
        have corb : Cor (C3 (296 + 8 * t + 4)) (C3 (296 + 8 * t + 5)) (rC (M4 3) t) (rO (M4 3) t) 0 d2 cn' cn2 n' n2 := by
          refine (Cor_ag cor2).2.2 (fun a z1 z2 => ?_) (fun a z1 z2 => ?_)
          · exact kc3.2.2.2 a z2
          · exact KM_rc km4 z2
        have corc := Cor_bi ho (by rw [c3a, hu]) c4 cora corb
        have hw3 : PROG t i i2 n M J M4 J2 := by
          intro m Q hQ hz
          have hQ' := RQ_up hQ (show n ≤ n' by omega)
          have hQ'' := RQ_up hQ (show n ≤ n2 by omega)
          rw [show m + (i2 - i) = (m + (i2 - (i' + 1))) + 1 + (i' - i) by omega]
          refine hpr _ Q hQ (w1 _ Q (w2 m Q hQ' ?_))
          exact w4 m Q hQ'' hz
        exact ih (q + 1) i2 (cn2 + 1) (max d (d2 + 1)) (n2 + 1) C3 M4 J2 m6 (by omega) (by omega) (by omega) a2 pc3 (KC_tr (KC_tr (KC_tr kc kcn (by omega)) kc2 (by omega)) kc3 (by omega)) (by omega) (by omega) (by omega) (by omega) (by omega) hnp hci pm4' (KM_tr (KM_tr (KM_tr km km1 (by omega)) km2 (by omega)) km4 (by omega)) corc hw3 lk2
    · have c1 : ¬ tk i' = 31 := fun z => cop (Or.inl z)
      have c2 : ¬ tk i' = 32 := fun z => cop (Or.inr z)
      right
      refine ⟨C', i', cn', d, n', M', J', ?_, by omega, hiK, pc, kc, hd, hc1, hc2, hn1, hn2, pm, km, hcor, ⟨c1, c2, hsl.1, hsl.2⟩, hpr⟩
      rw [gi_neg c1, gi_neg c2]
      rfl
end PS
