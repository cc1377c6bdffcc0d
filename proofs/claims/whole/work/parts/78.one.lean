-- 78: PURE PART: one ONE, both readers alike (out of gen78.py and pure.py)
def CHOICE (tk tv tp ep : Nat → Nat) (B : gI) (t law K x : Nat) (rg : gR) : Prop := ∀ i cn n ps pl C M J, PC tk tv tp t law i cn C → PM tk tv tp ep B t law i n (ps + 1) pl x 0 M J → pl ps = 41 → i ≤ K → cn + 1 ≤ i → n + (ps + 1) ≤ i → ps + 1 ≤ 6 * x → (∀ j, j < ps + 1 → pl j < 44) → 0 < x → FAILs tp t K i cn n C M J (rg 4 (nI x) 0 C) ∨ OK7 tk tv tp ep B t law K (5 * (8 - x) + 6) i cn n ps pl (x - 1) C M J (rg 4 (nI x) 0 C)
section PS
variable {tk tv tp ep : Nat → Nat} {B : gI} {t law K : Nat}
noncomputable def oneK (rg : gR) (x1 : Int32) (I : gI) (u2 : Int32) : Option (Int32 × gI) :=
  gi (u2 = (2 : Int32))
 (bd (fX1_name u2 (1 : Int32) I) (pr (fun (u5 : Int32) (I6 : gI) => some (u5, I6))))
 (gi (u2 = (3 : Int32))
 (bd (fX1_fails (1 : Int32) I) (pr (fun (u10 : Int32) (I11 : gI) => some (u10, I11))))
 (gi (u2 = (4 : Int32))
 (bd (fX1_name u2 (1 : Int32) I) (pr (fun (u15 : Int32) (I16 : gI) => some (u15, I16))))
 (gi (u2 = (5 : Int32))
 (bd (fX1_fails (1 : Int32) I) (pr (fun (u20 : Int32) (I21 : gI) => some (u20, I21))))
 (gi (u2 = (6 : Int32))
 (bd (fX1_fails (1 : Int32) I) (pr (fun (u25 : Int32) (I26 : gI) => some (u25, I26))))
 (gi (u2 = (7 : Int32))
 (bd (fX1_fails (1 : Int32) I) (pr (fun (u30 : Int32) (I31 : gI) => some (u30, I31))))
 (gi (u2 = (8 : Int32))
 (bd (fX1_fails (1 : Int32) I) (pr (fun (u35 : Int32) (I36 : gI) => some (u35, I36))))
 (gi (u2 = (9 : Int32))
 (bd (fX1_name u2 (1 : Int32) I) (pr (fun (u40 : Int32) (I41 : gI) => some (u40, I41))))
 (gi (u2 = (10 : Int32))
 (bd (fX1_opens x1 I) (pr (fun (u45 : Int32) (I46 : gI) => gi (u45 = 0)
 (some ((0 : Int32), I46))
 (bd (rg 3 u2 (x1 + (1 : Int32)) I46) (pr (fun (u50 : Int32) (I51 : gI) => gi (u50 = 0)
 (some ((0 : Int32), I51))
 (some ((1 : Int32), I51))))))))
 (gi (u2 = (11 : Int32))
 (bd (fX1_opens x1 I) (pr (fun (u56 : Int32) (I57 : gI) => gi (u56 = 0)
 (some ((0 : Int32), I57))
 (bd (rg 3 u2 (x1 + (1 : Int32)) I57) (pr (fun (u61 : Int32) (I62 : gI) => gi (u61 = 0)
 (some ((0 : Int32), I62))
 (some ((1 : Int32), I62))))))))
 (gi (u2 = (12 : Int32))
 (bd (fX1_opens x1 I) (pr (fun (u67 : Int32) (I68 : gI) => gi (u67 = 0)
 (some ((0 : Int32), I68))
 (bd (rg 4 (x1 + (1 : Int32)) (0 : Int32) I68) (pr (fun (u72 : Int32) (I73 : gI) => gi (u72 = 0)
 (some ((0 : Int32), I73))
 (some ((1 : Int32), I73))))))))
 (gi (u2 = (13 : Int32))
 (bd (fX1_fails (1 : Int32) I) (pr (fun (u78 : Int32) (I79 : gI) => some (u78, I79))))
 (gi (u2 = (14 : Int32))
 (bd (fX1_fails (1 : Int32) I) (pr (fun (u83 : Int32) (I84 : gI) => some (u83, I84))))
 (gi (u2 = (15 : Int32))
 (bd (fX1_fails (1 : Int32) I) (pr (fun (u88 : Int32) (I89 : gI) => some (u88, I89))))
 (gi (u2 = (16 : Int32))
 (bd (fX1_fails (1 : Int32) I) (pr (fun (u93 : Int32) (I94 : gI) => some (u93, I94))))
 (gi (u2 = (17 : Int32))
 (bd (fX1_fails (1 : Int32) I) (pr (fun (u98 : Int32) (I99 : gI) => some (u98, I99))))
 (gi (u2 = (18 : Int32))
 (bd (fX1_fails (1 : Int32) I) (pr (fun (u103 : Int32) (I104 : gI) => some (u103, I104))))
 (gi (u2 = (19 : Int32))
 (bd (fX1_name u2 (1 : Int32) I) (pr (fun (u108 : Int32) (I109 : gI) => some (u108, I109))))
 (gi (u2 = (20 : Int32))
 (bd (fX1_name u2 (1 : Int32) I) (pr (fun (u113 : Int32) (I114 : gI) => some (u113, I114))))
 (gi (u2 = (21 : Int32))
 (bd (fX1_name u2 (1 : Int32) I) (pr (fun (u118 : Int32) (I119 : gI) => some (u118, I119))))
 (gi (u2 = (22 : Int32))
 (lz (fun (u123 : Int32) => bd (fX1_name u2 u123 I) (pr (fun (u127 : Int32) (I128 : gI) => some (u127, I128)))) (fun j124 => gi ((I 275 5) = 0)
 (j124 (1 : Int32))
 (j124 (0 : Int32))))
 (gi (u2 = (23 : Int32))
 (lz (fun (u133 : Int32) => bd (fX1_name u2 u133 I) (pr (fun (u137 : Int32) (I138 : gI) => some (u137, I138)))) (fun j134 => gi ((I 275 5) = (1 : Int32))
 (j134 (1 : Int32))
 (j134 (0 : Int32))))
 (gi (u2 = (24 : Int32))
 (bd (fX1_number (0 : Int32) (9999 : Int32) I) (pr (fun (u143 : Int32) (I144 : gI) => gd (gAt LC (I144 275 6).toNatClampNeg 0 3) (bd (fX3_emit ((I144 275 6).toNatClampNeg) u2 u143 I144) (pr (fun (u148 : Int32) (I149 : gI) => gi (u143 = (-1 : Int32))
 (some ((0 : Int32), I149))
 (some ((1 : Int32), I149))))))))
 (gi (u2 = (25 : Int32))
 (bd (fX1_fails (1 : Int32) I) (pr (fun (u154 : Int32) (I155 : gI) => some (u154, I155))))
 (gi (u2 = (26 : Int32))
 (bd (fX1_fails (1 : Int32) I) (pr (fun (u159 : Int32) (I160 : gI) => some (u159, I160))))
 (gi (u2 = (27 : Int32))
 (bd (fX1_fails (1 : Int32) I) (pr (fun (u164 : Int32) (I165 : gI) => some (u164, I165))))
 (gi (u2 = (28 : Int32))
 (bd (fX1_fails (1 : Int32) I) (pr (fun (u169 : Int32) (I170 : gI) => some (u169, I170))))
 (gi (u2 = (29 : Int32))
 (bd (fX1_fails (1 : Int32) I) (pr (fun (u174 : Int32) (I175 : gI) => some (u174, I175))))
 (gi (u2 = (30 : Int32))
 (bd (fX1_fails (1 : Int32) I) (pr (fun (u179 : Int32) (I180 : gI) => some (u179, I180))))
 (gi (u2 = (31 : Int32))
 (bd (fX1_fails (1 : Int32) I) (pr (fun (u184 : Int32) (I185 : gI) => some (u184, I185))))
 (gi (u2 = (32 : Int32))
 (bd (fX1_opens x1 I) (pr (fun (u189 : Int32) (I190 : gI) => gi (u189 = 0)
 (some ((0 : Int32), I190))
 (bd (rg 3 (38 : Int32) (x1 + (1 : Int32)) I190) (pr (fun (u194 : Int32) (I195 : gI) => gi (u194 = 0)
 (some ((0 : Int32), I195))
 (some ((1 : Int32), I195))))))))
 (gi (u2 = (33 : Int32))
 (bd (fX1_fails (1 : Int32) I) (pr (fun (u200 : Int32) (I201 : gI) => some (u200, I201))))
 (gi (u2 = (34 : Int32))
 (bd (fX1_fails (1 : Int32) I) (pr (fun (u205 : Int32) (I206 : gI) => some (u205, I206))))
 (gi (u2 = (35 : Int32))
 (bd (fX1_opens x1 I) (pr (fun (u210 : Int32) (I211 : gI) => gi (u210 = 0)
 (some ((0 : Int32), I211))
 (bd (rg 0 (x1 + (1 : Int32)) (0 : Int32) I211) (pr (fun (u215 : Int32) (I216 : gI) => gi (u215 = 0)
 (some ((0 : Int32), I216))
 (bd (fX1_takes (36 : Int32) I216) (pr (fun (u220 : Int32) (I221 : gI) => gi (u220 = 0)
 (some ((0 : Int32), I221))
 (some ((1 : Int32), I221)))))))))))
 (bd (fX1_fails (1 : Int32) I) (pr (fun (u225 : Int32) (I226 : gI) => some (u225, I226)))))))))))))))))))))))))))))))))))))
theorem oneE {rg : gR} {x1 : Int32} {i k : Nat} {C : gI} {y : Option (Int32 × gI)} (h1 : C 275 4 = nI i) (hi : i < 301) (ek : C 276 i = nI k) (h : oneK rg x1 C (nI k) = y) : fX1_one_B rg x1 C = y := by
  unfold fX1_one_B
  rw [h1, gdN hi (by omega), clN (by omega), ek, lzE]
  exact h
theorem fail_here {i cn n ps x f : Nat} {pl : Nat → Nat} {C M : gI} {J : gJ} {res : Option (Int32 × gI)} (pm : PM tk tv tp ep B t law i n ps pl x 0 M J) (hi : i ≤ K) {C' : gI} (e : res = some (nI 0, C')) (f7 : C' 275 7 = nI f) (f8 : C' 275 8 = nI (tp i)) (kc : KC t cn C C') (h0 : 0 < f) (h7 : f < 7) (eb : fX7_beginOne M J = some (nI f, M, J)) : FAILs tp t K i cn n C M J res := by
  refine ⟨C', f, i, e, f7, Nat.le_refl _, hi, f8, kc, h0, h7, fun m Q hQ hm hq => ?_⟩
  obtain ⟨m', rfl⟩ : ∃ a, m = a + 1 := ⟨m - 1, by omega⟩
  refine bg_fault pm (fun z => ?_) eb m' (hq M J pm.1.2.1 KM_rf)
  have := (nI_eq (by omega) (by omega)).mp (show nI f = nI 0 from z)
  omega
theorem name6 {i cn : Nat} {C : gI} (pc : PC tk tv tp t law i cn C) (ht : t < 4) (hn : cn < 300) (k : Nat) : ∃ C', fX1_name (nI k) (nI 1) C = some (nI 1, C') ∧ PC tk tv tp t law (i + 1) (cn + 1) C' ∧ KC t cn C C' ∧ C' (296 + 8 * t + 4) cn = nI k := by
  obtain ⟨pc1, kc1⟩ := PC_on pc ht
  obtain ⟨C2, e2, pc2, kc2, c2, _⟩ := emit6 pc1 ht hn k 0
  refine ⟨C2, ?_, pc2, KC_tr kc1 kc2 (by omega), c2⟩
  unfold fX1_name
  rw [gi_neg (show ¬ nI 1 = (0 : Int32) from one_ne), pc.1]
  have e6 : (wI C 275 4 (nI (i + 1))) 275 6 = nI (296 + 8 * t) := pc1.2.2.1
  simp (disch := (first | assumption | trivial | omega)) only [lit, addN, lzE]
  rw [e6, gAn ht, clN (by omega), e2]
  rfl
theorem fails6e {i cn : Nat} {C : gI} (pc : PC tk tv tp t law i cn C) (hi : i ≤ 300) (f : Nat) : fX1_fails (nI f) C = some (nI 0, wI (wI C 275 7 (nI f)) 275 8 (nI (tp i))) := by
  have e := (pc.2.2.2.2.1 i hi).2.2
  unfold fX1_fails
  simp (disch := (first | assumption | trivial | omega)) only [lzE, pc.1, wI_ne, wI_o, gdN, clN, e, lit]
theorem name6n {i cn : Nat} {C : gI} (pc : PC tk tv tp t law i cn C) (ht : t < 4) (hi : i ≤ 300) (k : Nat) : ∃ C', fX1_name (nI k) (nI 0) C = some (nI 0, C') ∧ C' 275 7 = nI 5 ∧ C' 275 8 = nI (tp i) ∧ KC t cn C C' := by
  obtain ⟨C', e, q⟩ := fails6 pc ht hi 5
  refine ⟨C', ?_, q⟩
  unfold fX1_name
  rw [gi_pos (show nI 0 = (0 : Int32) from rfl), show (5 : Int32) = nI 5 from rfl, e]
  rfl
set_option maxHeartbeats 20000000 in
theorem one_step {x : Nat} (hx : x ≤ 8) (hN : NXT tk tv tp ep B K) (hT : toksOK tk tv tp K) (h38 : ∀ j, j ≤ K → ¬ tk j = 38) (ht : t < 4) (hl : law < 2) (hK : K ≤ 300) (hE : tk K = 40) {rg : gR} (hS : x < 8 → SUM tk tv tp ep B t law K (x + 1) rg) (hU : x < 8 → UNDER tk tv tp ep B t law K (x + 1) rg) (hCh : x < 8 → CHOICE tk tv tp ep B t law K (x + 1) rg) {rg' : gR} (hr : ∀ C, rg' 2 (nI x) 0 C = fX1_one_B rg (nI x) C) : ONE tk tv tp ep B t law K x rg' := by
  intro i cn n ps pl C M J pc pm hi hc hn hps hpl haa
  rw [hr]
  have hi3 : i ≤ 300 := by omega
  have ek := (pc.2.2.2.2.1 i hi3).1
  have ev := (pc.2.2.2.2.1 i hi3).2.1
  have hk := (hT i hi).1
  have hv := (hT i hi).2.1
  have h1 := pc.1
  have h5 := pc.2.1
  have h6 := pc.2.2.1
  have i301 : i < 301 := by omega
  have hpl100 : ∀ j, j < ps → pl j < 100 := fun j hj => by have := hpl j hj; omega
  have hps160 : ps < 160 := by omega
  have h38' := h38 i hi
  have lt40 : ¬ tk i = 40 → i < K := fun z => by
    apply Decidable.byContradiction
    intro y
    have : i = K := by omega
    rw [this] at z
    exact z hE
  -- a name
  have nameC : ∀ v, nmI (tk i) = v + 1 → (v < 6 ∨ (v = 6 ∧ law = 0) ∨ (v = 7 ∧ law = 1)) → nmC v = tk i → (fX1_one_B rg (nI x) C = bd (fX1_name (nI (tk i)) (nI 1) C) (pr (fun (a : Int32) (b : gI) => some (a, b)))) → OK7 tk tv tp ep B t law K (5 * (8 - x) + 1) i cn n ps pl x C M J (fX1_one_B rg (nI x) C) := by
    intro v h1 h2 h3 h4
    have hne : ¬ tk i = 40 := fun z => by rw [z] at h1; exact absurd h1 (by simp [nmI])
    have := lt40 hne
    obtain ⟨C2, e2, pc2, kc2, c2⟩ := name6 pc ht (by omega) (tk i)
    obtain ⟨M2, J2, pm2, km2, c3, o3, w3⟩ := bg_name hN pm ht hl (by omega) (by omega) h1 h2
    refine ⟨C2, i + 1, cn + 1, 1, n + 1, M2, J2, ?_, by omega, by omega, pc2, kc2, by omega, by omega, by omega, by omega, by omega, pm2, km2, Cor_name (v := v) (by omega) (by rw [c2, h3]) c3 o3, fun m Q hQ hz => ?_⟩
    · rw [h4, e2]
      rfl
    · rw [show m + (i + 1 - i) = m + 1 by omega]
      exact w3 m Q hz
  have nameF : ∀ v, nmI (tk i) = v + 1 → ¬ (v < 6 ∨ (v = 6 ∧ law = 0) ∨ (v = 7 ∧ law = 1)) → (fX1_one_B rg (nI x) C = bd (fX1_name (nI (tk i)) (nI 0) C) (pr (fun (a : Int32) (b : gI) => some (a, b)))) → FAILs tp t K i cn n C M J (fX1_one_B rg (nI x) C) := by
    intro v h1 h2 h4
    obtain ⟨C2, e2, f7, f8, kc2⟩ := name6n pc ht hi3 (tk i)
    exact fail_here pm hi (by rw [h4, e2]; rfl) f7 f8 kc2 (f := 5) (by omega) (by omega) (bg_name5 pm hl h1 h2)
  -- what is opened
  have openR : ∀ c, fX7_beginOne M J = fX7_opened (nI c) M J → ¬ tk i = 40 → x < 8 → ∃ M2 J2, PM tk tv tp ep B t law (i + 1) n (ps + 1) (pu1 pl ps c) (x + 1) 0 M2 J2 ∧ KM t n M M2 ∧ ∀ m Q, wpF m M2 J2 Q → wpF (m + 1) M J Q := by
    intro c e hne hx8
    have := lt40 hne
    obtain ⟨M2, J2, e2, pm2, km2⟩ := open7 hN pm (by omega) hne hx8 hps160 c
    exact ⟨M2, J2, pm2, km2, fun m Q q => bg_on pm (e.trans e2) m q⟩
  have openF : ∀ (c : Int32) (y : Int32 → gI → Option (Int32 × gI)), fX7_beginOne M J = fX7_opened c M J → ¬ x < 8 → (fX1_one_B rg (nI x) C = bd (fX1_opens (nI x) C) (pr (fun (a : Int32) (b : gI) => gi (a = nI 0) (some (nI 0, b)) (y a b)))) → FAILs tp t K i cn n C M J (fX1_one_B rg (nI x) C) := by
    intro c y e hx8 h4
    obtain ⟨C2, e2, f7, f8, kc2⟩ := opens6n pc ht hi3 hx8 (by omega)
    refine fail_here pm hi ?_ f7 f8 kc2 (f := 3) (by omega) (by omega) (e.trans (open7n pm (by omega) c))
    rw [h4, e2, bdE, prE, gi_pos rfl]
  have hpl1 : ∀ c, c < 44 → ∀ j, j < ps + 1 → pu1 pl ps c j < 44 := fun c hc j hj => by
    by_cases e : j = ps
    · subst e; rw [pu1_e]; exact hc
    · rw [pu1_n e]; exact hpl j (by omega)
  -- a unary operator
  have unaryC : ∀ a c, unP a c → fX7_beginOne M J = fX7_opened (nI c) M J → ¬ tk i = 40 → (fX1_one_B rg (nI x) C = bd (fX1_opens (nI x) C) (pr (fun (u : Int32) (b : gI) => gi (u = nI 0) (some (nI 0, b)) (bd (rg 3 (nI a) (nI (x + 1)) b) (pr (fun (u2 : Int32) (b2 : gI) => gi (u2 = nI 0) (some (nI 0, b2)) (some (nI 1, b2)))))))) → FAILs tp t K i cn n C M J (fX1_one_B rg (nI x) C) ∨ OK7 tk tv tp ep B t law K (5 * (8 - x) + 1) i cn n ps pl x C M J (fX1_one_B rg (nI x) C) := by
    intro a c hu e hne h4
    by_cases hx8 : x < 8
    · have hc44 : c < 44 := by unfold unP at hu; omega
      have := lt40 hne
      obtain ⟨M2, J2, pm2, km2, w2⟩ := openR c e hne hx8
      obtain ⟨pc2, kc2⟩ := PC_on pc ht
      have eo := opens6p pc hi3 hx8
      rcases hU hx8 a c (i + 1) cn n ps (pu1 pl ps c) _ M2 J2 hu pc2 pm2 pu1_e (by omega) (by omega) (by omega) (by omega) (hpl1 c hc44) (by omega) with ⟨C3, f, j, e3, f7, j1, j2, f8, kc3, f0, f1, hw⟩ | ⟨C3, i3, cn3, d3, n3, M3, J3, e3, a1, a2, pc3, kc3, a3, a4, a5, a6, a7, pm3, km3, cor3, w3⟩
      · left
        refine ⟨C3, f, j, ?_, f7, by omega, j2, f8, KC_tr kc2 kc3 (by omega), f0, f1, fun m Q hQ hm hq => ?_⟩
        · rw [h4, eo, bdE, prE, gi_neg (show ¬ nI 1 = nI 0 by decide), e3, bdE, prE, gi_pos rfl]
        · obtain ⟨m', rfl⟩ : ∃ a, m = a + 1 := ⟨m - 1, by omega⟩
          exact w2 m' Q (hw m' Q hQ (by omega) (fun Mf Jf z1 z2 => hq Mf Jf z1 (KM_tr km2 z2 (by omega))))
      · right
        rw [Nat.add_sub_cancel] at pm3
        refine ⟨C3, i3, cn3, d3, n3, M3, J3, ?_, by omega, a2, pc3, KC_tr kc2 kc3 (by omega), by omega, a4, by omega, a6, by omega, PM_pl pm3 (fun j hj => (pu1_n (by omega)).symm), KM_tr km2 km3 (by omega), cor3, fun m Q hQ hz => ?_⟩
        · rw [h4, eo, bdE, prE, gi_neg (show ¬ nI 1 = nI 0 by decide), e3, bdE, prE, gi_neg (show ¬ nI 1 = nI 0 by decide)]
        · rw [show m + (i3 - i) = (m + (i3 - (i + 1))) + 1 by omega]
          exact w2 _ Q (w3 m Q hQ hz)
    · left
      exact openF (nI c) _ e hx8 h4
  have hkk : tk i = 0 ∨ tk i = 1 ∨ tk i = 2 ∨ tk i = 3 ∨ tk i = 4 ∨ tk i = 5 ∨ tk i = 6 ∨ tk i = 7 ∨ tk i = 8 ∨ tk i = 9 ∨ tk i = 10 ∨ tk i = 11 ∨ tk i = 12 ∨ tk i = 13 ∨ tk i = 14 ∨ tk i = 15 ∨ tk i = 16 ∨ tk i = 17 ∨ tk i = 18 ∨ tk i = 19 ∨ tk i = 20 ∨ tk i = 21 ∨ tk i = 22 ∨ tk i = 23 ∨ tk i = 24 ∨ tk i = 25 ∨ tk i = 26 ∨ tk i = 27 ∨ tk i = 28 ∨ tk i = 29 ∨ tk i = 30 ∨ tk i = 31 ∨ tk i = 32 ∨ tk i = 33 ∨ tk i = 34 ∨ tk i = 35 ∨ tk i = 36 ∨ tk i = 37 ∨ tk i = 39 ∨ tk i = 40 := by omega
  -- what stands where nothing may
  have othC : ¬ tk i = 24 → nmI (tk i) = 0 → ¬ tk i = 35 → ¬ tk i = 32 → ¬ tk i = 10 → ¬ tk i = 11 → ¬ tk i = 12 → (∀ C', fX1_fails (nI 1) C = some (nI 0, C') → fX1_one_B rg (nI x) C = some (nI 0, C')) → FAILs tp t K i cn n C M J (fX1_one_B rg (nI x) C) := by
    intro a1 a2 a3 a4 a5 a6 a7 h4
    obtain ⟨C2, e2, f7, f8, kc2⟩ := fails6 pc ht hi3 1
    refine fail_here pm hi (h4 C2 e2) f7 f8 kc2 (f := 1) (by omega) (by omega) ?_
    rw [bg_oth pm hps160 hpl100 a1 a2, if_neg a3, if_neg a4, if_neg a5, if_neg a6, if_neg a7, if_neg (fun z => haa z.2 z.1)]
    rfl
  rcases hkk with e | e | e | e | e | e | e | e | e | e | e | e | e | e | e | e | e | e | e | e | e | e | e | e | e | e | e | e | e | e | e | e | e | e | e | e | e | e | e | e
  · left
    rw [e] at ek
    refine othC (by omega) (by rw [e]; rfl) (by omega) (by omega) (by omega) (by omega) (by omega) (fun C' z => ?_)
    refine oneE h1 i301 ek ?_
    refine Eq.trans (gi_neg (by decide)) (Eq.trans (gi_neg (by decide)) (Eq.trans (gi_neg (by decide)) (Eq.trans (gi_neg (by decide)) (Eq.trans (gi_neg (by decide)) (Eq.trans (gi_neg (by decide)) (Eq.trans (gi_neg (by decide)) (Eq.trans (gi_neg (by decide)) (Eq.trans (gi_neg (by decide)) (Eq.trans (gi_neg (by decide)) (Eq.trans (gi_neg (by decide)) (Eq.trans (gi_neg (by decide)) (Eq.trans (gi_neg (by decide)) (Eq.trans (gi_neg (by decide)) (Eq.trans (gi_neg (by decide)) (Eq.trans (gi_neg (by decide)) (Eq.trans (gi_neg (by decide)) (Eq.trans (gi_neg (by decide)) (Eq.trans (gi_neg (by decide)) (Eq.trans (gi_neg (by decide)) (Eq.trans (gi_neg (by decide)) (Eq.trans (gi_neg (by decide)) (Eq.trans (gi_neg (by decide)) (Eq.trans (gi_neg (by decide)) (Eq.trans (gi_neg (by decide)) (Eq.trans (gi_neg (by decide)) (Eq.trans (gi_neg (by decide)) (Eq.trans (gi_neg (by decide)) (Eq.trans (gi_neg (by decide)) (Eq.trans (gi_neg (by decide)) (Eq.trans (gi_neg (by decide)) (Eq.trans (gi_neg (by decide)) (Eq.trans (gi_neg (by decide)) (Eq.trans (gi_neg (by decide)) ?_)))))))))))))))))))))))))))))))))
    rw [show fX1_fails 1 C = some (nI 0, C') from z]
    rfl
  · left
    rw [e] at ek
    refine othC (by omega) (by rw [e]; rfl) (by omega) (by omega) (by omega) (by omega) (by omega) (fun C' z => ?_)
    refine oneE h1 i301 ek ?_
    refine Eq.trans (gi_neg (by decide)) (Eq.trans (gi_neg (by decide)) (Eq.trans (gi_neg (by decide)) (Eq.trans (gi_neg (by decide)) (Eq.trans (gi_neg (by decide)) (Eq.trans (gi_neg (by decide)) (Eq.trans (gi_neg (by decide)) (Eq.trans (gi_neg (by decide)) (Eq.trans (gi_neg (by decide)) (Eq.trans (gi_neg (by decide)) (Eq.trans (gi_neg (by decide)) (Eq.trans (gi_neg (by decide)) (Eq.trans (gi_neg (by decide)) (Eq.trans (gi_neg (by decide)) (Eq.trans (gi_neg (by decide)) (Eq.trans (gi_neg (by decide)) (Eq.trans (gi_neg (by decide)) (Eq.trans (gi_neg (by decide)) (Eq.trans (gi_neg (by decide)) (Eq.trans (gi_neg (by decide)) (Eq.trans (gi_neg (by decide)) (Eq.trans (gi_neg (by decide)) (Eq.trans (gi_neg (by decide)) (Eq.trans (gi_neg (by decide)) (Eq.trans (gi_neg (by decide)) (Eq.trans (gi_neg (by decide)) (Eq.trans (gi_neg (by decide)) (Eq.trans (gi_neg (by decide)) (Eq.trans (gi_neg (by decide)) (Eq.trans (gi_neg (by decide)) (Eq.trans (gi_neg (by decide)) (Eq.trans (gi_neg (by decide)) (Eq.trans (gi_neg (by decide)) (Eq.trans (gi_neg (by decide)) ?_)))))))))))))))))))))))))))))))))
    rw [show fX1_fails 1 C = some (nI 0, C') from z]
    rfl
  · right
    refine nameC 1 (by rw [e]; rfl) (by omega) (by rw [e]; rfl) ?_
    have ek' := ek
    rw [e] at ek'
    refine oneE h1 i301 ek' ?_
    refine Eq.trans (gi_pos rfl) ?_
    rw [e]
    rfl
  · left
    rw [e] at ek
    refine othC (by omega) (by rw [e]; rfl) (by omega) (by omega) (by omega) (by omega) (by omega) (fun C' z => ?_)
    refine oneE h1 i301 ek ?_
    refine Eq.trans (gi_neg (by decide)) (Eq.trans (gi_pos rfl) ?_)
    rw [show fX1_fails 1 C = some (nI 0, C') from z]
    rfl
  · right
    refine nameC 2 (by rw [e]; rfl) (by omega) (by rw [e]; rfl) ?_
    have ek' := ek
    rw [e] at ek'
    refine oneE h1 i301 ek' ?_
    refine Eq.trans (gi_neg (by decide)) (Eq.trans (gi_neg (by decide)) (Eq.trans (gi_pos rfl) ?_))
    rw [e]
    rfl
  · left
    rw [e] at ek
    refine othC (by omega) (by rw [e]; rfl) (by omega) (by omega) (by omega) (by omega) (by omega) (fun C' z => ?_)
    refine oneE h1 i301 ek ?_
    refine Eq.trans (gi_neg (by decide)) (Eq.trans (gi_neg (by decide)) (Eq.trans (gi_neg (by decide)) (Eq.trans (gi_pos rfl) ?_)))
    rw [show fX1_fails 1 C = some (nI 0, C') from z]
    rfl
  · left
    rw [e] at ek
    refine othC (by omega) (by rw [e]; rfl) (by omega) (by omega) (by omega) (by omega) (by omega) (fun C' z => ?_)
    refine oneE h1 i301 ek ?_
    refine Eq.trans (gi_neg (by decide)) (Eq.trans (gi_neg (by decide)) (Eq.trans (gi_neg (by decide)) (Eq.trans (gi_neg (by decide)) (Eq.trans (gi_pos rfl) ?_))))
    rw [show fX1_fails 1 C = some (nI 0, C') from z]
    rfl
  · left
    rw [e] at ek
    refine othC (by omega) (by rw [e]; rfl) (by omega) (by omega) (by omega) (by omega) (by omega) (fun C' z => ?_)
    refine oneE h1 i301 ek ?_
    refine Eq.trans (gi_neg (by decide)) (Eq.trans (gi_neg (by decide)) (Eq.trans (gi_neg (by decide)) (Eq.trans (gi_neg (by decide)) (Eq.trans (gi_neg (by decide)) (Eq.trans (gi_pos rfl) ?_)))))
    rw [show fX1_fails 1 C = some (nI 0, C') from z]
    rfl
  · left
    rw [e] at ek
    refine othC (by omega) (by rw [e]; rfl) (by omega) (by omega) (by omega) (by omega) (by omega) (fun C' z => ?_)
    refine oneE h1 i301 ek ?_
    refine Eq.trans (gi_neg (by decide)) (Eq.trans (gi_neg (by decide)) (Eq.trans (gi_neg (by decide)) (Eq.trans (gi_neg (by decide)) (Eq.trans (gi_neg (by decide)) (Eq.trans (gi_neg (by decide)) (Eq.trans (gi_pos rfl) ?_))))))
    rw [show fX1_fails 1 C = some (nI 0, C') from z]
    rfl
  · right
    refine nameC 0 (by rw [e]; rfl) (by omega) (by rw [e]; rfl) ?_
    have ek' := ek
    rw [e] at ek'
    refine oneE h1 i301 ek' ?_
    refine Eq.trans (gi_neg (by decide)) (Eq.trans (gi_neg (by decide)) (Eq.trans (gi_neg (by decide)) (Eq.trans (gi_neg (by decide)) (Eq.trans (gi_neg (by decide)) (Eq.trans (gi_neg (by decide)) (Eq.trans (gi_neg (by decide)) (Eq.trans (gi_pos rfl) ?_)))))))
    rw [e]
    rfl
  · have ek' := ek
    rw [e] at ek'
    refine unaryC 10 2 (by unfold unP; omega) ?_ (by omega) ?_
    · rw [bg_oth pm hps160 hpl100 (by omega) (by rw [e]; rfl)]
      simp only [e]
      rfl
    · refine oneE h1 i301 ek' ?_
      refine Eq.trans (gi_neg (by decide)) (Eq.trans (gi_neg (by decide)) (Eq.trans (gi_neg (by decide)) (Eq.trans (gi_neg (by decide)) (Eq.trans (gi_neg (by decide)) (Eq.trans (gi_neg (by decide)) (Eq.trans (gi_neg (by decide)) (Eq.trans (gi_neg (by decide)) (Eq.trans (gi_pos rfl) ?_))))))))
      rw [show nI x + (1 : Int32) = nI (x + 1) from addN x 1]
      rfl
  · have ek' := ek
    rw [e] at ek'
    refine unaryC 11 4 (by unfold unP; omega) ?_ (by omega) ?_
    · rw [bg_oth pm hps160 hpl100 (by omega) (by rw [e]; rfl)]
      simp only [e]
      rfl
    · refine oneE h1 i301 ek' ?_
      refine Eq.trans (gi_neg (by decide)) (Eq.trans (gi_neg (by decide)) (Eq.trans (gi_neg (by decide)) (Eq.trans (gi_neg (by decide)) (Eq.trans (gi_neg (by decide)) (Eq.trans (gi_neg (by decide)) (Eq.trans (gi_neg (by decide)) (Eq.trans (gi_neg (by decide)) (Eq.trans (gi_neg (by decide)) (Eq.trans (gi_pos rfl) ?_)))))))))
      rw [show nI x + (1 : Int32) = nI (x + 1) from addN x 1]
      rfl
  · have ek' := ek
    rw [e] at ek'
    have eb : fX7_beginOne M J = fX7_opened (nI 41) M J := by
      rw [bg_oth pm hps160 hpl100 (by omega) (by rw [e]; rfl)]
      simp only [e]
      rfl
    have h4 : fX1_one_B rg (nI x) C = bd (fX1_opens (nI x) C) (pr (fun (u : Int32) (b : gI) => gi (u = nI 0) (some (nI 0, b)) (bd (rg 4 (nI (x + 1)) (nI 0) b) (pr (fun (u2 : Int32) (b2 : gI) => gi (u2 = nI 0) (some (nI 0, b2)) (some (nI 1, b2))))))) := by
      refine oneE h1 i301 ek' ?_
      refine Eq.trans (gi_neg (by decide)) (Eq.trans (gi_neg (by decide)) (Eq.trans (gi_neg (by decide)) (Eq.trans (gi_neg (by decide)) (Eq.trans (gi_neg (by decide)) (Eq.trans (gi_neg (by decide)) (Eq.trans (gi_neg (by decide)) (Eq.trans (gi_neg (by decide)) (Eq.trans (gi_neg (by decide)) (Eq.trans (gi_neg (by decide)) (Eq.trans (gi_pos rfl) ?_))))))))))
      rw [show nI x + (1 : Int32) = nI (x + 1) from addN x 1]
      rfl
    by_cases hx8 : x < 8
    · have := lt40 (by omega)
      obtain ⟨M2, J2, pm2, km2, w2⟩ := openR 41 eb (by omega) hx8
      obtain ⟨pc2, kc2⟩ := PC_on pc ht
      have eo := opens6p pc hi3 hx8
      rcases hCh hx8 (i + 1) cn n ps (pu1 pl ps 41) _ M2 J2 pc2 pm2 pu1_e (by omega) (by omega) (by omega) (by omega) (hpl1 41 (by omega)) (by omega) with ⟨C3, f, j, e3, f7, j1, j2, f8, kc3, f0, f1, hw⟩ | ⟨C3, i3, cn3, d3, n3, M3, J3, e3, a1, a2, pc3, kc3, a3, a4, a5, a6, a7, pm3, km3, cor3, w3⟩
      · left
        refine ⟨C3, f, j, ?_, f7, by omega, j2, f8, KC_tr kc2 kc3 (by omega), f0, f1, fun m Q hQ hm hq => ?_⟩
        · rw [h4, eo, bdE, prE, gi_neg (show ¬ nI 1 = nI 0 by decide), show rg 4 (nI (x + 1)) (nI 0) _ = some (nI 0, C3) from e3, bdE, prE, gi_pos rfl]
        · obtain ⟨m', rfl⟩ : ∃ a, m = a + 1 := ⟨m - 1, by omega⟩
          exact w2 m' Q (hw m' Q hQ (by omega) (fun Mf Jf z1 z2 => hq Mf Jf z1 (KM_tr km2 z2 (by omega))))
      · right
        rw [Nat.add_sub_cancel] at pm3
        refine ⟨C3, i3, cn3, d3, n3, M3, J3, ?_, by omega, a2, pc3, KC_tr kc2 kc3 (by omega), by omega, a4, by omega, a6, by omega, PM_pl pm3 (fun j hj => (pu1_n (by omega)).symm), KM_tr km2 km3 (by omega), cor3, fun m Q hQ hz => ?_⟩
        · rw [h4, eo, bdE, prE, gi_neg (show ¬ nI 1 = nI 0 by decide), show rg 4 (nI (x + 1)) (nI 0) _ = some (nI 1, C3) from e3, bdE, prE, gi_neg (show ¬ nI 1 = nI 0 by decide)]
        · rw [show m + (i3 - i) = (m + (i3 - (i + 1))) + 1 by omega]
          exact w2 _ Q (w3 m Q hQ hz)
    · left
      exact openF (nI 41) _ eb hx8 h4
  · left
    rw [e] at ek
    refine othC (by omega) (by rw [e]; rfl) (by omega) (by omega) (by omega) (by omega) (by omega) (fun C' z => ?_)
    refine oneE h1 i301 ek ?_
    refine Eq.trans (gi_neg (by decide)) (Eq.trans (gi_neg (by decide)) (Eq.trans (gi_neg (by decide)) (Eq.trans (gi_neg (by decide)) (Eq.trans (gi_neg (by decide)) (Eq.trans (gi_neg (by decide)) (Eq.trans (gi_neg (by decide)) (Eq.trans (gi_neg (by decide)) (Eq.trans (gi_neg (by decide)) (Eq.trans (gi_neg (by decide)) (Eq.trans (gi_neg (by decide)) (Eq.trans (gi_pos rfl) ?_)))))))))))
    rw [show fX1_fails 1 C = some (nI 0, C') from z]
    rfl
  · left
    rw [e] at ek
    refine othC (by omega) (by rw [e]; rfl) (by omega) (by omega) (by omega) (by omega) (by omega) (fun C' z => ?_)
    refine oneE h1 i301 ek ?_
    refine Eq.trans (gi_neg (by decide)) (Eq.trans (gi_neg (by decide)) (Eq.trans (gi_neg (by decide)) (Eq.trans (gi_neg (by decide)) (Eq.trans (gi_neg (by decide)) (Eq.trans (gi_neg (by decide)) (Eq.trans (gi_neg (by decide)) (Eq.trans (gi_neg (by decide)) (Eq.trans (gi_neg (by decide)) (Eq.trans (gi_neg (by decide)) (Eq.trans (gi_neg (by decide)) (Eq.trans (gi_neg (by decide)) (Eq.trans (gi_pos rfl) ?_))))))))))))
    rw [show fX1_fails 1 C = some (nI 0, C') from z]
    rfl
  · left
    rw [e] at ek
    refine othC (by omega) (by rw [e]; rfl) (by omega) (by omega) (by omega) (by omega) (by omega) (fun C' z => ?_)
    refine oneE h1 i301 ek ?_
    refine Eq.trans (gi_neg (by decide)) (Eq.trans (gi_neg (by decide)) (Eq.trans (gi_neg (by decide)) (Eq.trans (gi_neg (by decide)) (Eq.trans (gi_neg (by decide)) (Eq.trans (gi_neg (by decide)) (Eq.trans (gi_neg (by decide)) (Eq.trans (gi_neg (by decide)) (Eq.trans (gi_neg (by decide)) (Eq.trans (gi_neg (by decide)) (Eq.trans (gi_neg (by decide)) (Eq.trans (gi_neg (by decide)) (Eq.trans (gi_neg (by decide)) (Eq.trans (gi_pos rfl) ?_)))))))))))))
    rw [show fX1_fails 1 C = some (nI 0, C') from z]
    rfl
  · left
    rw [e] at ek
    refine othC (by omega) (by rw [e]; rfl) (by omega) (by omega) (by omega) (by omega) (by omega) (fun C' z => ?_)
    refine oneE h1 i301 ek ?_
    refine Eq.trans (gi_neg (by decide)) (Eq.trans (gi_neg (by decide)) (Eq.trans (gi_neg (by decide)) (Eq.trans (gi_neg (by decide)) (Eq.trans (gi_neg (by decide)) (Eq.trans (gi_neg (by decide)) (Eq.trans (gi_neg (by decide)) (Eq.trans (gi_neg (by decide)) (Eq.trans (gi_neg (by decide)) (Eq.trans (gi_neg (by decide)) (Eq.trans (gi_neg (by decide)) (Eq.trans (gi_neg (by decide)) (Eq.trans (gi_neg (by decide)) (Eq.trans (gi_neg (by decide)) (Eq.trans (gi_pos rfl) ?_))))))))))))))
    rw [show fX1_fails 1 C = some (nI 0, C') from z]
    rfl
  · left
    rw [e] at ek
    refine othC (by omega) (by rw [e]; rfl) (by omega) (by omega) (by omega) (by omega) (by omega) (fun C' z => ?_)
    refine oneE h1 i301 ek ?_
    refine Eq.trans (gi_neg (by decide)) (Eq.trans (gi_neg (by decide)) (Eq.trans (gi_neg (by decide)) (Eq.trans (gi_neg (by decide)) (Eq.trans (gi_neg (by decide)) (Eq.trans (gi_neg (by decide)) (Eq.trans (gi_neg (by decide)) (Eq.trans (gi_neg (by decide)) (Eq.trans (gi_neg (by decide)) (Eq.trans (gi_neg (by decide)) (Eq.trans (gi_neg (by decide)) (Eq.trans (gi_neg (by decide)) (Eq.trans (gi_neg (by decide)) (Eq.trans (gi_neg (by decide)) (Eq.trans (gi_neg (by decide)) (Eq.trans (gi_pos rfl) ?_)))))))))))))))
    rw [show fX1_fails 1 C = some (nI 0, C') from z]
    rfl
  · left
    rw [e] at ek
    refine othC (by omega) (by rw [e]; rfl) (by omega) (by omega) (by omega) (by omega) (by omega) (fun C' z => ?_)
    refine oneE h1 i301 ek ?_
    refine Eq.trans (gi_neg (by decide)) (Eq.trans (gi_neg (by decide)) (Eq.trans (gi_neg (by decide)) (Eq.trans (gi_neg (by decide)) (Eq.trans (gi_neg (by decide)) (Eq.trans (gi_neg (by decide)) (Eq.trans (gi_neg (by decide)) (Eq.trans (gi_neg (by decide)) (Eq.trans (gi_neg (by decide)) (Eq.trans (gi_neg (by decide)) (Eq.trans (gi_neg (by decide)) (Eq.trans (gi_neg (by decide)) (Eq.trans (gi_neg (by decide)) (Eq.trans (gi_neg (by decide)) (Eq.trans (gi_neg (by decide)) (Eq.trans (gi_neg (by decide)) (Eq.trans (gi_pos rfl) ?_))))))))))))))))
    rw [show fX1_fails 1 C = some (nI 0, C') from z]
    rfl
  · right
    refine nameC 3 (by rw [e]; rfl) (by omega) (by rw [e]; rfl) ?_
    have ek' := ek
    rw [e] at ek'
    refine oneE h1 i301 ek' ?_
    refine Eq.trans (gi_neg (by decide)) (Eq.trans (gi_neg (by decide)) (Eq.trans (gi_neg (by decide)) (Eq.trans (gi_neg (by decide)) (Eq.trans (gi_neg (by decide)) (Eq.trans (gi_neg (by decide)) (Eq.trans (gi_neg (by decide)) (Eq.trans (gi_neg (by decide)) (Eq.trans (gi_neg (by decide)) (Eq.trans (gi_neg (by decide)) (Eq.trans (gi_neg (by decide)) (Eq.trans (gi_neg (by decide)) (Eq.trans (gi_neg (by decide)) (Eq.trans (gi_neg (by decide)) (Eq.trans (gi_neg (by decide)) (Eq.trans (gi_neg (by decide)) (Eq.trans (gi_neg (by decide)) (Eq.trans (gi_pos rfl) ?_)))))))))))))))))
    rw [e]
    rfl
  · right
    refine nameC 4 (by rw [e]; rfl) (by omega) (by rw [e]; rfl) ?_
    have ek' := ek
    rw [e] at ek'
    refine oneE h1 i301 ek' ?_
    refine Eq.trans (gi_neg (by decide)) (Eq.trans (gi_neg (by decide)) (Eq.trans (gi_neg (by decide)) (Eq.trans (gi_neg (by decide)) (Eq.trans (gi_neg (by decide)) (Eq.trans (gi_neg (by decide)) (Eq.trans (gi_neg (by decide)) (Eq.trans (gi_neg (by decide)) (Eq.trans (gi_neg (by decide)) (Eq.trans (gi_neg (by decide)) (Eq.trans (gi_neg (by decide)) (Eq.trans (gi_neg (by decide)) (Eq.trans (gi_neg (by decide)) (Eq.trans (gi_neg (by decide)) (Eq.trans (gi_neg (by decide)) (Eq.trans (gi_neg (by decide)) (Eq.trans (gi_neg (by decide)) (Eq.trans (gi_neg (by decide)) (Eq.trans (gi_pos rfl) ?_))))))))))))))))))
    rw [e]
    rfl
  · right
    refine nameC 5 (by rw [e]; rfl) (by omega) (by rw [e]; rfl) ?_
    have ek' := ek
    rw [e] at ek'
    refine oneE h1 i301 ek' ?_
    refine Eq.trans (gi_neg (by decide)) (Eq.trans (gi_neg (by decide)) (Eq.trans (gi_neg (by decide)) (Eq.trans (gi_neg (by decide)) (Eq.trans (gi_neg (by decide)) (Eq.trans (gi_neg (by decide)) (Eq.trans (gi_neg (by decide)) (Eq.trans (gi_neg (by decide)) (Eq.trans (gi_neg (by decide)) (Eq.trans (gi_neg (by decide)) (Eq.trans (gi_neg (by decide)) (Eq.trans (gi_neg (by decide)) (Eq.trans (gi_neg (by decide)) (Eq.trans (gi_neg (by decide)) (Eq.trans (gi_neg (by decide)) (Eq.trans (gi_neg (by decide)) (Eq.trans (gi_neg (by decide)) (Eq.trans (gi_neg (by decide)) (Eq.trans (gi_neg (by decide)) (Eq.trans (gi_pos rfl) ?_)))))))))))))))))))
    rw [e]
    rfl
  · have ek' := ek
    rw [e] at ek'
    by_cases cl : law = 0
    · right
      refine nameC 6 (by rw [e]; rfl) (by omega) (by rw [e]; rfl) ?_
      refine oneE h1 i301 ek' ?_
      refine Eq.trans (gi_neg (by decide)) (Eq.trans (gi_neg (by decide)) (Eq.trans (gi_neg (by decide)) (Eq.trans (gi_neg (by decide)) (Eq.trans (gi_neg (by decide)) (Eq.trans (gi_neg (by decide)) (Eq.trans (gi_neg (by decide)) (Eq.trans (gi_neg (by decide)) (Eq.trans (gi_neg (by decide)) (Eq.trans (gi_neg (by decide)) (Eq.trans (gi_neg (by decide)) (Eq.trans (gi_neg (by decide)) (Eq.trans (gi_neg (by decide)) (Eq.trans (gi_neg (by decide)) (Eq.trans (gi_neg (by decide)) (Eq.trans (gi_neg (by decide)) (Eq.trans (gi_neg (by decide)) (Eq.trans (gi_neg (by decide)) (Eq.trans (gi_neg (by decide)) (Eq.trans (gi_neg (by decide)) (Eq.trans (gi_pos rfl) ?_))))))))))))))))))))
      rw [lzE, e]
      exact (gi_pos (by rw [h5, cl]; rfl)).trans rfl
    · left
      refine nameF 6 (by rw [e]; rfl) (by omega) ?_
      refine oneE h1 i301 ek' ?_
      refine Eq.trans (gi_neg (by decide)) (Eq.trans (gi_neg (by decide)) (Eq.trans (gi_neg (by decide)) (Eq.trans (gi_neg (by decide)) (Eq.trans (gi_neg (by decide)) (Eq.trans (gi_neg (by decide)) (Eq.trans (gi_neg (by decide)) (Eq.trans (gi_neg (by decide)) (Eq.trans (gi_neg (by decide)) (Eq.trans (gi_neg (by decide)) (Eq.trans (gi_neg (by decide)) (Eq.trans (gi_neg (by decide)) (Eq.trans (gi_neg (by decide)) (Eq.trans (gi_neg (by decide)) (Eq.trans (gi_neg (by decide)) (Eq.trans (gi_neg (by decide)) (Eq.trans (gi_neg (by decide)) (Eq.trans (gi_neg (by decide)) (Eq.trans (gi_neg (by decide)) (Eq.trans (gi_neg (by decide)) (Eq.trans (gi_pos rfl) ?_))))))))))))))))))))
      rw [lzE, e]
      exact (gi_neg (fun z => cl ((nI_eq (by omega) (by omega)).mp (show nI law = nI 0 from h5.symm.trans z)))).trans rfl
  · have ek' := ek
    rw [e] at ek'
    by_cases cl : law = 1
    · right
      refine nameC 7 (by rw [e]; rfl) (by omega) (by rw [e]; rfl) ?_
      refine oneE h1 i301 ek' ?_
      refine Eq.trans (gi_neg (by decide)) (Eq.trans (gi_neg (by decide)) (Eq.trans (gi_neg (by decide)) (Eq.trans (gi_neg (by decide)) (Eq.trans (gi_neg (by decide)) (Eq.trans (gi_neg (by decide)) (Eq.trans (gi_neg (by decide)) (Eq.trans (gi_neg (by decide)) (Eq.trans (gi_neg (by decide)) (Eq.trans (gi_neg (by decide)) (Eq.trans (gi_neg (by decide)) (Eq.trans (gi_neg (by decide)) (Eq.trans (gi_neg (by decide)) (Eq.trans (gi_neg (by decide)) (Eq.trans (gi_neg (by decide)) (Eq.trans (gi_neg (by decide)) (Eq.trans (gi_neg (by decide)) (Eq.trans (gi_neg (by decide)) (Eq.trans (gi_neg (by decide)) (Eq.trans (gi_neg (by decide)) (Eq.trans (gi_neg (by decide)) (Eq.trans (gi_pos rfl) ?_)))))))))))))))))))))
      rw [lzE, e]
      exact (gi_pos (by rw [h5, cl]; rfl)).trans rfl
    · left
      refine nameF 7 (by rw [e]; rfl) (by omega) ?_
      refine oneE h1 i301 ek' ?_
      refine Eq.trans (gi_neg (by decide)) (Eq.trans (gi_neg (by decide)) (Eq.trans (gi_neg (by decide)) (Eq.trans (gi_neg (by decide)) (Eq.trans (gi_neg (by decide)) (Eq.trans (gi_neg (by decide)) (Eq.trans (gi_neg (by decide)) (Eq.trans (gi_neg (by decide)) (Eq.trans (gi_neg (by decide)) (Eq.trans (gi_neg (by decide)) (Eq.trans (gi_neg (by decide)) (Eq.trans (gi_neg (by decide)) (Eq.trans (gi_neg (by decide)) (Eq.trans (gi_neg (by decide)) (Eq.trans (gi_neg (by decide)) (Eq.trans (gi_neg (by decide)) (Eq.trans (gi_neg (by decide)) (Eq.trans (gi_neg (by decide)) (Eq.trans (gi_neg (by decide)) (Eq.trans (gi_neg (by decide)) (Eq.trans (gi_neg (by decide)) (Eq.trans (gi_pos rfl) ?_)))))))))))))))))))))
      rw [lzE, e]
      exact (gi_neg (fun z => cl ((nI_eq (by omega) (by omega)).mp (show nI law = nI 1 from h5.symm.trans z)))).trans rfl
  · have ek' := ek
    rw [e] at ek'
    have := lt40 (by omega)
    by_cases cv : tv i < 10000
    · right
      obtain ⟨pc1, kc1⟩ := PC_on pc ht
      obtain ⟨C2, e2, pc2, kc2, c2, o2⟩ := emit6 pc1 ht (by omega) 24 (tv i)
      obtain ⟨M2, J2, pm2, km2, c3, o3, w3⟩ := bg_num hN pm ht (by omega) (by omega) e cv
      have e6 : (wI C 275 4 (nI (i + 1))) 275 6 = nI (296 + 8 * t) := pc1.2.2.1
      refine ⟨C2, i + 1, cn + 1, 1, n + 1, M2, J2, ?_, by omega, by omega, pc2, KC_tr kc1 kc2 (by omega), by omega, by omega, by omega, by omega, by omega, pm2, km2, Cor_num cv c2 o2 c3 o3, fun m Q hQ hz => ?_⟩
      · have wi := within_p (a := tv i) (lo := 0) (hi := 9999) (by omega) (by omega) (by omega) (by omega) (by omega)
        have num : fX1_number (nI 0) (nI 9999) C = some (nI (tv i), wI C 275 4 (nI (i + 1))) := by
          unfold fX1_number
          simp (disch := (first | assumption | trivial | omega)) only [h1, gdN, clN, ev, ek', lzE, lit, giTr, wi, eqN, giF, addN]
        have nm1 : ¬ nI (tv i) = -(nI 1) := nI_none (by omega)
        refine oneE h1 i301 ek' ?_
        refine Eq.trans (gi_neg (by decide)) (Eq.trans (gi_neg (by decide)) (Eq.trans (gi_neg (by decide)) (Eq.trans (gi_neg (by decide)) (Eq.trans (gi_neg (by decide)) (Eq.trans (gi_neg (by decide)) (Eq.trans (gi_neg (by decide)) (Eq.trans (gi_neg (by decide)) (Eq.trans (gi_neg (by decide)) (Eq.trans (gi_neg (by decide)) (Eq.trans (gi_neg (by decide)) (Eq.trans (gi_neg (by decide)) (Eq.trans (gi_neg (by decide)) (Eq.trans (gi_neg (by decide)) (Eq.trans (gi_neg (by decide)) (Eq.trans (gi_neg (by decide)) (Eq.trans (gi_neg (by decide)) (Eq.trans (gi_neg (by decide)) (Eq.trans (gi_neg (by decide)) (Eq.trans (gi_neg (by decide)) (Eq.trans (gi_neg (by decide)) (Eq.trans (gi_neg (by decide)) (Eq.trans (gi_pos rfl) ?_))))))))))))))))))))))
        rw [show fX1_number 0 9999 C = _ from num, bdE, prE, e6, gAn ht, clN (by omega), e2, bdE, prE, gi_neg (show ¬ nI (tv i) = -1 from nm1)]
        rfl
      · rw [show m + (i + 1 - i) = m + 1 by omega]
        exact w3 m Q hz
    · left
      obtain ⟨C2, hC2⟩ : ∃ C2, C2 = wI (wI C 275 7 (nI 2)) 275 8 (nI (tp i)) := ⟨_, rfl⟩
      have e2 : fX1_fails (nI 2) C = some (nI 0, C2) := by rw [hC2]; exact fails6e pc hi3 2
      have f7 : C2 275 7 = nI 2 := by rw [hC2, wI_ne (by omega), wI_eq]
      have f8 : C2 275 8 = nI (tp i) := by rw [hC2, wI_eq]
      have kc2 : KC t cn C C2 := by
        rw [hC2]
        exact ⟨fun o a _ _ _ => by rw [wI_o a, wI_o a], fun j _ b c => by rw [wI_ne (by omega), wI_ne (by omega)], fun j _ => by rw [wI_o (by omega), wI_o (by omega)], fun j _ => by rw [wI_o (by omega), wI_o (by omega), wI_o (by omega), wI_o (by omega)]; exact ⟨rfl, rfl⟩⟩
      have wi := within_n (a := tv i) (lo := 0) (hi := 9999) (by omega) (by omega) (by omega) (by omega)
      have num : fX1_number (nI 0) (nI 9999) C = some (oI 0, C2) := by
        unfold fX1_number
        simp (disch := (first | assumption | trivial | omega)) only [h1, gdN, clN, ev, ek', lzE, lit, giTr, wi, e2, bdE, prE]
        rfl
      have e6 : C2 275 6 = nI (296 + 8 * t) := (kc2.2.1 6 (by omega) (by omega) (by omega)).trans h6
      have e8 : C2 (296 + 8 * t) 8 = nI cn := by
        rw [hC2, wI_o (by omega), wI_o (by omega)]
        exact pc.2.2.2.1
      have em : ∃ C3, fX3_emit (296 + 8 * t) (nI 24) (oI 0) C2 = some (nI cn, C3) ∧ C3 275 7 = nI 2 ∧ C3 275 8 = nI (tp i) ∧ KC t cn C2 C3 := by
        have e := dec1' cn
        refine ⟨wI (wI (wI C2 (296 + 8 * t + 4) cn (nI 24)) (296 + 8 * t + 5) cn (oI 0)) (296 + 8 * t) 8 (nI (cn + 1)), ?_, ?_, ?_, ⟨fun o a b c d => ?_, fun j a b c => ?_, fun j a => ?_, fun j a => ⟨?_, ?_⟩⟩⟩
        · unfold fX3_emit
          simp (disch := (first | assumption | trivial | omega)) only [lzE, e8, lit, leN, giF, gdN, clN, wI_o, addN, wI_eq, e]
        · rw [wI_o (by omega), wI_o (by omega), wI_o (by omega)]; exact f7
        · rw [wI_o (by omega), wI_o (by omega), wI_o (by omega)]; exact f8
        · rw [wI_o b, wI_o d, wI_o c]
        · rw [wI_o (by omega), wI_o (by omega), wI_o (by omega)]
        · rw [wI_ne (by omega), wI_o (by omega), wI_o (by omega)]
        · rw [wI_o (by omega), wI_o (by omega), wI_ne (by omega)]
        · rw [wI_o (by omega), wI_ne (by omega), wI_o (by omega)]
      obtain ⟨C3, e3, g7, g8, kc3⟩ := em
      refine fail_here pm hi ?_ g7 g8 (KC_tr kc2 kc3 (by omega)) (f := 2) (by omega) (by omega) (bg_num9 pm e cv)
      refine oneE h1 i301 ek' ?_
      refine Eq.trans (gi_neg (by decide)) (Eq.trans (gi_neg (by decide)) (Eq.trans (gi_neg (by decide)) (Eq.trans (gi_neg (by decide)) (Eq.trans (gi_neg (by decide)) (Eq.trans (gi_neg (by decide)) (Eq.trans (gi_neg (by decide)) (Eq.trans (gi_neg (by decide)) (Eq.trans (gi_neg (by decide)) (Eq.trans (gi_neg (by decide)) (Eq.trans (gi_neg (by decide)) (Eq.trans (gi_neg (by decide)) (Eq.trans (gi_neg (by decide)) (Eq.trans (gi_neg (by decide)) (Eq.trans (gi_neg (by decide)) (Eq.trans (gi_neg (by decide)) (Eq.trans (gi_neg (by decide)) (Eq.trans (gi_neg (by decide)) (Eq.trans (gi_neg (by decide)) (Eq.trans (gi_neg (by decide)) (Eq.trans (gi_neg (by decide)) (Eq.trans (gi_neg (by decide)) (Eq.trans (gi_pos rfl) ?_))))))))))))))))))))))
      rw [show fX1_number 0 9999 C = _ from num, bdE, prE, e6, gAn ht, clN (by omega), e3, bdE, prE, gi_pos (show oI 0 = -1 from rfl)]
      rfl
  · left
    rw [e] at ek
    refine othC (by omega) (by rw [e]; rfl) (by omega) (by omega) (by omega) (by omega) (by omega) (fun C' z => ?_)
    refine oneE h1 i301 ek ?_
    refine Eq.trans (gi_neg (by decide)) (Eq.trans (gi_neg (by decide)) (Eq.trans (gi_neg (by decide)) (Eq.trans (gi_neg (by decide)) (Eq.trans (gi_neg (by decide)) (Eq.trans (gi_neg (by decide)) (Eq.trans (gi_neg (by decide)) (Eq.trans (gi_neg (by decide)) (Eq.trans (gi_neg (by decide)) (Eq.trans (gi_neg (by decide)) (Eq.trans (gi_neg (by decide)) (Eq.trans (gi_neg (by decide)) (Eq.trans (gi_neg (by decide)) (Eq.trans (gi_neg (by decide)) (Eq.trans (gi_neg (by decide)) (Eq.trans (gi_neg (by decide)) (Eq.trans (gi_neg (by decide)) (Eq.trans (gi_neg (by decide)) (Eq.trans (gi_neg (by decide)) (Eq.trans (gi_neg (by decide)) (Eq.trans (gi_neg (by decide)) (Eq.trans (gi_neg (by decide)) (Eq.trans (gi_neg (by decide)) (Eq.trans (gi_pos rfl) ?_)))))))))))))))))))))))
    rw [show fX1_fails 1 C = some (nI 0, C') from z]
    rfl
  · left
    rw [e] at ek
    refine othC (by omega) (by rw [e]; rfl) (by omega) (by omega) (by omega) (by omega) (by omega) (fun C' z => ?_)
    refine oneE h1 i301 ek ?_
    refine Eq.trans (gi_neg (by decide)) (Eq.trans (gi_neg (by decide)) (Eq.trans (gi_neg (by decide)) (Eq.trans (gi_neg (by decide)) (Eq.trans (gi_neg (by decide)) (Eq.trans (gi_neg (by decide)) (Eq.trans (gi_neg (by decide)) (Eq.trans (gi_neg (by decide)) (Eq.trans (gi_neg (by decide)) (Eq.trans (gi_neg (by decide)) (Eq.trans (gi_neg (by decide)) (Eq.trans (gi_neg (by decide)) (Eq.trans (gi_neg (by decide)) (Eq.trans (gi_neg (by decide)) (Eq.trans (gi_neg (by decide)) (Eq.trans (gi_neg (by decide)) (Eq.trans (gi_neg (by decide)) (Eq.trans (gi_neg (by decide)) (Eq.trans (gi_neg (by decide)) (Eq.trans (gi_neg (by decide)) (Eq.trans (gi_neg (by decide)) (Eq.trans (gi_neg (by decide)) (Eq.trans (gi_neg (by decide)) (Eq.trans (gi_neg (by decide)) (Eq.trans (gi_pos rfl) ?_))))))))))))))))))))))))
    rw [show fX1_fails 1 C = some (nI 0, C') from z]
    rfl
  · left
    rw [e] at ek
    refine othC (by omega) (by rw [e]; rfl) (by omega) (by omega) (by omega) (by omega) (by omega) (fun C' z => ?_)
    refine oneE h1 i301 ek ?_
    refine Eq.trans (gi_neg (by decide)) (Eq.trans (gi_neg (by decide)) (Eq.trans (gi_neg (by decide)) (Eq.trans (gi_neg (by decide)) (Eq.trans (gi_neg (by decide)) (Eq.trans (gi_neg (by decide)) (Eq.trans (gi_neg (by decide)) (Eq.trans (gi_neg (by decide)) (Eq.trans (gi_neg (by decide)) (Eq.trans (gi_neg (by decide)) (Eq.trans (gi_neg (by decide)) (Eq.trans (gi_neg (by decide)) (Eq.trans (gi_neg (by decide)) (Eq.trans (gi_neg (by decide)) (Eq.trans (gi_neg (by decide)) (Eq.trans (gi_neg (by decide)) (Eq.trans (gi_neg (by decide)) (Eq.trans (gi_neg (by decide)) (Eq.trans (gi_neg (by decide)) (Eq.trans (gi_neg (by decide)) (Eq.trans (gi_neg (by decide)) (Eq.trans (gi_neg (by decide)) (Eq.trans (gi_neg (by decide)) (Eq.trans (gi_neg (by decide)) (Eq.trans (gi_neg (by decide)) (Eq.trans (gi_pos rfl) ?_)))))))))))))))))))))))))
    rw [show fX1_fails 1 C = some (nI 0, C') from z]
    rfl
  · left
    rw [e] at ek
    refine othC (by omega) (by rw [e]; rfl) (by omega) (by omega) (by omega) (by omega) (by omega) (fun C' z => ?_)
    refine oneE h1 i301 ek ?_
    refine Eq.trans (gi_neg (by decide)) (Eq.trans (gi_neg (by decide)) (Eq.trans (gi_neg (by decide)) (Eq.trans (gi_neg (by decide)) (Eq.trans (gi_neg (by decide)) (Eq.trans (gi_neg (by decide)) (Eq.trans (gi_neg (by decide)) (Eq.trans (gi_neg (by decide)) (Eq.trans (gi_neg (by decide)) (Eq.trans (gi_neg (by decide)) (Eq.trans (gi_neg (by decide)) (Eq.trans (gi_neg (by decide)) (Eq.trans (gi_neg (by decide)) (Eq.trans (gi_neg (by decide)) (Eq.trans (gi_neg (by decide)) (Eq.trans (gi_neg (by decide)) (Eq.trans (gi_neg (by decide)) (Eq.trans (gi_neg (by decide)) (Eq.trans (gi_neg (by decide)) (Eq.trans (gi_neg (by decide)) (Eq.trans (gi_neg (by decide)) (Eq.trans (gi_neg (by decide)) (Eq.trans (gi_neg (by decide)) (Eq.trans (gi_neg (by decide)) (Eq.trans (gi_neg (by decide)) (Eq.trans (gi_neg (by decide)) (Eq.trans (gi_pos rfl) ?_))))))))))))))))))))))))))
    rw [show fX1_fails 1 C = some (nI 0, C') from z]
    rfl
  · left
    rw [e] at ek
    refine othC (by omega) (by rw [e]; rfl) (by omega) (by omega) (by omega) (by omega) (by omega) (fun C' z => ?_)
    refine oneE h1 i301 ek ?_
    refine Eq.trans (gi_neg (by decide)) (Eq.trans (gi_neg (by decide)) (Eq.trans (gi_neg (by decide)) (Eq.trans (gi_neg (by decide)) (Eq.trans (gi_neg (by decide)) (Eq.trans (gi_neg (by decide)) (Eq.trans (gi_neg (by decide)) (Eq.trans (gi_neg (by decide)) (Eq.trans (gi_neg (by decide)) (Eq.trans (gi_neg (by decide)) (Eq.trans (gi_neg (by decide)) (Eq.trans (gi_neg (by decide)) (Eq.trans (gi_neg (by decide)) (Eq.trans (gi_neg (by decide)) (Eq.trans (gi_neg (by decide)) (Eq.trans (gi_neg (by decide)) (Eq.trans (gi_neg (by decide)) (Eq.trans (gi_neg (by decide)) (Eq.trans (gi_neg (by decide)) (Eq.trans (gi_neg (by decide)) (Eq.trans (gi_neg (by decide)) (Eq.trans (gi_neg (by decide)) (Eq.trans (gi_neg (by decide)) (Eq.trans (gi_neg (by decide)) (Eq.trans (gi_neg (by decide)) (Eq.trans (gi_neg (by decide)) (Eq.trans (gi_neg (by decide)) (Eq.trans (gi_pos rfl) ?_)))))))))))))))))))))))))))
    rw [show fX1_fails 1 C = some (nI 0, C') from z]
    rfl
  · left
    rw [e] at ek
    refine othC (by omega) (by rw [e]; rfl) (by omega) (by omega) (by omega) (by omega) (by omega) (fun C' z => ?_)
    refine oneE h1 i301 ek ?_
    refine Eq.trans (gi_neg (by decide)) (Eq.trans (gi_neg (by decide)) (Eq.trans (gi_neg (by decide)) (Eq.trans (gi_neg (by decide)) (Eq.trans (gi_neg (by decide)) (Eq.trans (gi_neg (by decide)) (Eq.trans (gi_neg (by decide)) (Eq.trans (gi_neg (by decide)) (Eq.trans (gi_neg (by decide)) (Eq.trans (gi_neg (by decide)) (Eq.trans (gi_neg (by decide)) (Eq.trans (gi_neg (by decide)) (Eq.trans (gi_neg (by decide)) (Eq.trans (gi_neg (by decide)) (Eq.trans (gi_neg (by decide)) (Eq.trans (gi_neg (by decide)) (Eq.trans (gi_neg (by decide)) (Eq.trans (gi_neg (by decide)) (Eq.trans (gi_neg (by decide)) (Eq.trans (gi_neg (by decide)) (Eq.trans (gi_neg (by decide)) (Eq.trans (gi_neg (by decide)) (Eq.trans (gi_neg (by decide)) (Eq.trans (gi_neg (by decide)) (Eq.trans (gi_neg (by decide)) (Eq.trans (gi_neg (by decide)) (Eq.trans (gi_neg (by decide)) (Eq.trans (gi_neg (by decide)) (Eq.trans (gi_pos rfl) ?_))))))))))))))))))))))))))))
    rw [show fX1_fails 1 C = some (nI 0, C') from z]
    rfl
  · left
    rw [e] at ek
    refine othC (by omega) (by rw [e]; rfl) (by omega) (by omega) (by omega) (by omega) (by omega) (fun C' z => ?_)
    refine oneE h1 i301 ek ?_
    refine Eq.trans (gi_neg (by decide)) (Eq.trans (gi_neg (by decide)) (Eq.trans (gi_neg (by decide)) (Eq.trans (gi_neg (by decide)) (Eq.trans (gi_neg (by decide)) (Eq.trans (gi_neg (by decide)) (Eq.trans (gi_neg (by decide)) (Eq.trans (gi_neg (by decide)) (Eq.trans (gi_neg (by decide)) (Eq.trans (gi_neg (by decide)) (Eq.trans (gi_neg (by decide)) (Eq.trans (gi_neg (by decide)) (Eq.trans (gi_neg (by decide)) (Eq.trans (gi_neg (by decide)) (Eq.trans (gi_neg (by decide)) (Eq.trans (gi_neg (by decide)) (Eq.trans (gi_neg (by decide)) (Eq.trans (gi_neg (by decide)) (Eq.trans (gi_neg (by decide)) (Eq.trans (gi_neg (by decide)) (Eq.trans (gi_neg (by decide)) (Eq.trans (gi_neg (by decide)) (Eq.trans (gi_neg (by decide)) (Eq.trans (gi_neg (by decide)) (Eq.trans (gi_neg (by decide)) (Eq.trans (gi_neg (by decide)) (Eq.trans (gi_neg (by decide)) (Eq.trans (gi_neg (by decide)) (Eq.trans (gi_neg (by decide)) (Eq.trans (gi_pos rfl) ?_)))))))))))))))))))))))))))))
    rw [show fX1_fails 1 C = some (nI 0, C') from z]
    rfl
  · have ek' := ek
    rw [e] at ek'
    refine unaryC 38 5 (by unfold unP; omega) ?_ (by omega) ?_
    · rw [bg_oth pm hps160 hpl100 (by omega) (by rw [e]; rfl)]
      simp only [e]
      rfl
    · refine oneE h1 i301 ek' ?_
      refine Eq.trans (gi_neg (by decide)) (Eq.trans (gi_neg (by decide)) (Eq.trans (gi_neg (by decide)) (Eq.trans (gi_neg (by decide)) (Eq.trans (gi_neg (by decide)) (Eq.trans (gi_neg (by decide)) (Eq.trans (gi_neg (by decide)) (Eq.trans (gi_neg (by decide)) (Eq.trans (gi_neg (by decide)) (Eq.trans (gi_neg (by decide)) (Eq.trans (gi_neg (by decide)) (Eq.trans (gi_neg (by decide)) (Eq.trans (gi_neg (by decide)) (Eq.trans (gi_neg (by decide)) (Eq.trans (gi_neg (by decide)) (Eq.trans (gi_neg (by decide)) (Eq.trans (gi_neg (by decide)) (Eq.trans (gi_neg (by decide)) (Eq.trans (gi_neg (by decide)) (Eq.trans (gi_neg (by decide)) (Eq.trans (gi_neg (by decide)) (Eq.trans (gi_neg (by decide)) (Eq.trans (gi_neg (by decide)) (Eq.trans (gi_neg (by decide)) (Eq.trans (gi_neg (by decide)) (Eq.trans (gi_neg (by decide)) (Eq.trans (gi_neg (by decide)) (Eq.trans (gi_neg (by decide)) (Eq.trans (gi_neg (by decide)) (Eq.trans (gi_neg (by decide)) (Eq.trans (gi_pos rfl) ?_))))))))))))))))))))))))))))))
      rw [show nI x + (1 : Int32) = nI (x + 1) from addN x 1]
      rfl
  · left
    rw [e] at ek
    refine othC (by omega) (by rw [e]; rfl) (by omega) (by omega) (by omega) (by omega) (by omega) (fun C' z => ?_)
    refine oneE h1 i301 ek ?_
    refine Eq.trans (gi_neg (by decide)) (Eq.trans (gi_neg (by decide)) (Eq.trans (gi_neg (by decide)) (Eq.trans (gi_neg (by decide)) (Eq.trans (gi_neg (by decide)) (Eq.trans (gi_neg (by decide)) (Eq.trans (gi_neg (by decide)) (Eq.trans (gi_neg (by decide)) (Eq.trans (gi_neg (by decide)) (Eq.trans (gi_neg (by decide)) (Eq.trans (gi_neg (by decide)) (Eq.trans (gi_neg (by decide)) (Eq.trans (gi_neg (by decide)) (Eq.trans (gi_neg (by decide)) (Eq.trans (gi_neg (by decide)) (Eq.trans (gi_neg (by decide)) (Eq.trans (gi_neg (by decide)) (Eq.trans (gi_neg (by decide)) (Eq.trans (gi_neg (by decide)) (Eq.trans (gi_neg (by decide)) (Eq.trans (gi_neg (by decide)) (Eq.trans (gi_neg (by decide)) (Eq.trans (gi_neg (by decide)) (Eq.trans (gi_neg (by decide)) (Eq.trans (gi_neg (by decide)) (Eq.trans (gi_neg (by decide)) (Eq.trans (gi_neg (by decide)) (Eq.trans (gi_neg (by decide)) (Eq.trans (gi_neg (by decide)) (Eq.trans (gi_neg (by decide)) (Eq.trans (gi_neg (by decide)) (Eq.trans (gi_pos rfl) ?_)))))))))))))))))))))))))))))))
    rw [show fX1_fails 1 C = some (nI 0, C') from z]
    rfl
  · left
    rw [e] at ek
    refine othC (by omega) (by rw [e]; rfl) (by omega) (by omega) (by omega) (by omega) (by omega) (fun C' z => ?_)
    refine oneE h1 i301 ek ?_
    refine Eq.trans (gi_neg (by decide)) (Eq.trans (gi_neg (by decide)) (Eq.trans (gi_neg (by decide)) (Eq.trans (gi_neg (by decide)) (Eq.trans (gi_neg (by decide)) (Eq.trans (gi_neg (by decide)) (Eq.trans (gi_neg (by decide)) (Eq.trans (gi_neg (by decide)) (Eq.trans (gi_neg (by decide)) (Eq.trans (gi_neg (by decide)) (Eq.trans (gi_neg (by decide)) (Eq.trans (gi_neg (by decide)) (Eq.trans (gi_neg (by decide)) (Eq.trans (gi_neg (by decide)) (Eq.trans (gi_neg (by decide)) (Eq.trans (gi_neg (by decide)) (Eq.trans (gi_neg (by decide)) (Eq.trans (gi_neg (by decide)) (Eq.trans (gi_neg (by decide)) (Eq.trans (gi_neg (by decide)) (Eq.trans (gi_neg (by decide)) (Eq.trans (gi_neg (by decide)) (Eq.trans (gi_neg (by decide)) (Eq.trans (gi_neg (by decide)) (Eq.trans (gi_neg (by decide)) (Eq.trans (gi_neg (by decide)) (Eq.trans (gi_neg (by decide)) (Eq.trans (gi_neg (by decide)) (Eq.trans (gi_neg (by decide)) (Eq.trans (gi_neg (by decide)) (Eq.trans (gi_neg (by decide)) (Eq.trans (gi_neg (by decide)) (Eq.trans (gi_pos rfl) ?_))))))))))))))))))))))))))))))))
    rw [show fX1_fails 1 C = some (nI 0, C') from z]
    rfl
  · have ek' := ek
    rw [e] at ek'
    have eb : fX7_beginOne M J = fX7_opened (nI 40) M J := by
      rw [bg_oth pm hps160 hpl100 (by omega) (by rw [e]; rfl)]
      simp only [e]
      rfl
    have h4 : fX1_one_B rg (nI x) C = bd (fX1_opens (nI x) C) (pr (fun (u : Int32) (b : gI) => gi (u = nI 0) (some (nI 0, b)) (bd (rg 0 (nI (x + 1)) (nI 0) b) (pr (fun (u2 : Int32) (b2 : gI) => gi (u2 = nI 0) (some (nI 0, b2)) (bd (fX1_takes (nI 36) b2) (pr (fun (u3 : Int32) (b3 : gI) => gi (u3 = nI 0) (some (nI 0, b3)) (some (nI 1, b3)))))))))) := by
      refine oneE h1 i301 ek' ?_
      refine Eq.trans (gi_neg (by decide)) (Eq.trans (gi_neg (by decide)) (Eq.trans (gi_neg (by decide)) (Eq.trans (gi_neg (by decide)) (Eq.trans (gi_neg (by decide)) (Eq.trans (gi_neg (by decide)) (Eq.trans (gi_neg (by decide)) (Eq.trans (gi_neg (by decide)) (Eq.trans (gi_neg (by decide)) (Eq.trans (gi_neg (by decide)) (Eq.trans (gi_neg (by decide)) (Eq.trans (gi_neg (by decide)) (Eq.trans (gi_neg (by decide)) (Eq.trans (gi_neg (by decide)) (Eq.trans (gi_neg (by decide)) (Eq.trans (gi_neg (by decide)) (Eq.trans (gi_neg (by decide)) (Eq.trans (gi_neg (by decide)) (Eq.trans (gi_neg (by decide)) (Eq.trans (gi_neg (by decide)) (Eq.trans (gi_neg (by decide)) (Eq.trans (gi_neg (by decide)) (Eq.trans (gi_neg (by decide)) (Eq.trans (gi_neg (by decide)) (Eq.trans (gi_neg (by decide)) (Eq.trans (gi_neg (by decide)) (Eq.trans (gi_neg (by decide)) (Eq.trans (gi_neg (by decide)) (Eq.trans (gi_neg (by decide)) (Eq.trans (gi_neg (by decide)) (Eq.trans (gi_neg (by decide)) (Eq.trans (gi_neg (by decide)) (Eq.trans (gi_neg (by decide)) (Eq.trans (gi_pos rfl) ?_)))))))))))))))))))))))))))))))))
      rw [show nI x + (1 : Int32) = nI (x + 1) from addN x 1]
      rfl
    by_cases hx8 : x < 8
    · have := lt40 (by omega)
      obtain ⟨M2, J2, pm2, km2, w2⟩ := openR 40 eb (by omega) hx8
      obtain ⟨pc2, kc2⟩ := PC_on pc ht
      have eo := opens6p pc hi3 hx8
      have ow : onw (pu1 pl ps 40) (ps + 1) = 41 := by
        have e1 : oat (pu1 pl ps 40) (ps + 1) = ps + 1 := if_pos (by rw [pu1_e]; omega)
        unfold onw
        rw [e1, if_neg (by omega), Nat.add_sub_cancel, pu1_e]
      have rk40 : rk 40 = 0 := by decide
      have ha0 : aaI (pu1 pl ps 40) (ps + 1) = 0 := by
        unfold aaI
        rw [ow, if_neg (by omega)]
      rcases hS hx8 (i + 1) cn n (ps + 1) (pu1 pl ps 40) _ M2 J2 pc2 pm2 (by omega) (by omega) (by omega) (by omega) (hpl1 40 (by omega)) (Or.inr (by rw [Nat.add_sub_cancel, pu1_e, rk40]; omega)) (fun z => by rw [ha0] at z; exact absurd z (by decide)) with ⟨C3, f, j, e3, f7, j1, j2, f8, kc3, f0, f1, hw⟩ | ⟨C3, i3, cn3, d3, n3, M3, J3, e3, a1, a2, pc3, kc3, a3, a4, a5, a6, a7, pm3, km3, cor3, lk3, w3⟩
      · left
        refine ⟨C3, f, j, ?_, f7, by omega, j2, f8, KC_tr kc2 kc3 (by omega), f0, f1, fun m Q hQ hm hq => ?_⟩
        · rw [h4, eo, bdE, prE, gi_neg (show ¬ nI 1 = nI 0 by decide), show rg 0 (nI (x + 1)) (nI 0) _ = some (nI 0, C3) from e3, bdE, prE, gi_pos rfl]
        · obtain ⟨m', rfl⟩ : ∃ a, m = a + 1 := ⟨m - 1, by omega⟩
          exact w2 m' Q (hw m' Q hQ (by omega) (fun Mf Jf z1 z2 => hq Mf Jf z1 (KM_tr km2 z2 (by omega))))
      · have hpl3 : ∀ j, j < ps + 1 → pu1 pl ps 40 j < 100 := fun j hj => by have := hpl1 40 (by omega) j hj; omega
        have bw0 : bwI (tk i3) (onw (pu1 pl ps 40) (ps + 1)) (cpd (pu1 pl ps 40) (ps + 1)) = 0 := by
          rw [ow]
          unfold bwI
          rw [if_neg lk3.1, if_neg lk3.2.1, if_neg lk3.2.2.1, if_neg lk3.2.2.2, if_neg (by omega)]
        by_cases c36 : tk i3 = 36
        · right
          have i3K : i3 < K := by
            apply Decidable.byContradiction
            intro y
            have : i3 = K := by omega
            rw [this, hE] at c36
            omega
          have pw1 : pwI (tk i3) (onw (pu1 pl ps 40) (ps + 1)) (cpd (pu1 pl ps 40) (ps + 1)) = 1 := by
            rw [ow, c36]
            unfold pwI
            simp
          have hset : fX7_settle (nI 1) M3 = some M3 := stl_run (stl_stop pm3 (by omega) hpl3 (by omega) (Or.inr (by rw [Nat.add_sub_cancel, pu1_e, rk40]; omega))) (by omega)
          obtain ⟨M4, J4, pm4, km4, _, w4⟩ := bh_close hN pm3 (by omega) hpl3 bw0 pw1 hset pm3 ht (by omega) (by omega)
          rw [ow, if_neg (by omega)] at pm4
          obtain ⟨pc4, kc4⟩ := PC_on pc3 ht
          refine ⟨wI C3 275 4 (nI (i3 + 1)), i3 + 1, cn3, d3, n3, M4, J4, ?_, by omega, by omega, pc4, KC_tr (KC_tr kc2 kc3 (by omega)) kc4 (by omega), by omega, a4, by omega, a6, by omega, PM_pl pm4 (fun j hj => (pu1_n (by omega)).symm), KM_tr (KM_tr km2 km3 (by omega)) km4 (by omega), ?_, fun m Q hQ hz => ?_⟩
          · rw [h4, eo, bdE, prE, gi_neg (show ¬ nI 1 = nI 0 by decide), show rg 0 (nI (x + 1)) (nI 0) _ = some (nI 1, C3) from e3, bdE, prE, gi_neg (show ¬ nI 1 = nI 0 by decide), takes6p pc3 ht (by omega) c36, bdE, prE, gi_neg (show ¬ nI 1 = nI 0 by decide)]
          · refine (Cor_ag cor3).2.2 (fun a z1 z2 => kc4.2.2.2 a z2) (fun a z1 z2 => KM_rc km4 z2)
          · rw [show m + (i3 + 1 - i) = (m + 1 + (i3 - (i + 1))) + 1 by omega]
            exact w2 _ Q (w3 (m + 1) Q hQ (w4 m Q hz))
        · left
          obtain ⟨C4, e4, f7, f8, kc4⟩ := takes6n pc3 ht (by omega) hT (by omega) (k := 36) (by omega) c36
          have pw0 : pwI (tk i3) (onw (pu1 pl ps 40) (ps + 1)) (cpd (pu1 pl ps 40) (ps + 1)) = 0 := by
            rw [ow]
            unfold pwI
            rw [if_pos rfl, if_neg c36]
          refine ⟨C4, 1, i3, ?_, f7, by omega, a2, f8, KC_tr (KC_tr kc2 kc3 (by omega)) kc4 (by omega), by omega, by omega, fun m Q hQ hm hq => ?_⟩
          · rw [h4, eo, bdE, prE, gi_neg (show ¬ nI 1 = nI 0 by decide), show rg 0 (nI (x + 1)) (nI 0) _ = some (nI 1, C3) from e3, bdE, prE, gi_neg (show ¬ nI 1 = nI 0 by decide), e4, bdE, prE, gi_pos rfl]
          · obtain ⟨m', rfl⟩ : ∃ a, m = (a + 1 + (i3 - (i + 1))) + 1 := ⟨m - 1 - (i3 - (i + 1)) - 1, by omega⟩
            exact w2 _ Q (w3 (m' + 1) Q hQ (bh_stop pm3 (by omega) hpl3 bw0 pw0 (by rw [ow]; omega) m' (hq M3 J3 pm3.1.2.1 (KM_tr km2 km3 (by omega)))))
    · left
      exact openF (nI 40) _ eb hx8 h4
  · left
    rw [e] at ek
    refine othC (by omega) (by rw [e]; rfl) (by omega) (by omega) (by omega) (by omega) (by omega) (fun C' z => ?_)
    refine oneE h1 i301 ek ?_
    refine Eq.trans (gi_neg (by decide)) (Eq.trans (gi_neg (by decide)) (Eq.trans (gi_neg (by decide)) (Eq.trans (gi_neg (by decide)) (Eq.trans (gi_neg (by decide)) (Eq.trans (gi_neg (by decide)) (Eq.trans (gi_neg (by decide)) (Eq.trans (gi_neg (by decide)) (Eq.trans (gi_neg (by decide)) (Eq.trans (gi_neg (by decide)) (Eq.trans (gi_neg (by decide)) (Eq.trans (gi_neg (by decide)) (Eq.trans (gi_neg (by decide)) (Eq.trans (gi_neg (by decide)) (Eq.trans (gi_neg (by decide)) (Eq.trans (gi_neg (by decide)) (Eq.trans (gi_neg (by decide)) (Eq.trans (gi_neg (by decide)) (Eq.trans (gi_neg (by decide)) (Eq.trans (gi_neg (by decide)) (Eq.trans (gi_neg (by decide)) (Eq.trans (gi_neg (by decide)) (Eq.trans (gi_neg (by decide)) (Eq.trans (gi_neg (by decide)) (Eq.trans (gi_neg (by decide)) (Eq.trans (gi_neg (by decide)) (Eq.trans (gi_neg (by decide)) (Eq.trans (gi_neg (by decide)) (Eq.trans (gi_neg (by decide)) (Eq.trans (gi_neg (by decide)) (Eq.trans (gi_neg (by decide)) (Eq.trans (gi_neg (by decide)) (Eq.trans (gi_neg (by decide)) (Eq.trans (gi_neg (by decide)) ?_)))))))))))))))))))))))))))))))))
    rw [show fX1_fails 1 C = some (nI 0, C') from z]
    rfl
  · left
    rw [e] at ek
    refine othC (by omega) (by rw [e]; rfl) (by omega) (by omega) (by omega) (by omega) (by omega) (fun C' z => ?_)
    refine oneE h1 i301 ek ?_
    refine Eq.trans (gi_neg (by decide)) (Eq.trans (gi_neg (by decide)) (Eq.trans (gi_neg (by decide)) (Eq.trans (gi_neg (by decide)) (Eq.trans (gi_neg (by decide)) (Eq.trans (gi_neg (by decide)) (Eq.trans (gi_neg (by decide)) (Eq.trans (gi_neg (by decide)) (Eq.trans (gi_neg (by decide)) (Eq.trans (gi_neg (by decide)) (Eq.trans (gi_neg (by decide)) (Eq.trans (gi_neg (by decide)) (Eq.trans (gi_neg (by decide)) (Eq.trans (gi_neg (by decide)) (Eq.trans (gi_neg (by decide)) (Eq.trans (gi_neg (by decide)) (Eq.trans (gi_neg (by decide)) (Eq.trans (gi_neg (by decide)) (Eq.trans (gi_neg (by decide)) (Eq.trans (gi_neg (by decide)) (Eq.trans (gi_neg (by decide)) (Eq.trans (gi_neg (by decide)) (Eq.trans (gi_neg (by decide)) (Eq.trans (gi_neg (by decide)) (Eq.trans (gi_neg (by decide)) (Eq.trans (gi_neg (by decide)) (Eq.trans (gi_neg (by decide)) (Eq.trans (gi_neg (by decide)) (Eq.trans (gi_neg (by decide)) (Eq.trans (gi_neg (by decide)) (Eq.trans (gi_neg (by decide)) (Eq.trans (gi_neg (by decide)) (Eq.trans (gi_neg (by decide)) (Eq.trans (gi_neg (by decide)) ?_)))))))))))))))))))))))))))))))))
    rw [show fX1_fails 1 C = some (nI 0, C') from z]
    rfl
  · left
    rw [e] at ek
    refine othC (by omega) (by rw [e]; rfl) (by omega) (by omega) (by omega) (by omega) (by omega) (fun C' z => ?_)
    refine oneE h1 i301 ek ?_
    refine Eq.trans (gi_neg (by decide)) (Eq.trans (gi_neg (by decide)) (Eq.trans (gi_neg (by decide)) (Eq.trans (gi_neg (by decide)) (Eq.trans (gi_neg (by decide)) (Eq.trans (gi_neg (by decide)) (Eq.trans (gi_neg (by decide)) (Eq.trans (gi_neg (by decide)) (Eq.trans (gi_neg (by decide)) (Eq.trans (gi_neg (by decide)) (Eq.trans (gi_neg (by decide)) (Eq.trans (gi_neg (by decide)) (Eq.trans (gi_neg (by decide)) (Eq.trans (gi_neg (by decide)) (Eq.trans (gi_neg (by decide)) (Eq.trans (gi_neg (by decide)) (Eq.trans (gi_neg (by decide)) (Eq.trans (gi_neg (by decide)) (Eq.trans (gi_neg (by decide)) (Eq.trans (gi_neg (by decide)) (Eq.trans (gi_neg (by decide)) (Eq.trans (gi_neg (by decide)) (Eq.trans (gi_neg (by decide)) (Eq.trans (gi_neg (by decide)) (Eq.trans (gi_neg (by decide)) (Eq.trans (gi_neg (by decide)) (Eq.trans (gi_neg (by decide)) (Eq.trans (gi_neg (by decide)) (Eq.trans (gi_neg (by decide)) (Eq.trans (gi_neg (by decide)) (Eq.trans (gi_neg (by decide)) (Eq.trans (gi_neg (by decide)) (Eq.trans (gi_neg (by decide)) (Eq.trans (gi_neg (by decide)) ?_)))))))))))))))))))))))))))))))))
    rw [show fX1_fails 1 C = some (nI 0, C') from z]
    rfl
  · left
    rw [e] at ek
    refine othC (by omega) (by rw [e]; rfl) (by omega) (by omega) (by omega) (by omega) (by omega) (fun C' z => ?_)
    refine oneE h1 i301 ek ?_
    refine Eq.trans (gi_neg (by decide)) (Eq.trans (gi_neg (by decide)) (Eq.trans (gi_neg (by decide)) (Eq.trans (gi_neg (by decide)) (Eq.trans (gi_neg (by decide)) (Eq.trans (gi_neg (by decide)) (Eq.trans (gi_neg (by decide)) (Eq.trans (gi_neg (by decide)) (Eq.trans (gi_neg (by decide)) (Eq.trans (gi_neg (by decide)) (Eq.trans (gi_neg (by decide)) (Eq.trans (gi_neg (by decide)) (Eq.trans (gi_neg (by decide)) (Eq.trans (gi_neg (by decide)) (Eq.trans (gi_neg (by decide)) (Eq.trans (gi_neg (by decide)) (Eq.trans (gi_neg (by decide)) (Eq.trans (gi_neg (by decide)) (Eq.trans (gi_neg (by decide)) (Eq.trans (gi_neg (by decide)) (Eq.trans (gi_neg (by decide)) (Eq.trans (gi_neg (by decide)) (Eq.trans (gi_neg (by decide)) (Eq.trans (gi_neg (by decide)) (Eq.trans (gi_neg (by decide)) (Eq.trans (gi_neg (by decide)) (Eq.trans (gi_neg (by decide)) (Eq.trans (gi_neg (by decide)) (Eq.trans (gi_neg (by decide)) (Eq.trans (gi_neg (by decide)) (Eq.trans (gi_neg (by decide)) (Eq.trans (gi_neg (by decide)) (Eq.trans (gi_neg (by decide)) (Eq.trans (gi_neg (by decide)) ?_)))))))))))))))))))))))))))))))))
    rw [show fX1_fails 1 C = some (nI 0, C') from z]
    rfl
end PS
