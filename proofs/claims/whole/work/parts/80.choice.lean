-- 80: PURE PART: a choice; all levels of the reader (out of wip/whole/pure by pure.py)
section CH
variable {tk tv tp ep : Nat → Nat} {B : gI} {t law K : Nat}
theorem jump6 {i n j : Nat} {C : gI} (h : PC tk tv tp t law i n C) (ht : t < 4) (hj : j < 300) : ∃ C', fX3_jumpHere (296 + 8 * t) (nI j) C = some C' ∧ PC tk tv tp t law i n C' ∧ KC t j C C' ∧ C' (296 + 8 * t + 5) j = nI n ∧ C' (296 + 8 * t + 4) = C (296 + 8 * t + 4) ∧ ∀ a, a ≠ j → C' (296 + 8 * t + 5) a = C (296 + 8 * t + 5) a := by
  obtain ⟨h1, h2, h3, h4, h5, h7, h8⟩ := h
  refine ⟨wI C (296 + 8 * t + 5) j (nI n), ?_, ⟨?_, ?_, ?_, ?_, fun a ha => ?_, ?_, ?_⟩, ⟨fun o a b c d => wI_o d, fun a _ _ _ => by rw [wI_o (by omega)], fun a _ => by rw [wI_o (by omega)], fun a ha => ⟨by rw [wI_o (by omega)], by rw [wI_ne (by omega)]⟩⟩, wI_eq, wI_o (by omega), fun a ha => wI_ne (fun z => ha z.2)⟩
  · unfold fX3_jumpHere
    rw [gi_neg (show ¬ nI j < 0 from nI_pos (by omega)), gi_neg (show ¬ (300 : Int32) ≤ nI j from fun z => by have := (leN (a := 300) (b := j) (by omega) (by omega)).mp z; omega), gdN (by omega) (by omega), clN (by omega), h4, lzE]
  · rw [wI_o (by omega)]; exact h1
  · rw [wI_o (by omega)]; exact h2
  · rw [wI_o (by omega)]; exact h3
  · rw [wI_o (by omega)]; exact h4
  · rw [wI_o (by omega), wI_o (by omega), wI_o (by omega)]; exact h5 a ha
  · rw [wI_o (by omega)]; exact h7
  · rw [wI_o (by omega)]; exact h8
theorem pu_44 {ps u : Nat} {pl : Nat → Nat} (hpl : ∀ j, j < ps + 1 → pl j < 44) (hu : 40 ≤ u) (hu2 : u < 44) : (∀ j, j < ps + 1 → pu1 pl ps u j < 44) ∧ onw (pu1 pl ps u) (ps + 1) = u + 1 := by
  refine ⟨fun j hj => ?_, ?_⟩
  · by_cases e : j = ps
    · subst e; rw [pu1_e]; omega
    · rw [pu1_n e]; exact hpl j (by omega)
  · have e1 : oat (pu1 pl ps u) (ps + 1) = ps + 1 := if_pos (by rw [pu1_e]; omega)
    unfold onw
    rw [e1, if_neg (by omega), Nat.add_sub_cancel, pu1_e]
theorem rk_40 {u : Nat} (h : 40 ≤ u) : rk u = 0 := by
  unfold rk
  rw [if_neg (by omega)]
theorem bw_no {k o c : Nat} (h1 : ¬ k = 31) (h2 : ¬ k = 32) (h3 : ¬ k = 33) (h4 : ¬ k = 34) (ho : ¬ o = 42) : bwI k o c = 0 := by
  unfold bwI
  rw [if_neg h1, if_neg h2, if_neg h3, if_neg h4, if_neg ho]
theorem choice_step {x : Nat} (hx : x ≤ 8) (hN : NXT tk tv tp ep B K) (hT : toksOK tk tv tp K) (ht : t < 4) (hK : K ≤ 300) (hE : tk K = 40) {rg : gR} (hS : SUM tk tv tp ep B t law K x rg) (hEi : EITH tk tv tp ep B t law K x rg) {rg' : gR} (hr : ∀ C, rg' 4 (nI x) 0 C = fX1_choice_B rg (nI x) C) : CHOICE tk tv tp ep B t law K x rg' := by
  intro i cn n ps pl C M J pc pm hpu hi hc hn hps hpl hx0
  obtain ⟨y, rfl⟩ : ∃ y, x = y + 1 := ⟨x - 1, by omega⟩
  rw [Nat.add_sub_cancel, hr]
  unfold fX1_choice_B
  have how : onw pl (ps + 1) = 42 := by
    have e1 : oat pl (ps + 1) = ps + 1 := if_pos (by omega)
    unfold onw
    rw [e1, if_neg (by omega), Nat.add_sub_cancel, hpu]
  have hpl100 : ∀ j, j < ps + 1 → pl j < 100 := fun j hj => by have := hpl j hj; omega
  have n1 : ¬ nI 1 = (0 : Int32) := one_ne
  rcases hEi i cn n (ps + 1) pl C M J pc pm hi (by omega) hn (by omega) hpl how (by omega) (by rw [Nat.add_sub_cancel, hpu]; decide) with hf | ⟨C1, i1, cn1, d1, m1, M1, J1, M01, ps1, pl1, n11, x1, e1, ⟨⟨a1, a2, a3, a4, a5, a6, a7⟩, ⟨pc1, kc1⟩, ⟨pm1, km1, b1, b2, b3, b4, b5, b6⟩, ⟨pm01, km01, st1⟩, cor1, pr1⟩, la1⟩
  · left
    refine FAILs_up hf (Nat.le_refl _) (Nat.le_refl _) (Nat.le_refl _) KC_rf KM_rf (fun m Q _ q => by rw [Nat.sub_self]; exact q) (fun C' e => ?_)
    rw [e, bdE, prE, gi_pos (show nI 0 = (0 : Int32) from rfl)]
    rfl
  rw [e1, bdE, prE, gi_neg n1]
  have bw1 : bwI (tk i1) (onw pl1 ps1) (cpd pl1 ps1) = 0 := by
    rw [b5, b6, bw_q la1.2.2.1 la1.2.2.2.1 la1.2.2.2.2.1 la1.2.2.2.2.2, if_neg (by omega), if_neg la1.2.1, if_neg la1.1]
  by_cases c13 : tk i1 = 13
  · have i1K := ltK hE a2 (by omega)
    have t13 := takes6p pc1 ht (by omega) c13
    obtain ⟨pc1', kc1'⟩ := PC_on pc1 ht
    obtain ⟨C2, e2, pc2, kc2, c2a, c2b⟩ := emit6 pc1' ht (by omega) 13 0
    have set1 : fX7_settle (nI 1) M1 = some M01 := by
      rw [st1 1 (by omega) (by omega)]
      exact stl_run (stl_stop pm01 (by omega) hpl100 (by omega) (Or.inr (by rw [Nat.add_sub_cancel, hpu]; decide))) (by omega)
    obtain ⟨M2, J2, pm2, km2, w2⟩ := bh_part hN pm1 (by omega) (fun j hj => by have := b4 j hj; omega) bw1 (u := 42) (by rw [b5, b6, c13]; decide) (by omega) set1 pm01 (by omega) hpl100 (by omega) (by omega)
    obtain ⟨q1, q2⟩ := pu_44 (u := 42) hpl (by omega) (by omega)
    have pr2 : PROG t i (i1 + 1) n M J M2 J2 := PROG_tr pr1 (PROG_1 (n := n) (fun m Q q => w2 m Q q)) (by omega) (by omega) (Nat.le_refl _)
    have kmB : KM t n M M2 := KM_tr (KM_tr km1 km01 (by omega)) km2 (by omega)
    have kcB : KC t cn C C2 := KC_tr (KC_tr kc1 kc1' (by omega)) kc2 (by omega)
    rw [show fX1_takes 13 C1 = some (nI 1, wI C1 275 4 (nI (i1 + 1))) from t13, bdE, prE, gi_neg n1, pc1'.2.2.1, gAn ht, clN (by omega), show fX3_emit (296 + 8 * t) 13 0 (wI C1 275 4 (nI (i1 + 1))) = some (nI cn1, C2) from e2, bdE, prE]
    rcases hS (i1 + 1) (cn1 + 1) m1 (ps + 1) (pu1 pl ps 42) C2 M2 J2 pc2 pm2 (by omega) (by omega) (by omega) (by omega) q1 (Or.inr (by rw [Nat.add_sub_cancel, pu1_e, rk_40 (by omega)]; omega)) (fun z => by unfold aaI at z; rw [q2, if_neg (by omega)] at z; omega) with hf | ⟨C3, i3, cn3, d3, n3, M3, J3, e3, f1, f2, pc3, kc3, f3, f4, f5, f6, f7, pm3, km3, cor3, lk3, w3⟩
    · left
      refine FAILs_up hf (by omega) (by omega) (by omega) kcB kmB pr2 (fun C' e => ?_)
      rw [e, bdE, prE, gi_pos (show nI 0 = (0 : Int32) from rfl)]
      rfl
    rw [e3, bdE, prE, gi_neg n1]
    have kmC : KM t n M M3 := KM_tr kmB km3 (by omega)
    have kcC : KC t cn C C3 := KC_tr kcB kc3 (by omega)
    have pr3 : PROG t i i3 n M J M3 J3 := PROG_tr pr2 w3 (by omega) (by omega) (by omega)
    have bw3 : bwI (tk i3) (onw (pu1 pl ps 42) (ps + 1)) (cpd (pu1 pl ps 42) (ps + 1)) = 0 := by
      rw [q2]
      exact bw_no lk3.1 lk3.2.1 lk3.2.2.1 lk3.2.2.2 (by omega)
    have q100 : ∀ j, j < ps + 1 → pu1 pl ps 42 j < 100 := fun j hj => by have := q1 j hj; omega
    by_cases c14 : tk i3 = 14
    · have i3K := ltK hE f2 (by omega)
      have t14 := takes6p pc3 ht (by omega) c14
      obtain ⟨pc3', kc3'⟩ := PC_on pc3 ht
      obtain ⟨C4, e4, pc4, kc4, c4a, c4b⟩ := emit6 pc3' ht (by omega) 14 0
      obtain ⟨C5, e5, pc5, kc5, c5a, c5b, c5c⟩ := jump6 pc4 ht (j := cn1) (by omega)
      have set3 : fX7_settle (nI 1) M3 = some M3 := stl_run (stl_stop pm3 (by omega) q100 (by omega) (Or.inr (by rw [Nat.add_sub_cancel, pu1_e, rk_40 (by omega)]; omega))) (by omega)
      obtain ⟨M4, J4, pm4, km4, w4⟩ := bh_part hN pm3 (by omega) q100 bw3 (u := 43) (by rw [q2, c14]; simp [pwI]) (by omega) set3 pm3 (by omega) q100 (by rw [pu1_e]; omega) (by omega)
      obtain ⟨r1, r2⟩ := pu_44 (pl := pu1 pl ps 42) (u := 43) q1 (by omega) (by omega)
      have pr4 : PROG t i (i3 + 1) n M J M4 J4 := PROG_tr pr3 (PROG_1 (n := n) (fun m Q q => w4 m Q q)) (by omega) (by omega) (Nat.le_refl _)
      have kmD : KM t n M M4 := KM_tr kmC km4 (by omega)
      have kcD : KC t cn C C5 := KC_tr (KC_tr (KC_tr kcC kc3' (by omega)) kc4 (by omega)) kc5 (by omega)
      rw [show fX1_takes 14 C3 = some (nI 1, wI C3 275 4 (nI (i3 + 1))) from t14, bdE, prE, gi_neg n1, pc3'.2.2.1, gAn ht, clN (by omega), show fX3_emit (296 + 8 * t) 14 0 (wI C3 275 4 (nI (i3 + 1))) = some (nI cn3, C4) from e4, bdE, prE, pc4.2.2.1, gAn ht, clN (by omega), e5, bdE]
      rcases hS (i3 + 1) (cn3 + 1) n3 (ps + 1) (pu1 (pu1 pl ps 42) ps 43) C5 M4 J4 pc5 pm4 (by omega) (by omega) (by omega) (by omega) r1 (Or.inr (by rw [Nat.add_sub_cancel, pu1_e, rk_40 (by omega)]; omega)) (fun z => by unfold aaI at z; rw [r2, if_neg (by omega)] at z; omega) with hf | ⟨C6, i6, cn6, d6, n6, M6, J6, e6, g1, g2, pc6, kc6, g3, g4, g5, g6, g7, pm6, km6, cor6, lk6, w6⟩
      · left
        refine FAILs_up hf (by omega) (by omega) (by omega) kcD kmD pr4 (fun C' e => ?_)
        rw [e, bdE, prE, gi_pos (show nI 0 = (0 : Int32) from rfl)]
        rfl
      rw [e6, bdE, prE, gi_neg n1]
      have kmE : KM t n M M6 := KM_tr kmD km6 (by omega)
      have kcE : KC t cn C C6 := KC_tr kcD kc6 (by omega)
      have pr6 : PROG t i i6 n M J M6 J6 := PROG_tr pr4 w6 (by omega) (by omega) (by omega)
      have bw6 : bwI (tk i6) (onw (pu1 (pu1 pl ps 42) ps 43) (ps + 1)) (cpd (pu1 (pu1 pl ps 42) ps 43) (ps + 1)) = 0 := by
        rw [r2]
        exact bw_no lk6.1 lk6.2.1 lk6.2.2.1 lk6.2.2.2 (by omega)
      have r100 : ∀ j, j < ps + 1 → pu1 (pu1 pl ps 42) ps 43 j < 100 := fun j hj => by have := r1 j hj; omega
      by_cases c15 : tk i6 = 15
      · right
        have i6K := ltK hE g2 (by omega)
        have t15 := takes6p pc6 ht (by omega) c15
        obtain ⟨pc6', kc6'⟩ := PC_on pc6 ht
        obtain ⟨C8, e8, pc8, kc8, c8a, c8b, c8c⟩ := jump6 pc6' ht (j := cn3) (by omega)
        have set6 : fX7_settle (nI 1) M6 = some M6 := stl_run (stl_stop pm6 (by omega) r100 (by omega) (Or.inr (by rw [Nat.add_sub_cancel, pu1_e, rk_40 (by omega)]; omega))) (by omega)
        obtain ⟨M7, J7, pm7, km7, c7, w7⟩ := bh_close hN pm6 (by omega) r100 bw6 (by rw [r2, c15]; simp [pwI]) set6 pm6 ht (by omega) (by omega)
        rw [r2, if_pos rfl] at pm7
        have c7' := c7 r2
        rw [show fX1_takes 15 C6 = some (nI 1, wI C6 275 4 (nI (i6 + 1))) from t15, bdE, prE, gi_neg n1, pc6'.2.2.1, gAn ht, clN (by omega), e8, bdE]
        have kcF : KC t cn C C8 := KC_tr (KC_tr kcE kc6' (by omega)) kc8 (by omega)
        -- what lies stays
        have ag2 : ∀ a, a < cn3 → a ≠ cn1 → C8 (296 + 8 * t + 4) a = C3 (296 + 8 * t + 4) a ∧ C8 (296 + 8 * t + 5) a = C3 (296 + 8 * t + 5) a := fun a ha hne => by
          have z1 := (KC_tr kc3' kc4 (Nat.le_refl _)).2.2.2 a ha
          have z2 := (KC_tr (KC_tr (KC_dn kc6 (n := cn3) (by omega)) kc6' (by omega)) kc8 (Nat.le_refl _)).2.2.2 a ha
          exact ⟨z2.1.trans ((congrFun c5b a).trans z1.1), z2.2.trans ((c5c a hne).trans z1.2)⟩
        have ag1 : ∀ a, a < cn1 → C8 (296 + 8 * t + 4) a = C1 (296 + 8 * t + 4) a ∧ C8 (296 + 8 * t + 5) a = C1 (296 + 8 * t + 5) a := fun a ha => by
          have z1 := (KC_tr (KC_tr kc1' kc2 (Nat.le_refl _)) kc3 (by omega)).2.2.2 a ha
          have z2 := ag2 a (by omega) (by omega)
          exact ⟨z2.1.trans z1.1, z2.2.trans z1.2⟩
        have ag3 : ∀ a, a < cn6 → a ≠ cn3 → C8 (296 + 8 * t + 4) a = C6 (296 + 8 * t + 4) a ∧ C8 (296 + 8 * t + 5) a = C6 (296 + 8 * t + 5) a := fun a ha hne => by
          have z1 := kc6'.2.2.2 a ha
          exact ⟨(congrFun c8b a).trans z1.1, (c8c a hne).trans z1.2⟩
        have k13 : C8 (296 + 8 * t + 4) cn1 = nI 13 := by
          have z1 := kc3.2.2.2 cn1 (by omega)
          have z2 := (KC_tr kc3' kc4 (Nat.le_refl _)).2.2.2 cn1 (by omega)
          have z3 := kc6.2.2.2 cn1 (by omega)
          exact (ag3 cn1 (by omega) (by omega)).1.trans (z3.1.trans ((congrFun c5b cn1).trans (z2.1.trans (z1.1.trans c2a))))
        have o13 : C8 (296 + 8 * t + 5) cn1 = nI (cn3 + 1) := (ag3 cn1 (by omega) (by omega)).2.trans ((kc6.2.2.2 cn1 (by omega)).2.trans c5a)
        have k14 : C8 (296 + 8 * t + 4) cn3 = nI 14 := by
          have z1 := kc6'.2.2.2 cn3 (by omega)
          exact (congrFun c8b cn3).trans (z1.1.trans ((kc6.2.2.2 cn3 (by omega)).1.trans ((congrFun c5b cn3).trans c4a)))
        have corA := (Cor_ag cor1).2.2 (fun a _ z2 => ag1 a z2) (fun a _ z2 => KM_rc (KM_tr (KM_tr (KM_tr (KM_tr km2 km3 (by omega)) km4 (by omega)) km6 (by omega)) km7 (by omega)) z2)
        have corB := (Cor_ag cor3).2.2 (fun a z1 z2 => ag2 a z2 (by omega)) (fun a _ z2 => KM_rc (KM_tr (KM_tr km4 km6 (by omega)) km7 (by omega)) z2)
        have corC := (Cor_ag cor6).2.2 (fun a z1 z2 => ag3 a z2 (by omega)) (fun a _ z2 => KM_rc km7 z2)
        refine ⟨C8, i6 + 1, cn6, max d1 (max d3 d6), n6 + 1, M7, J7, rfl, by omega, by omega, pc8, kcF, by omega, by omega, by omega, by omega, by omega, PM_pl pm7 (fun j hj => by rw [pu1_n (by omega), pu1_n (by omega)]), KM_tr kmE km7 (by omega), Cor_if k13 o13 k14 c8a c7' corA corB corC, fun m Q hQ hz => ?_⟩
        rw [show m + (i6 + 1 - i) = (m + 1) + (i6 - i) by omega]
        exact pr6 (m + 1) Q hQ (w7 m Q hz)
      · left
        obtain ⟨C7, e7, h7, h8, kc7⟩ := takes6n pc6 ht (by omega) hT g2 (k := 15) (by omega) c15
        rw [show fX1_takes 15 C6 = some (nI 0, C7) from e7, bdE, prE, gi_pos (show nI 0 = (0 : Int32) from rfl)]
        refine FAILs_up (fail_beh (cn := cn6) (n := n6) (C := C6) (res := some (nI 0, C7)) pm6 (by omega) r1 bw6 ?_ (by omega) g2 rfl h7 h8 kc7) (by omega) (by omega) (by omega) kcE kmE pr6 (fun C' e => e)
        rw [r2]
        unfold pwI
        rw [if_neg (by omega), if_neg (by omega), if_neg (by omega), if_pos rfl, if_neg c15]
    · left
      obtain ⟨C4, e4, h7, h8, kc4⟩ := takes6n pc3 ht (by omega) hT f2 (k := 14) (by omega) c14
      rw [show fX1_takes 14 C3 = some (nI 0, C4) from e4, bdE, prE, gi_pos (show nI 0 = (0 : Int32) from rfl)]
      refine FAILs_up (fail_beh (cn := cn3) (n := n3) (C := C3) (res := some (nI 0, C4)) pm3 (by omega) q1 bw3 ?_ (by omega) f2 rfl h7 h8 kc4) (by omega) (by omega) (by omega) kcC kmC pr3 (fun C' e => e)
      rw [q2]
      unfold pwI
      rw [if_neg (by omega), if_neg (by omega), if_pos rfl, if_neg c14]
  · left
    obtain ⟨C2, e2, h7, h8, kc2⟩ := takes6n pc1 ht (by omega) hT a2 (k := 13) (by omega) c13
    rw [show fX1_takes 13 C1 = some (nI 0, C2) from e2, bdE, prE, gi_pos (show nI 0 = (0 : Int32) from rfl)]
    refine FAILs_up (fail_beh (cn := cn1) (n := n11) (C := C1) (res := some (nI 0, C2)) pm1 (by omega) b4 bw1 ?_ (by omega) a2 rfl h7 h8 kc2) (by omega) (by omega) (by omega) kc1 km1 pr1 (fun C' e => e)
    rw [b5, b6]
    unfold pwI
    rw [if_neg (by omega), if_pos rfl, if_neg (fun z => c13 z.1)]
/-- all levels -/
theorem all_ok (hN : NXT tk tv tp ep B K) (hT : toksOK tk tv tp K) (h38 : ∀ j, j ≤ K → ¬ tk j = 38) (ht : t < 4) (hl : law < 2) (hK : K ≤ 300) (hE : tk K = 40) : ∀ k x, x ≤ 8 → (7 * (8 - x) + 1 ≤ k → ONE tk tv tp ep B t law K x (grpX1 k)) ∧ (7 * (8 - x) + 2 ≤ k → PROD tk tv tp ep B t law K x (grpX1 k)) ∧ (7 * (8 - x) + 2 ≤ k → UNDER tk tv tp ep B t law K x (grpX1 k)) ∧ (7 * (8 - x) + 3 ≤ k → SUM tk tv tp ep B t law K x (grpX1 k)) ∧ (7 * (8 - x) + 4 ≤ k → ASK tk tv tp ep B t law K x (grpX1 k)) ∧ (7 * (8 - x) + 5 ≤ k → BOTH tk tv tp ep B t law K x (grpX1 k)) ∧ (7 * (8 - x) + 6 ≤ k → EITH tk tv tp ep B t law K x (grpX1 k)) ∧ (7 * (8 - x) + 7 ≤ k → CHOICE tk tv tp ep B t law K x (grpX1 k)) := by
  intro k
  induction k with
  | zero => intro x _; exact ⟨fun h => by omega, fun h => by omega, fun h => by omega, fun h => by omega, fun h => by omega, fun h => by omega, fun h => by omega, fun h => by omega⟩
  | succ k ih =>
    intro x hx
    obtain ⟨a1, a2, a3, a4, a5, a6, a7, a8⟩ := ih x hx
    have up : x < 8 → _ := fun z => ih (x + 1) (by omega)
    refine ⟨fun h => ?_, fun h => ?_, fun h => ?_, fun h => ?_, fun h => ?_, fun h => ?_, fun h => ?_, fun h => ?_⟩
    · exact one_step hx hN hT h38 ht hl hK hE (fun z => (up z).2.2.2.1 (by omega)) (fun z => (up z).2.2.1 (by omega)) (fun z => (up z).2.2.2.2.2.2.2 (by omega)) (fun _ => rfl)
    · exact prod_step hx hN hT ht hK hE (a1 (by omega)) (fun _ => rfl)
    · exact under_step hx ht hK (a1 (by omega)) (fun _ _ => rfl)
    · exact sum_step hx hN hT ht hK hE (a2 (by omega)) (fun _ => rfl)
    · exact ask_step hx hN hT ht hK hE (a4 (by omega)) (fun z => (up z).2.2.2.2.1 (by omega)) (fun _ => rfl)
    · exact both_step hx hN hT ht hK hE (a5 (by omega)) (fun _ => rfl)
    · exact either_step hx hN hT ht hK hE (a6 (by omega)) (fun _ => rfl)
    · exact choice_step hx hN hT ht hK hE (a4 (by omega)) (a7 (by omega)) (fun _ => rfl)
theorem sum_ok (hN : NXT tk tv tp ep B K) (hT : toksOK tk tv tp K) (h38 : ∀ j, j ≤ K → ¬ tk j = 38) (ht : t < 4) (hl : law < 2) (hK : K ≤ 300) (hE : tk K = 40) : SUM tk tv tp ep B t law K 0 (grpX1 KD) :=
  (all_ok hN hT h38 ht hl hK hE KD 0 (by omega)).2.2.2.1 (by show 7 * (8 - 0) + 3 ≤ 80; omega)
end CH
