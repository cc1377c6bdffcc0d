-- 20: the two outer constructors
theorem gInj_gad {L : gL} {S : Nat} : gInj L (gad S) := fun i j _ _ h => Nat.add_left_cancel h

theorem cRi_o {o : Nat} {I : gI} (h : o < 275 ∨ 287 ≤ o) : cRi I o = I o := by
  unfold cRi
  simp (disch := omega) only [wI_o, cTo]
theorem cRr_o {o : Nat} {rs : Nat → Nat → Option Nat} (h : o < 275 ∨ 287 ≤ o) : cRr rs o = rs o := by
  unfold cRr
  simp (disch := omega) only [upR_o, cTr_o]
theorem cSi_e {I : gI} : cSi I = I := rfl
theorem cSr_o {o : Nat} {rs : Nat → Nat → Option Nat} (h : o ≠ 287) : cSr rs o = rs o := by
  unfold cSr
  simp (disch := omega) only [upR_o]
def cDi1 (I : gI) : gI := (wI (wI (wI (cWi 289 (cSi (cRi (cPi 137 (cPi 1 I))))) 0 10 (0 : Int32)) 0 11 (-1 : Int32)) 0 12 (-1 : Int32))
def cDr1 (rs : Nat → Nat → Option Nat) : Nat → Nat → Option Nat := (upR (upR (upR (upR (cWr 289 (upR (cSr (upR (cRr (upR (upR (upR (cPr 137 (upR (cPr 1 rs) 0 0 1)) 0 1 137) 0 2 273) 0 3 274)) 0 4 275)) 0 5 287)) 0 6 289) 0 7 293) 0 8 294) 0 9 295)
def cDi2 (I : gI) : Nat → gI
  | 0 => I
  | k + 1 => cTi (296 + 8 * k) (cDi2 I k)
def cDr2 (rs : Nat → Nat → Option Nat) : Nat → Nat → Nat → Option Nat
  | 0 => rs
  | k + 1 => upR (cTr (296 + 8 * k) (cDr2 rs k)) 273 k (296 + 8 * k)
def cDi (I : gI) : gI := cDi2 (cDi1 I) 4
def rs0 : Nat → Nat → Option Nat := fun _ _ => none
theorem cDi1_o {o : Nat} {I : gI} (h : 296 ≤ o) : cDi1 I o = I o := by
  unfold cDi1
  simp (disch := omega) only [wI_o, cPi_o, cRi_o, cSi_e, cW_o]
theorem cDr1_o {o : Nat} {rs : Nat → Nat → Option Nat} (h : 296 ≤ o) : cDr1 rs o = rs o := by
  unfold cDr1
  simp (disch := omega) only [upR_o, cPr_o, cRr_o, cSr_o, cWr_o]
theorem cDi2_o {o : Nat} {I : gI} : ∀ k, 296 + 8 * k ≤ o → cDi2 I k o = I o := by
  intro k
  induction k with
  | zero => intro _; rfl
  | succ k ih => intro h; unfold cDi2; rw [cTo (by omega), ih (by omega)]
theorem cDr2_o {o : Nat} {rs : Nat → Nat → Option Nat} : ∀ k, 296 + 8 * k ≤ o → cDr2 rs k o = rs o := by
  intro k
  induction k with
  | zero => intro _; rfl
  | succ k ih => intro h; unfold cDr2; rw [upR_o (by omega), cTr_o (by omega), ih (by omega)]
theorem cDr2_0 {rs : Nat → Nat → Option Nat} : ∀ k, cDr2 rs k 0 = rs 0 := by
  intro k
  induction k with
  | zero => rfl
  | succ k ih => unfold cDr2; rw [upR_o (by omega), cTr_o (by omega), ih]
theorem cDr1_0 {rs : Nat → Nat → Option Nat} : cDr1 rs 0 2 = some 273 := by
  unfold cDr1
  simp (disch := omega) [upR, cPr_o, cRr_o, cSr_o, cWr_o]
theorem kTx : ∀ k, k < 4 → gAt LC (296 + 8 * k) 0 3 := by
  have h : ∀ k, k < 4 → 296 + 8 * k < 328 ∧ LC.2.1 (296 + 8 * k) = (0, 3) := by decide +kernel
  exact h
set_option maxRecDepth 100000 in
theorem relOK_C : relOK 328 kdC (cDr2 (cDr1 rs0) 4) rsC = true := by decide +kernel
def cMi1 (I : gI) : gI := (wI (wI (wI I 0 5 (-1 : Int32)) 0 6 (-1 : Int32)) 0 23 (1 : Int32))
def cMr1 (rs : Nat → Nat → Option Nat) : Nat → Nat → Option Nat := (upR (upR (upR (upR (upR (upR (upR (upR (upR (upR (upR (upR rs 0 0 1) 0 1 2) 0 2 3) 0 3 4) 0 15 5) 0 20 6) 0 21 7) 0 22 8) 0 24 9) 0 25 10) 0 26 11) 0 27 12)
def cMi3 (I : gI) : Nat → gI
  | 0 => I
  | k + 1 => wI (wI (cMi3 I k) 1 (29 + k) (1 : Int32)) 1 (34 + k) ((10 : Int32) * nI k)
def cMi4 (I : gI) : Nat → gI
  | 0 => I
  | k + 1 => wI (cMi4 I k) 1 (11 + k) (-1 : Int32)
def cMi5 (I : gI) : gI := cMi4 (cMi3 (wI (wI (cMi1 I) 1 7 (457 : Int32)) 1 2 (-1 : Int32)) 5) 12
def cpA (I : gI) (s0 s1 : Nat) : gI := fun o k => if o = s1 ∧ k < 1592 then I s0 k else I o k
def cMi (I : gI) : gI := cpA (cMi5 I) 1 2
theorem copy_loop {s0 s1 : Nat} (hs : s0 ≠ s1) : ∀ (n k : Nat) (I : gI), k ≤ 1592 → 1592 - k < n → fX7_copy_2 s0 s1 n (nI k) I = some (fun o j => if o = s1 ∧ k ≤ j ∧ j < 1592 then I s0 j else I o j) := by
  intro n
  induction n with
  | zero => intro k I h1 h2; omega
  | succ n ih =>
    intro k I h1 h2
    show fX7_copy_2b s0 s1 (fX7_copy_2 s0 s1 n) (nI k) I = _
    unfold fX7_copy_2b
    by_cases hk : k = 1592
    · subst hk
      rw [gi_pos (show (1592 : Int32) ≤ nI 1592 from nI_le (a := 1592) (b := 1592) (Nat.le_refl _) (by decide))]
      congr 1
      funext o j
      rw [if_neg (by omega)]
    · have hlt : k < 1592 := by omega
      rw [gi_neg (show ¬ (1592 : Int32) ≤ nI k from nI_ge (a := k) (b := 1592) hlt (by decide)), gd_pos (vp_in_nI hlt (by decide))]
      show fX7_copy_2 s0 s1 n (nI k + 1) (wI I s1 (nI k).toNatClampNeg (I s0 (nI k).toNatClampNeg)) = _
      rw [nI_1, nI_clamp (by omega), ih (k + 1) _ (by omega) (by omega)]
      congr 1
      funext o j
      unfold wI
      by_cases h3 : o = s1 ∧ k + 1 ≤ j ∧ j < 1592
      · rw [if_pos h3, if_neg (fun q => hs q.1), if_pos ⟨h3.1, by omega, h3.2.2⟩]
      · rw [if_neg h3]
        by_cases h4 : o = s1 ∧ j = k
        · rw [if_pos h4, if_pos ⟨h4.1, by omega, by omega⟩, h4.2]
        · rw [if_neg h4, if_neg (by omega)]
theorem copy_spec {s0 s1 : Nat} (hs : s0 ≠ s1) (I : gI) : fX7_copy s0 s1 I = some (cpA I s0 s1) := by
  unfold fX7_copy
  have h := copy_loop hs FU 0 I (by decide) (by decide)
  rw [show (0 : Int32) = nI 0 from rfl, h]
  show some _ = some _
  congr 1
  funext o j
  unfold cpA
  by_cases h1 : o = s1 ∧ j < 1592
  · rw [if_pos h1, if_pos ⟨h1.1, Nat.zero_le _, h1.2⟩]
  · rw [if_neg h1, if_neg (fun q => h1 ⟨q.1, q.2.2⟩)]
set_option maxRecDepth 100000 in
theorem relOK_M : relOK 13 kdM (cMr1 rs0) rsM = true := by decide +kernel
theorem nm_X0_init : gNm yX0_init 0 := by decide +kernel
theorem nm_X1_init : gNm yX1_init 0 := by decide +kernel
theorem nm_X2_init : gNm yX2_init 0 := by decide +kernel
set_option maxHeartbeats 4000000 in
set_option maxRecDepth 100000 in
theorem kX6_init {l : Launch} {G : gG} {S : Nat} {I : gI} {J : gJ} (hI : ∀ o, 1 ≤ o → I o = fun _ => 0) (hJ : ∀ o, 1 ≤ o → J o = fun _ => 0) : gMk l yX6_init cX6_init 2 3 327 7912 G S (1, kdC, rs0) LC [.ref (gad S 0)] I J (cDi I) J := by
  refine gMk_of (lst := [(0, .ref (gad S 0))]) (by decide) rfl (Nat.le_of_ble_eq_true rfl) rfl ?_
  intro p e s m args below meth c Q ls K hW hl hfin
  have hR : ∀ o : Nat, 1 ≤ o → rs0 o = fun _ => none := fun _ _ => rfl
  have hx := K.1.1; have hb := K.1.2.1
  refine lv_aload_n hx hb dX6_init_0 rfl (lv_at hl 0 rfl) ?_
  refine c_obj K hl q_153 (Nat.le_of_ble_eq_true rfl) (Nat.le_of_ble_eq_true rfl) dX6_init_1 ?_
  refine lv_aload_n hx hb dX6_init_4 rfl (lv_at hl 0 rfl) ?_
  refine c_new (tyT := tyX0) (ci := 0) (T := TX0) (N := 20) (C := RX0) K (by omega) (by omega) hW kLC_1.2 rfl i_X0 tyX0_ok (by decide) (fun k => ⟨congrFun (show I 1 = fun _ => 0 from (by simp (disch := first | decide | omega) only [wI_o, upR_o, hI, hJ, hR, cW_o, cTo, cWr_o, cTr_o, cPi_o, cPr_o, cRi_o, cRr_o, cSi_e, cSr_o])) k, congrFun (hJ _ (by omega)) k, congrFun (show rs0 1 = fun _ => none from (by simp (disch := first | decide | omega) only [wI_o, upR_o, hI, hJ, hR, cW_o, cTo, cWr_o, cTr_o, cPi_o, cPr_o, cRi_o, cRr_o, cSi_e, cSr_o])) k⟩) q_156 q_157 q_134 (Nat.le_of_ble_eq_true rfl) (Nat.le_of_ble_eq_true rfl) dX6_init_5 (fun H hW => ?_)
  refine lv_dup hx hb dX6_init_8 rfl ?_
  refine c_callI (rest := [.ref (gad S 1), .ref (gad S 0)]) K (by show _ = _; omega) hW hl (kX0_init (l := l) (G := G) (S := S) (1) ⟨by decide, kLC_1.2⟩ (fun o ho => (by simp (disch := first | decide | omega) only [wI_o, upR_o, hI, hJ, hR, cW_o, cTo, cWr_o, cTr_o, cPi_o, cPr_o, cRi_o, cRr_o, cSi_e, cSr_o])) (fun o ho => hJ _ (by omega)) (fun o ho => (by simp (disch := first | decide | omega) only [wI_o, upR_o, hI, hJ, hR, cW_o, cTo, cWr_o, cTr_o, cPi_o, cPr_o, cRi_o, cRr_o, cSi_e, cSr_o]))) rfl q_158 q_159 q_134 q_160 nm_X0_init ⟨Nat.le_of_ble_eq_true rfl, Nat.le_of_ble_eq_true rfl⟩ (Nat.le_of_ble_eq_true rfl) ⟨(Nat.le_of_ble_eq_true rfl), (Nat.le_of_ble_eq_true rfl)⟩ dX6_init_9 (fun H locs hW => ?_)
  refine c_putF (ci := 5) (k := 0) (N := 13) (T := TX6) (z := 1) K hW (Nat.le_of_ble_eq_true rfl) kLC_0.2 rfl rfl i_X6 tyX6_ok nmX6 (by decide) q_393 rfl rfl rfl rfl dX6_init_12 (fun H locs hW => ?_)
  refine lv_aload_n hx hb dX6_init_15 rfl (lv_at hl 0 rfl) ?_
  refine c_new (tyT := tyX0) (ci := 0) (T := TX0) (N := 20) (C := RX0) K (by omega) (by omega) hW kLC_137.2 rfl i_X0 tyX0_ok (by decide) (fun k => ⟨congrFun (show (cPi 1 I) 137 = fun _ => 0 from (by simp (disch := first | decide | omega) only [wI_o, upR_o, hI, hJ, hR, cW_o, cTo, cWr_o, cTr_o, cPi_o, cPr_o, cRi_o, cRr_o, cSi_e, cSr_o])) k, congrFun (hJ _ (by omega)) k, congrFun (show (upR (cPr 1 rs0) 0 0 1) 137 = fun _ => none from (by simp (disch := first | decide | omega) only [wI_o, upR_o, hI, hJ, hR, cW_o, cTo, cWr_o, cTr_o, cPi_o, cPr_o, cRi_o, cRr_o, cSi_e, cSr_o])) k⟩) q_156 q_157 q_134 (Nat.le_of_ble_eq_true rfl) (Nat.le_of_ble_eq_true rfl) dX6_init_16 (fun H hW => ?_)
  refine lv_dup hx hb dX6_init_19 rfl ?_
  refine c_callI (rest := [.ref (gad S 137), .ref (gad S 0)]) K (by show _ = _; omega) hW hl (kX0_init (l := l) (G := G) (S := S) (137) ⟨by decide, kLC_137.2⟩ (fun o ho => (by simp (disch := first | decide | omega) only [wI_o, upR_o, hI, hJ, hR, cW_o, cTo, cWr_o, cTr_o, cPi_o, cPr_o, cRi_o, cRr_o, cSi_e, cSr_o])) (fun o ho => hJ _ (by omega)) (fun o ho => (by simp (disch := first | decide | omega) only [wI_o, upR_o, hI, hJ, hR, cW_o, cTo, cWr_o, cTr_o, cPi_o, cPr_o, cRi_o, cRr_o, cSi_e, cSr_o]))) rfl q_158 q_159 q_134 q_160 nm_X0_init ⟨Nat.le_of_ble_eq_true rfl, Nat.le_of_ble_eq_true rfl⟩ (Nat.le_of_ble_eq_true rfl) ⟨(Nat.le_of_ble_eq_true rfl), (Nat.le_of_ble_eq_true rfl)⟩ dX6_init_20 (fun H locs hW => ?_)
  refine c_putF (ci := 5) (k := 1) (N := 13) (T := TX6) (z := 137) K hW (Nat.le_of_ble_eq_true rfl) kLC_0.2 rfl rfl i_X6 tyX6_ok nmX6 (by decide) q_394 rfl rfl rfl rfl dX6_init_23 (fun H locs hW => ?_)
  refine lv_aload_n hx hb dX6_init_26 rfl (lv_at hl 0 rfl) ?_
  refine lv_iconst (v := (4 : Int32)) hx hb dX6_init_27 (by decide) ?_
  refine c_newq (t := 6) (len := 4) K (by omega) (by omega) hW K.2.2.1.2 q_295 kLC_273.2 rfl (cell_q6 kLC_273.2 (by simp (disch := first | decide | omega) only [wI_o, upR_o, hI, hJ, hR, cW_o, cTo, cWr_o, cTr_o, cPi_o, cPr_o, cRi_o, cRr_o, cSi_e, cSr_o])) (by decide) (by decide +kernel) (by decide) (Nat.le_of_ble_eq_true rfl) (Nat.le_of_ble_eq_true rfl) dX6_init_28 (fun H hW => ?_)
  refine c_putF (ci := 5) (k := 2) (N := 13) (T := TX6) (z := 273) K hW (Nat.le_of_ble_eq_true rfl) kLC_0.2 rfl rfl i_X6 tyX6_ok nmX6 (by decide) q_395 rfl rfl rfl rfl dX6_init_31 (fun H locs hW => ?_)
  refine lv_aload_n hx hb dX6_init_34 rfl (lv_at hl 0 rfl) ?_
  refine lv_sipush (v := (300 : Int32)) hx hb dX6_init_35 (by decide) ?_
  refine c_newa (atype := .char) (ty := .char) (t := 4) (len := 300) K (by omega) (by omega) hW rfl qa_char kLC_274.2 rfl (fun _ h => by cases h) (cell_c kLC_274.2 (by simp (disch := first | decide | omega) only [wI_o, upR_o, hI, hJ, hR, cW_o, cTo, cWr_o, cTr_o, cPi_o, cPr_o, cRi_o, cRr_o, cSi_e, cSr_o])) (fun _ => rfl) (by decide) (by decide +kernel) (by decide) (Nat.le_of_ble_eq_true rfl) (Nat.le_of_ble_eq_true rfl) dX6_init_38 (fun H hW => ?_)
  refine c_putF (ci := 5) (k := 3) (N := 13) (T := TX6) (z := 274) K hW (Nat.le_of_ble_eq_true rfl) kLC_0.2 rfl rfl i_X6 tyX6_ok nmX6 (by decide) q_396 rfl rfl rfl rfl dX6_init_40 (fun H locs hW => ?_)
  refine lv_aload_n hx hb dX6_init_43 rfl (lv_at hl 0 rfl) ?_
  refine c_new (tyT := tyX1) (ci := 1) (T := TX1) (N := 9) (C := RX1) K (by omega) (by omega) hW kLC_275.2 rfl i_X1 tyX1_ok (by decide) (fun k => ⟨congrFun (show (cPi 137 (cPi 1 I)) 275 = fun _ => 0 from (by simp (disch := first | decide | omega) only [wI_o, upR_o, hI, hJ, hR, cW_o, cTo, cWr_o, cTr_o, cPi_o, cPr_o, cRi_o, cRr_o, cSi_e, cSr_o])) k, congrFun (hJ _ (by omega)) k, congrFun (show (upR (upR (upR (cPr 137 (upR (cPr 1 rs0) 0 0 1)) 0 1 137) 0 2 273) 0 3 274) 275 = fun _ => none from (by simp (disch := first | decide | omega) only [wI_o, upR_o, hI, hJ, hR, cW_o, cTo, cWr_o, cTr_o, cPi_o, cPr_o, cRi_o, cRr_o, cSi_e, cSr_o])) k⟩) q_297 q_298 q_136 (Nat.le_of_ble_eq_true rfl) (Nat.le_of_ble_eq_true rfl) dX6_init_44 (fun H hW => ?_)
  refine lv_dup hx hb dX6_init_47 rfl ?_
  refine c_callN (rest := [.ref (gad S 275), .ref (gad S 0)]) K (by show _ = _; omega) hW hl (kX1_init (l := l) (G := G) (S := S) (fun o ho => (by simp (disch := first | decide | omega) only [wI_o, upR_o, hI, hJ, hR, cW_o, cTo, cWr_o, cTr_o, cPi_o, cPr_o, cRi_o, cRr_o, cSi_e, cSr_o])) (fun o ho => hJ _ (by omega)) (fun o ho => (by simp (disch := first | decide | omega) only [wI_o, upR_o, hI, hJ, hR, cW_o, cTo, cWr_o, cTr_o, cPi_o, cPr_o, cRi_o, cRr_o, cSi_e, cSr_o]))) rfl q_299 q_300 q_136 q_301 nm_X1_init ⟨Nat.le_of_ble_eq_true rfl, Nat.le_of_ble_eq_true rfl⟩ (Nat.le_of_ble_eq_true rfl) ⟨(Nat.le_of_ble_eq_true rfl), (Nat.le_of_ble_eq_true rfl)⟩ dX6_init_48 (fun H locs hW => ?_)
  refine c_putF (ci := 5) (k := 4) (N := 13) (T := TX6) (z := 275) K hW (Nat.le_of_ble_eq_true rfl) kLC_0.2 rfl rfl i_X6 tyX6_ok nmX6 (by decide) q_397 rfl rfl rfl rfl dX6_init_51 (fun H locs hW => ?_)
  refine lv_aload_n hx hb dX6_init_54 rfl (lv_at hl 0 rfl) ?_
  refine c_new (tyT := tyX2) (ci := 2) (T := TX2) (N := 1) (C := RX2) K (by omega) (by omega) hW kLC_287.2 rfl i_X2 tyX2_ok (by decide) (fun k => ⟨congrFun (show (cRi (cPi 137 (cPi 1 I))) 287 = fun _ => 0 from (by simp (disch := first | decide | omega) only [wI_o, upR_o, hI, hJ, hR, cW_o, cTo, cWr_o, cTr_o, cPi_o, cPr_o, cRi_o, cRr_o, cSi_e, cSr_o])) k, congrFun (hJ _ (by omega)) k, congrFun (show (upR (cRr (upR (upR (upR (cPr 137 (upR (cPr 1 rs0) 0 0 1)) 0 1 137) 0 2 273) 0 3 274)) 0 4 275) 287 = fun _ => none from (by simp (disch := first | decide | omega) only [wI_o, upR_o, hI, hJ, hR, cW_o, cTo, cWr_o, cTr_o, cPi_o, cPr_o, cRi_o, cRr_o, cSi_e, cSr_o])) k⟩) q_380 q_381 q_138 (Nat.le_of_ble_eq_true rfl) (Nat.le_of_ble_eq_true rfl) dX6_init_55 (fun H hW => ?_)
  refine lv_dup hx hb dX6_init_58 rfl ?_
  refine c_callN (rest := [.ref (gad S 287), .ref (gad S 0)]) K (by show _ = _; omega) hW hl (kX2_init (l := l) (G := G) (S := S) (fun o ho => (by simp (disch := first | decide | omega) only [wI_o, upR_o, hI, hJ, hR, cW_o, cTo, cWr_o, cTr_o, cPi_o, cPr_o, cRi_o, cRr_o, cSi_e, cSr_o])) (fun o ho => hJ _ (by omega)) (fun o ho => (by simp (disch := first | decide | omega) only [wI_o, upR_o, hI, hJ, hR, cW_o, cTo, cWr_o, cTr_o, cPi_o, cPr_o, cRi_o, cRr_o, cSi_e, cSr_o]))) rfl q_382 q_383 q_138 q_384 nm_X2_init ⟨Nat.le_of_ble_eq_true rfl, Nat.le_of_ble_eq_true rfl⟩ (Nat.le_of_ble_eq_true rfl) ⟨(Nat.le_of_ble_eq_true rfl), (Nat.le_of_ble_eq_true rfl)⟩ dX6_init_59 (fun H locs hW => ?_)
  refine c_putF (ci := 5) (k := 5) (N := 13) (T := TX6) (z := 287) K hW (Nat.le_of_ble_eq_true rfl) kLC_0.2 rfl rfl i_X6 tyX6_ok nmX6 (by decide) q_398 rfl rfl rfl rfl dX6_init_62 (fun H locs hW => ?_)
  refine lv_aload_n hx hb dX6_init_65 rfl (lv_at hl 0 rfl) ?_
  refine c_new (tyT := tyX5) (ci := 4) (T := TX5) (N := 9) (C := RX5) K (by omega) (by omega) hW kLC_289.2 rfl i_X5 tyX5_ok (by decide) (fun k => ⟨congrFun (show (cSi (cRi (cPi 137 (cPi 1 I)))) 289 = fun _ => 0 from (by simp (disch := first | decide | omega) only [wI_o, upR_o, hI, hJ, hR, cW_o, cTo, cWr_o, cTr_o, cPi_o, cPr_o, cRi_o, cRr_o, cSi_e, cSr_o])) k, congrFun (hJ _ (by omega)) k, congrFun (show (upR (cSr (upR (cRr (upR (upR (upR (cPr 137 (upR (cPr 1 rs0) 0 0 1)) 0 1 137) 0 2 273) 0 3 274)) 0 4 275)) 0 5 287) 289 = fun _ => none from (by simp (disch := first | decide | omega) only [wI_o, upR_o, hI, hJ, hR, cW_o, cTo, cWr_o, cTr_o, cPi_o, cPr_o, cRi_o, cRr_o, cSi_e, cSr_o])) k⟩) q_390 q_163 q_135 (Nat.le_of_ble_eq_true rfl) (Nat.le_of_ble_eq_true rfl) dX6_init_66 (fun H hW => ?_)
  refine lv_dup hx hb dX6_init_69 rfl ?_
  refine c_callN (rest := [.ref (gad S 289), .ref (gad S 0)]) K (by show _ = _; omega) hW hl (kX5_init (l := l) (G := G) (S := S) (289) ⟨by decide, kLC_289.2⟩ (fun o ho => (by simp (disch := first | decide | omega) only [wI_o, upR_o, hI, hJ, hR, cW_o, cTo, cWr_o, cTr_o, cPi_o, cPr_o, cRi_o, cRr_o, cSi_e, cSr_o])) (fun o ho => hJ _ (by omega)) (fun o ho => (by simp (disch := first | decide | omega) only [wI_o, upR_o, hI, hJ, hR, cW_o, cTo, cWr_o, cTr_o, cPi_o, cPr_o, cRi_o, cRr_o, cSi_e, cSr_o]))) rfl q_391 q_165 q_135 q_166 nm_X5_init ⟨Nat.le_of_ble_eq_true rfl, Nat.le_of_ble_eq_true rfl⟩ (Nat.le_of_ble_eq_true rfl) ⟨(Nat.le_of_ble_eq_true rfl), (Nat.le_of_ble_eq_true rfl)⟩ dX6_init_70 (fun H locs hW => ?_)
  refine c_putF (ci := 5) (k := 6) (N := 13) (T := TX6) (z := 289) K hW (Nat.le_of_ble_eq_true rfl) kLC_0.2 rfl rfl i_X6 tyX6_ok nmX6 (by decide) q_399 rfl rfl rfl rfl dX6_init_73 (fun H locs hW => ?_)
  refine lv_aload_n hx hb dX6_init_76 rfl (lv_at hl 0 rfl) ?_
  refine lv_bipush (v := (6 : Int32)) hx hb dX6_init_77 (by decide) ?_
  refine c_newa (atype := .int) (ty := .int) (t := 1) (len := 6) K (by omega) (by omega) hW rfl qa_int kLC_293.2 rfl (fun _ h => by cases h) (cell_i kLC_293.2 (by simp (disch := first | decide | omega) only [wI_o, upR_o, hI, hJ, hR, cW_o, cTo, cWr_o, cTr_o, cPi_o, cPr_o, cRi_o, cRr_o, cSi_e, cSr_o])) (fun _ => rfl) (by decide) (by decide +kernel) (by decide) (Nat.le_of_ble_eq_true rfl) (Nat.le_of_ble_eq_true rfl) dX6_init_79 (fun H hW => ?_)
  refine c_putF (ci := 5) (k := 7) (N := 13) (T := TX6) (z := 293) K hW (Nat.le_of_ble_eq_true rfl) kLC_0.2 rfl rfl i_X6 tyX6_ok nmX6 (by decide) q_400 rfl rfl rfl rfl dX6_init_81 (fun H locs hW => ?_)
  refine lv_aload_n hx hb dX6_init_84 rfl (lv_at hl 0 rfl) ?_
  refine lv_bipush (v := (6 : Int32)) hx hb dX6_init_85 (by decide) ?_
  refine c_newa (atype := .int) (ty := .int) (t := 1) (len := 6) K (by omega) (by omega) hW rfl qa_int kLC_294.2 rfl (fun _ h => by cases h) (cell_i kLC_294.2 (by simp (disch := first | decide | omega) only [wI_o, upR_o, hI, hJ, hR, cW_o, cTo, cWr_o, cTr_o, cPi_o, cPr_o, cRi_o, cRr_o, cSi_e, cSr_o])) (fun _ => rfl) (by decide) (by decide +kernel) (by decide) (Nat.le_of_ble_eq_true rfl) (Nat.le_of_ble_eq_true rfl) dX6_init_87 (fun H hW => ?_)
  refine c_putF (ci := 5) (k := 8) (N := 13) (T := TX6) (z := 294) K hW (Nat.le_of_ble_eq_true rfl) kLC_0.2 rfl rfl i_X6 tyX6_ok nmX6 (by decide) q_401 rfl rfl rfl rfl dX6_init_89 (fun H locs hW => ?_)
  refine lv_aload_n hx hb dX6_init_92 rfl (lv_at hl 0 rfl) ?_
  refine lv_bipush (v := (12 : Int32)) hx hb dX6_init_93 (by decide) ?_
  refine c_newa (atype := .int) (ty := .int) (t := 1) (len := 12) K (by omega) (by omega) hW rfl qa_int kLC_295.2 rfl (fun _ h => by cases h) (cell_i kLC_295.2 (by simp (disch := first | decide | omega) only [wI_o, upR_o, hI, hJ, hR, cW_o, cTo, cWr_o, cTr_o, cPi_o, cPr_o, cRi_o, cRr_o, cSi_e, cSr_o])) (fun _ => rfl) (by decide) (by decide +kernel) (by decide) (Nat.le_of_ble_eq_true rfl) (Nat.le_of_ble_eq_true rfl) dX6_init_95 (fun H hW => ?_)
  refine c_putF (ci := 5) (k := 9) (N := 13) (T := TX6) (z := 295) K hW (Nat.le_of_ble_eq_true rfl) kLC_0.2 rfl rfl i_X6 tyX6_ok nmX6 (by decide) q_402 rfl rfl rfl rfl dX6_init_97 (fun H locs hW => ?_)
  refine lv_aload_n hx hb dX6_init_100 rfl (lv_at hl 0 rfl) ?_
  refine lv_iconst (v := (0 : Int32)) hx hb dX6_init_101 (by decide) ?_
  refine g_putI K.1 hW (ci := 5) (k := 10) ⟨(Nat.le_of_ble_eq_true rfl), kLC_0.2⟩ rfl rfl i_X6 tyX6_ok nmX6 (by decide) q_403 rfl rfl rfl rfl dX6_init_102 (fun H locs hW => ?_)
  refine lv_aload_n hx hb dX6_init_105 rfl (lv_at hl 0 rfl) ?_
  refine lv_iconst (v := (-1 : Int32)) hx hb dX6_init_106 (by decide) ?_
  refine g_putI K.1 hW (ci := 5) (k := 11) ⟨(Nat.le_of_ble_eq_true rfl), kLC_0.2⟩ rfl rfl i_X6 tyX6_ok nmX6 (by decide) q_404 rfl rfl rfl rfl dX6_init_107 (fun H locs hW => ?_)
  refine lv_aload_n hx hb dX6_init_110 rfl (lv_at hl 0 rfl) ?_
  refine lv_iconst (v := (-1 : Int32)) hx hb dX6_init_111 (by decide) ?_
  refine g_putI K.1 hW (ci := 5) (k := 12) ⟨(Nat.le_of_ble_eq_true rfl), kLC_0.2⟩ rfl rfl i_X6 tyX6_ok nmX6 (by decide) q_405 rfl rfl rfl rfl dX6_init_112 (fun H locs hW => ?_)
  refine lv_iconst (v := (0 : Int32)) hx hb dX6_init_115 (by decide) ?_
  refine lv_istore_n (lv' := [(1, .int (nI 0)), (0, .ref (gad S 0))]) hx hb dX6_init_116 rfl hl (by decide) rfl (fun ls hl => ?_)
  have L2 : ∀ (j k : Nat), k + j = 4 → ∀ (H : Heap) (locs : List Loc), gWd G (296 + 8 * k, kdC, cDr2 (cDr1 rs0) k) (gad S) (gB S) s.heap (cDi2 (cDi1 I) k) J H locs → ∀ (ls : Array Slot), lv_has ls 2 [(0, .ref (gad S 0)), (1, .int (nI k))] → W p l e (cRm 3 327 7912) s m args below meth c H locs (295 + 8 * k) (5172 + 685 * k) Q (F0 m 117 ls []) := by
    intro j
    induction j with
    | zero =>
      intro k hk H locs hW ls hl
      have hk3 : k = 4 := by omega
      subst hk3
      refine lv_iload_n hx hb dX6_init_117 rfl (lv_at hl 1 rfl) ?_
      refine lv_iconst (v := (4 : Int32)) hx hb dX6_init_118 (by decide) ?_
      refine lv_icmp_ge (tgt := 141) hx hb dX6_init_119 (by decide) (fun c1 => ?_) (fun c1 => ?_)
      · refine hfin _ _ _ _ ⟨?_, gws_DB, hW.2.2⟩ dX6_init_141
        have h1 := hW.1
        rw [gws_rs (n := 328) (kd := kdC) (rs := cDr2 (cDr1 rs0) 4) (rs' := rsC) relOK_C] at h1
        exact h1
      · exact absurd (nI_le (a := 4) (b := 4) (Nat.le_refl _) (by decide)) c1
    | succ j ih =>
      intro k hk H locs hW ls hl
      have hk3 : k < 4 := by omega
      refine lv_iload_n hx hb dX6_init_117 rfl (lv_at hl 1 rfl) ?_
      refine lv_iconst (v := (4 : Int32)) hx hb dX6_init_118 (by decide) ?_
      refine lv_icmp_ge (tgt := 141) hx hb dX6_init_119 (by decide) (fun c1 => ?_) (fun c1 => ?_)
      · exact absurd c1 (nI_ge (a := k) (b := 4) hk3 (by decide))
      refine lv_aload_n hx hb dX6_init_122 rfl (lv_at hl 0 rfl) ?_
      refine g_get K.1 hW (t := 2) (ci := 5) (k := 2) (v := .ref (gad S 273)) ⟨by show 0 < _; omega, kLC_0.2⟩ rfl rfl i_X6 (by decide) q_395 rfl (gfv2 (by show cDr2 (cDr1 rs0) k 0 2 = _; rw [cDr2_0]; exact cDr1_0)) dX6_init_123 ?_
      refine lv_iload_n hx hb dX6_init_126 rfl (lv_at hl 1 rfl) ?_
      refine c_new (tyT := tyX3) (ci := 3) (T := TX3) (N := 9) (C := RX3) K (by show 1 + _ = _; omega) (by decide) hW (kTx k hk3).2 rfl i_X3 tyX3_ok (by decide) (fun z => ⟨congrFun (show cDi2 (cDi1 I) k (296 + 8 * k) = fun _ => 0 from by rw [cDi2_o k (by omega), cDi1_o (by omega), hI _ (by omega)]) z, congrFun (hJ _ (by omega)) z, congrFun (show cDr2 (cDr1 rs0) k (296 + 8 * k) = fun _ => none from by rw [cDr2_o k (by omega), cDr1_o (by omega)]; rfl) z⟩) q_295 q_304 q_137 (by show _ ≤ 327; omega) (by show _ ≤ 7912; omega) dX6_init_127 (fun H hW => ?_)
      refine lv_dup hx hb dX6_init_130 rfl ?_
      refine c_callN (rest := [.ref (gad S (296 + 8 * k)), .int (nI k), .ref (gad S 273)]) K (by show 1 + _ = _; omega) hW hl (kX3_init (l := l) (G := G) (S := S) (296 + 8 * k) (kTx k hk3) (fun o ho => by rw [cDi2_o k (by omega), cDi1_o (by omega), hI _ (by omega)]) (fun o ho => hJ _ (by omega)) (fun o ho => by rw [cDr2_o k (by omega), cDr1_o (by omega)]; rfl)) rfl q_392 q_306 q_137 q_307 nm_X3_init ⟨Nat.le_of_ble_eq_true rfl, Nat.le_of_ble_eq_true rfl⟩ (Nat.le_of_ble_eq_true rfl) ⟨by show _ ≤ 327; omega, by show _ ≤ 7912; omega⟩ dX6_init_131 (fun H locs hW => ?_)
      refine c_aast (o := 273) (z := 296 + 8 * k) (t := 6) (len := 4) (ci := 3) (C := "DawnPerquisite$Text") (T := TX3) (N := 9) (j := k) K hW (by omega) (by omega) kLC_273.2 (kTx k hk3).2 (Or.inr rfl) rfl rfl (vp_in_nI hk3 (by decide)) (nI_clamp (by omega)) dX6_init_134 (fun H locs hW => ?_)
      refine lv_iinc (v := nI (k + 1)) (lv' := [(1, .int (nI (k + 1))), (0, .ref (gad S 0))]) hx hb dX6_init_135 hl (k := 1) rfl (nI_1 k) (by decide) rfl (fun ls hl => ?_)
      refine lv_goto (tgt := 117) hx hb dX6_init_138 (by decide) ?_
      exact ih (k + 1) (by omega) _ _ hW _ (lv_sub hl [1, 0] rfl)
  exact L2 4 0 rfl _ _ hW _ (lv_sub hl [1, 0] rfl)
set_option maxHeartbeats 4000000 in
set_option maxRecDepth 100000 in
theorem kX7_init {l : Launch} {G : gG} {S : Nat} {I : gI} {J : gJ} (hI : ∀ o, 1 ≤ o → I o = fun _ => 0) (hJ : ∀ o, 1 ≤ o → J o = fun _ => 0) : gMk l yX7_init cX7_init 2 2 12 7221 G S (1, kdM, rs0) LM [.ref (gad S 0)] I J (cMi I) J := by
  refine gMk_of (lst := [(0, .ref (gad S 0))]) (by decide) rfl (Nat.le_of_ble_eq_true rfl) rfl ?_
  intro p e s m args below meth c Q ls K hW hl hfin
  have hR : ∀ o : Nat, 1 ≤ o → rs0 o = fun _ => none := fun _ _ => rfl
  have hx := K.1.1; have hb := K.1.2.1
  refine lv_aload_n hx hb dX7_init_0 rfl (lv_at hl 0 rfl) ?_
  refine c_obj K hl q_1073 (Nat.le_of_ble_eq_true rfl) (Nat.le_of_ble_eq_true rfl) dX7_init_1 ?_
  refine lv_aload_n hx hb dX7_init_4 rfl (lv_at hl 0 rfl) ?_
  refine lv_sipush (v := (1592 : Int32)) hx hb dX7_init_5 (by decide) ?_
  refine c_newa (atype := .int) (ty := .int) (t := 1) (len := 1592) K (by omega) (by omega) hW rfl qa_int kLM_1.2 rfl (fun _ h => by cases h) (cell_i kLM_1.2 (by simp (disch := first | decide | omega) only [wI_o, upR_o, hI, hJ, hR, cW_o, cTo, cWr_o, cTr_o, cPi_o, cPr_o, cRi_o, cRr_o, cSi_e, cSr_o])) (fun _ => rfl) (by decide) (by decide +kernel) (by decide) (Nat.le_of_ble_eq_true rfl) (Nat.le_of_ble_eq_true rfl) dX7_init_8 (fun H hW => ?_)
  refine c_putF (ci := 6) (k := 0) (N := 28) (T := TX7) (z := 1) K hW (Nat.le_of_ble_eq_true rfl) kLM_0.2 rfl rfl i_X7 tyX7_ok nmX7 (by decide) q_1077 rfl rfl rfl rfl dX7_init_10 (fun H locs hW => ?_)
  refine lv_aload_n hx hb dX7_init_13 rfl (lv_at hl 0 rfl) ?_
  refine lv_sipush (v := (1592 : Int32)) hx hb dX7_init_14 (by decide) ?_
  refine c_newa (atype := .int) (ty := .int) (t := 1) (len := 1592) K (by omega) (by omega) hW rfl qa_int kLM_2.2 rfl (fun _ h => by cases h) (cell_i kLM_2.2 (by simp (disch := first | decide | omega) only [wI_o, upR_o, hI, hJ, hR, cW_o, cTo, cWr_o, cTr_o, cPi_o, cPr_o, cRi_o, cRr_o, cSi_e, cSr_o])) (fun _ => rfl) (by decide) (by decide +kernel) (by decide) (Nat.le_of_ble_eq_true rfl) (Nat.le_of_ble_eq_true rfl) dX7_init_17 (fun H hW => ?_)
  refine c_putF (ci := 6) (k := 1) (N := 28) (T := TX7) (z := 2) K hW (Nat.le_of_ble_eq_true rfl) kLM_0.2 rfl rfl i_X7 tyX7_ok nmX7 (by decide) q_1078 rfl rfl rfl rfl dX7_init_19 (fun H locs hW => ?_)
  refine lv_aload_n hx hb dX7_init_22 rfl (lv_at hl 0 rfl) ?_
  refine lv_sipush (v := (2724 : Int32)) hx hb dX7_init_23 (by decide) ?_
  refine c_newa (atype := .int) (ty := .int) (t := 1) (len := 2724) K (by omega) (by omega) hW rfl qa_int kLM_3.2 rfl (fun _ h => by cases h) (cell_i kLM_3.2 (by simp (disch := first | decide | omega) only [wI_o, upR_o, hI, hJ, hR, cW_o, cTo, cWr_o, cTr_o, cPi_o, cPr_o, cRi_o, cRr_o, cSi_e, cSr_o])) (fun _ => rfl) (by decide) (by decide +kernel) (by decide) (Nat.le_of_ble_eq_true rfl) (Nat.le_of_ble_eq_true rfl) dX7_init_26 (fun H hW => ?_)
  refine c_putF (ci := 6) (k := 2) (N := 28) (T := TX7) (z := 3) K hW (Nat.le_of_ble_eq_true rfl) kLM_0.2 rfl rfl i_X7 tyX7_ok nmX7 (by decide) q_1079 rfl rfl rfl rfl dX7_init_28 (fun H locs hW => ?_)
  refine lv_aload_n hx hb dX7_init_31 rfl (lv_at hl 0 rfl) ?_
  refine lv_sipush (v := (300 : Int32)) hx hb dX7_init_32 (by decide) ?_
  refine c_newa (atype := .int) (ty := .int) (t := 1) (len := 300) K (by omega) (by omega) hW rfl qa_int kLM_4.2 rfl (fun _ h => by cases h) (cell_i kLM_4.2 (by simp (disch := first | decide | omega) only [wI_o, upR_o, hI, hJ, hR, cW_o, cTo, cWr_o, cTr_o, cPi_o, cPr_o, cRi_o, cRr_o, cSi_e, cSr_o])) (fun _ => rfl) (by decide) (by decide +kernel) (by decide) (Nat.le_of_ble_eq_true rfl) (Nat.le_of_ble_eq_true rfl) dX7_init_35 (fun H hW => ?_)
  refine c_putF (ci := 6) (k := 3) (N := 28) (T := TX7) (z := 4) K hW (Nat.le_of_ble_eq_true rfl) kLM_0.2 rfl rfl i_X7 tyX7_ok nmX7 (by decide) q_1080 rfl rfl rfl rfl dX7_init_37 (fun H locs hW => ?_)
  refine lv_aload_n hx hb dX7_init_40 rfl (lv_at hl 0 rfl) ?_
  refine lv_iconst (v := (-1 : Int32)) hx hb dX7_init_41 (by decide) ?_
  refine g_putI K.1 hW (ci := 6) (k := 5) ⟨(Nat.le_of_ble_eq_true rfl), kLM_0.2⟩ rfl rfl i_X7 tyX7_ok nmX7 (by decide) q_1082 rfl rfl rfl rfl dX7_init_42 (fun H locs hW => ?_)
  refine lv_aload_n hx hb dX7_init_45 rfl (lv_at hl 0 rfl) ?_
  refine lv_iconst (v := (-1 : Int32)) hx hb dX7_init_46 (by decide) ?_
  refine g_putI K.1 hW (ci := 6) (k := 6) ⟨(Nat.le_of_ble_eq_true rfl), kLM_0.2⟩ rfl rfl i_X7 tyX7_ok nmX7 (by decide) q_1083 rfl rfl rfl rfl dX7_init_47 (fun H locs hW => ?_)
  refine lv_aload_n hx hb dX7_init_50 rfl (lv_at hl 0 rfl) ?_
  refine lv_sipush (v := (160 : Int32)) hx hb dX7_init_51 (by decide) ?_
  refine c_newa (atype := .int) (ty := .int) (t := 1) (len := 160) K (by omega) (by omega) hW rfl qa_int kLM_5.2 rfl (fun _ h => by cases h) (cell_i kLM_5.2 (by simp (disch := first | decide | omega) only [wI_o, upR_o, hI, hJ, hR, cW_o, cTo, cWr_o, cTr_o, cPi_o, cPr_o, cRi_o, cRr_o, cSi_e, cSr_o])) (fun _ => rfl) (by decide) (by decide +kernel) (by decide) (Nat.le_of_ble_eq_true rfl) (Nat.le_of_ble_eq_true rfl) dX7_init_54 (fun H hW => ?_)
  refine c_putF (ci := 6) (k := 15) (N := 28) (T := TX7) (z := 5) K hW (Nat.le_of_ble_eq_true rfl) kLM_0.2 rfl rfl i_X7 tyX7_ok nmX7 (by decide) q_1092 rfl rfl rfl rfl dX7_init_56 (fun H locs hW => ?_)
  refine lv_aload_n hx hb dX7_init_59 rfl (lv_at hl 0 rfl) ?_
  refine lv_bipush (v := (8 : Int32)) hx hb dX7_init_60 (by decide) ?_
  refine c_newa (atype := .int) (ty := .int) (t := 1) (len := 8) K (by omega) (by omega) hW rfl qa_int kLM_6.2 rfl (fun _ h => by cases h) (cell_i kLM_6.2 (by simp (disch := first | decide | omega) only [wI_o, upR_o, hI, hJ, hR, cW_o, cTo, cWr_o, cTr_o, cPi_o, cPr_o, cRi_o, cRr_o, cSi_e, cSr_o])) (fun _ => rfl) (by decide) (by decide +kernel) (by decide) (Nat.le_of_ble_eq_true rfl) (Nat.le_of_ble_eq_true rfl) dX7_init_62 (fun H hW => ?_)
  refine c_putF (ci := 6) (k := 20) (N := 28) (T := TX7) (z := 6) K hW (Nat.le_of_ble_eq_true rfl) kLM_0.2 rfl rfl i_X7 tyX7_ok nmX7 (by decide) q_1097 rfl rfl rfl rfl dX7_init_64 (fun H locs hW => ?_)
  refine lv_aload_n hx hb dX7_init_67 rfl (lv_at hl 0 rfl) ?_
  refine lv_sipush (v := (330 : Int32)) hx hb dX7_init_68 (by decide) ?_
  refine c_newa (atype := .long) (ty := .long) (t := 2) (len := 330) K (by omega) (by omega) hW rfl qa_long kLM_7.2 rfl (fun _ h => by cases h) (cell_j kLM_7.2 (hJ _ (by omega))) (fun _ => rfl) (by decide) (by decide +kernel) (by decide) (Nat.le_of_ble_eq_true rfl) (Nat.le_of_ble_eq_true rfl) dX7_init_71 (fun H hW => ?_)
  refine c_putF (ci := 6) (k := 21) (N := 28) (T := TX7) (z := 7) K hW (Nat.le_of_ble_eq_true rfl) kLM_0.2 rfl rfl i_X7 tyX7_ok nmX7 (by decide) q_1098 rfl rfl rfl rfl dX7_init_73 (fun H locs hW => ?_)
  refine lv_aload_n hx hb dX7_init_76 rfl (lv_at hl 0 rfl) ?_
  refine lv_sipush (v := (330 : Int32)) hx hb dX7_init_77 (by decide) ?_
  refine c_newa (atype := .boolean) (ty := .boolean) (t := 3) (len := 330) K (by omega) (by omega) hW rfl qa_bool kLM_8.2 rfl (fun _ h => by cases h) (cell_z kLM_8.2 (by simp (disch := first | decide | omega) only [wI_o, upR_o, hI, hJ, hR, cW_o, cTo, cWr_o, cTr_o, cPi_o, cPr_o, cRi_o, cRr_o, cSi_e, cSr_o])) (fun _ => rfl) (by decide) (by decide +kernel) (by decide) (Nat.le_of_ble_eq_true rfl) (Nat.le_of_ble_eq_true rfl) dX7_init_80 (fun H hW => ?_)
  refine c_putF (ci := 6) (k := 22) (N := 28) (T := TX7) (z := 8) K hW (Nat.le_of_ble_eq_true rfl) kLM_0.2 rfl rfl i_X7 tyX7_ok nmX7 (by decide) q_1099 rfl rfl rfl rfl dX7_init_82 (fun H locs hW => ?_)
  refine lv_aload_n hx hb dX7_init_85 rfl (lv_at hl 0 rfl) ?_
  refine lv_iconst (v := (1 : Int32)) hx hb dX7_init_86 (by decide) ?_
  refine g_putI K.1 hW (ci := 6) (k := 23) ⟨(Nat.le_of_ble_eq_true rfl), kLM_0.2⟩ rfl rfl i_X7 tyX7_ok nmX7 (by decide) q_1100 rfl rfl rfl rfl dX7_init_87 (fun H locs hW => ?_)
  refine lv_aload_n hx hb dX7_init_90 rfl (lv_at hl 0 rfl) ?_
  refine lv_bipush (v := (29 : Int32)) hx hb dX7_init_91 (by decide) ?_
  refine c_newa (atype := .int) (ty := .int) (t := 1) (len := 29) K (by omega) (by omega) hW rfl qa_int kLM_9.2 rfl (fun _ h => by cases h) (cell_i kLM_9.2 (by simp (disch := first | decide | omega) only [wI_o, upR_o, hI, hJ, hR, cW_o, cTo, cWr_o, cTr_o, cPi_o, cPr_o, cRi_o, cRr_o, cSi_e, cSr_o])) (fun _ => rfl) (by decide) (by decide +kernel) (by decide) (Nat.le_of_ble_eq_true rfl) (Nat.le_of_ble_eq_true rfl) dX7_init_93 (fun H hW => ?_)
  refine c_putF (ci := 6) (k := 24) (N := 28) (T := TX7) (z := 9) K hW (Nat.le_of_ble_eq_true rfl) kLM_0.2 rfl rfl i_X7 tyX7_ok nmX7 (by decide) q_1101 rfl rfl rfl rfl dX7_init_95 (fun H locs hW => ?_)
  refine lv_aload_n hx hb dX7_init_98 rfl (lv_at hl 0 rfl) ?_
  refine lv_bipush (v := (6 : Int32)) hx hb dX7_init_99 (by decide) ?_
  refine c_newa (atype := .int) (ty := .int) (t := 1) (len := 6) K (by omega) (by omega) hW rfl qa_int kLM_10.2 rfl (fun _ h => by cases h) (cell_i kLM_10.2 (by simp (disch := first | decide | omega) only [wI_o, upR_o, hI, hJ, hR, cW_o, cTo, cWr_o, cTr_o, cPi_o, cPr_o, cRi_o, cRr_o, cSi_e, cSr_o])) (fun _ => rfl) (by decide) (by decide +kernel) (by decide) (Nat.le_of_ble_eq_true rfl) (Nat.le_of_ble_eq_true rfl) dX7_init_101 (fun H hW => ?_)
  refine c_putF (ci := 6) (k := 25) (N := 28) (T := TX7) (z := 10) K hW (Nat.le_of_ble_eq_true rfl) kLM_0.2 rfl rfl i_X7 tyX7_ok nmX7 (by decide) q_1102 rfl rfl rfl rfl dX7_init_103 (fun H locs hW => ?_)
  refine lv_aload_n hx hb dX7_init_106 rfl (lv_at hl 0 rfl) ?_
  refine lv_bipush (v := (6 : Int32)) hx hb dX7_init_107 (by decide) ?_
  refine c_newa (atype := .int) (ty := .int) (t := 1) (len := 6) K (by omega) (by omega) hW rfl qa_int kLM_11.2 rfl (fun _ h => by cases h) (cell_i kLM_11.2 (by simp (disch := first | decide | omega) only [wI_o, upR_o, hI, hJ, hR, cW_o, cTo, cWr_o, cTr_o, cPi_o, cPr_o, cRi_o, cRr_o, cSi_e, cSr_o])) (fun _ => rfl) (by decide) (by decide +kernel) (by decide) (Nat.le_of_ble_eq_true rfl) (Nat.le_of_ble_eq_true rfl) dX7_init_109 (fun H hW => ?_)
  refine c_putF (ci := 6) (k := 26) (N := 28) (T := TX7) (z := 11) K hW (Nat.le_of_ble_eq_true rfl) kLM_0.2 rfl rfl i_X7 tyX7_ok nmX7 (by decide) q_1103 rfl rfl rfl rfl dX7_init_111 (fun H locs hW => ?_)
  refine lv_aload_n hx hb dX7_init_114 rfl (lv_at hl 0 rfl) ?_
  refine lv_sipush (v := (144 : Int32)) hx hb dX7_init_115 (by decide) ?_
  refine c_newa (atype := .int) (ty := .int) (t := 1) (len := 144) K (by omega) (by omega) hW rfl qa_int kLM_12.2 rfl (fun _ h => by cases h) (cell_i kLM_12.2 (by simp (disch := first | decide | omega) only [wI_o, upR_o, hI, hJ, hR, cW_o, cTo, cWr_o, cTr_o, cPi_o, cPr_o, cRi_o, cRr_o, cSi_e, cSr_o])) (fun _ => rfl) (by decide) (by decide +kernel) (by decide) (Nat.le_of_ble_eq_true rfl) (Nat.le_of_ble_eq_true rfl) dX7_init_118 (fun H hW => ?_)
  refine c_putF (ci := 6) (k := 27) (N := 28) (T := TX7) (z := 12) K hW (Nat.le_of_ble_eq_true rfl) kLM_0.2 rfl rfl i_X7 tyX7_ok nmX7 (by decide) q_1104 rfl rfl rfl rfl dX7_init_120 (fun H locs hW => ?_)
  have hW : gWd G LM (gad S) (gB S) s.heap (cMi1 I) J H locs := ⟨by have h1 : va_P (G.1, G.2.1) kC (gws G (13, kdM, cMr1 rs0) (gad S) (cMi1 I) J) H := hW.1; rw [gws_rs (n := 13) (kd := kdM) (rs := cMr1 rs0) (rs' := rsM) relOK_M] at h1; exact h1, gws_DB, hW.2.2⟩
  refine lv_aload_n hx hb dX7_init_123 rfl (lv_at hl 0 rfl) ?_
  refine g_get K.1 hW (t := 2) (ci := 6) (k := 0) (v := .ref (gad S 1)) kLM_0 rfl rfl i_X7 (by decide) q_1077 rfl (gfv2 rLM_0_0) dX7_init_124 ?_
  refine lv_bipush (v := (7 : Int32)) hx hb dX7_init_127 (by decide) ?_
  refine lv_sipush (v := (457 : Int32)) hx hb dX7_init_129 (by decide) ?_
  refine g_iast K.1 hW kLM_1 in_7_1592 tn_7 dX7_init_132 (fun H locs hW => ?_)
  refine lv_aload_n hx hb dX7_init_133 rfl (lv_at hl 0 rfl) ?_
  refine g_get K.1 hW (t := 2) (ci := 6) (k := 0) (v := .ref (gad S 1)) kLM_0 rfl rfl i_X7 (by decide) q_1077 rfl (gfv2 rLM_0_0) dX7_init_134 ?_
  refine lv_iconst (v := (2 : Int32)) hx hb dX7_init_137 (by decide) ?_
  refine lv_iconst (v := (-1 : Int32)) hx hb dX7_init_138 (by decide) ?_
  refine g_iast K.1 hW kLM_1 in_2_1592 tn_2 dX7_init_139 (fun H locs hW => ?_)
  refine lv_iconst (v := (0 : Int32)) hx hb dX7_init_140 (by decide) ?_
  refine lv_istore_n (lv' := [(1, .int (nI 0)), (0, .ref (gad S 0))]) hx hb dX7_init_141 rfl hl (by decide) rfl (fun ls hl => ?_)
  have L2 : ∀ (j k : Nat), k + j = 12 → ∀ (H : Heap) (locs : List Loc), gWd G LM (gad S) (gB S) s.heap (cMi4 (cMi3 (wI (wI (cMi1 I) 1 7 (457 : Int32)) 1 2 (-1 : Int32)) 5) k) J H locs → ∀ (ls : Array Slot), lv_has ls 2 [(0, .ref (gad S 0)), (1, .int (nI k))] → W p l e (cRm 2 12 7221) s m args below meth c H locs 12 7221 Q (F0 m 178 ls []) := by
    intro j
    induction j with
    | zero =>
      intro k hk H locs hW ls hl
      have hk3 : k = 12 := by omega
      subst hk3
      refine lv_iload_n hx hb dX7_init_178 rfl (lv_at hl 1 rfl) ?_
      refine lv_bipush (v := (12 : Int32)) hx hb dX7_init_179 (by decide) ?_
      refine lv_icmp_ge (tgt := 200) hx hb dX7_init_181 (by decide) (fun c1 => ?_) (fun c1 => ?_)
      · refine lv_aload_n hx hb dX7_init_200 rfl (lv_at hl 0 rfl) ?_
        refine g_get K.1 hW (t := 2) (ci := 6) (k := 0) (v := .ref (gad S 1)) kLM_0 rfl rfl i_X7 (by decide) q_1077 rfl (gfv2 rLM_0_0) dX7_init_201 ?_
        refine lv_aload_n hx hb dX7_init_204 rfl (lv_at hl 0 rfl) ?_
        refine g_get K.1 hW (t := 2) (ci := 6) (k := 1) (v := .ref (gad S 2)) kLM_0 rfl rfl i_X7 (by decide) q_1078 rfl (gfv2 rLM_0_1) dX7_init_205 ?_
        refine g_callSv (rest := []) K.1 hW hl (kX7_copy (l := l) (G := G) (ad := gad S) gInj_gad 1 2 kLM_1 kLM_2 (cMi5 I) J _ (copy_spec (by decide) (cMi5 I))) q_1074 q_1075 q_139 q_1076 nm_X7_copy ⟨Nat.le_of_ble_eq_true rfl, Nat.le_of_ble_eq_true rfl⟩ rfl rfl (Nat.le_of_ble_eq_true rfl) ⟨Nat.le_refl _, Nat.le_refl _⟩ dX7_init_208 (fun H locs hW => ?_)
        exact hfin _ _ _ _ hW dX7_init_211
      · exact absurd (nI_le (a := 12) (b := 12) (Nat.le_refl _) (by decide)) c1
    | succ j ih =>
      intro k hk H locs hW ls hl
      have hk3 : k < 12 := by omega
      refine lv_iload_n hx hb dX7_init_178 rfl (lv_at hl 1 rfl) ?_
      refine lv_bipush (v := (12 : Int32)) hx hb dX7_init_179 (by decide) ?_
      refine lv_icmp_ge (tgt := 200) hx hb dX7_init_181 (by decide) (fun c1 => ?_) (fun c1 => ?_)
      · exact absurd c1 (nI_ge (a := k) (b := 12) hk3 (by decide))
      refine lv_aload_n hx hb dX7_init_184 rfl (lv_at hl 0 rfl) ?_
      refine g_get K.1 hW (t := 2) (ci := 6) (k := 0) (v := .ref (gad S 1)) kLM_0 rfl rfl i_X7 (by decide) q_1077 rfl (gfv2 rLM_0_0) dX7_init_185 ?_
      refine lv_bipush (v := (11 : Int32)) hx hb dX7_init_188 (by decide) ?_
      refine lv_iload_n hx hb dX7_init_190 rfl (lv_at hl 1 rfl) ?_
      refine lv_iadd hx hb dX7_init_191 ?_
      refine lv_iconst (v := (-1 : Int32)) hx hb dX7_init_192 (by decide) ?_
      refine g_iast (j := 11 + k) K.1 hW kLM_1 (by rw [show (11 : Int32) + nI k = nI (11 + k) from nI_add 11 k]; exact vp_in_nI (by omega) (by decide)) (by rw [show (11 : Int32) + nI k = nI (11 + k) from nI_add 11 k]; exact nI_clamp (by omega)) dX7_init_193 (fun H locs hW => ?_)
      refine lv_iinc (v := nI (k + 1)) (lv' := [(1, .int (nI (k + 1))), (0, .ref (gad S 0))]) hx hb dX7_init_194 hl (k := 1) rfl (nI_1 k) (by decide) rfl (fun ls hl => ?_)
      refine lv_goto (tgt := 178) hx hb dX7_init_197 (by decide) ?_
      exact ih (k + 1) (by omega) _ _ hW _ (lv_sub hl [1, 0] rfl)
  have L1 : ∀ (j k : Nat), k + j = 5 → ∀ (H : Heap) (locs : List Loc), gWd G LM (gad S) (gB S) s.heap (cMi3 (wI (wI (cMi1 I) 1 7 (457 : Int32)) 1 2 (-1 : Int32)) k) J H locs → ∀ (ls : Array Slot), lv_has ls 2 [(0, .ref (gad S 0)), (1, .int (nI k))] → W p l e (cRm 2 12 7221) s m args below meth c H locs 12 7221 Q (F0 m 142 ls []) := by
    intro j
    induction j with
    | zero =>
      intro k hk H locs hW ls hl
      have hk3 : k = 5 := by omega
      subst hk3
      refine lv_iload_n hx hb dX7_init_142 rfl (lv_at hl 1 rfl) ?_
      refine lv_iconst (v := (5 : Int32)) hx hb dX7_init_143 (by decide) ?_
      refine lv_icmp_ge (tgt := 176) hx hb dX7_init_144 (by decide) (fun c1 => ?_) (fun c1 => ?_)
      · refine lv_iconst (v := (0 : Int32)) hx hb dX7_init_176 (by decide) ?_
        refine lv_istore_n (lv' := [(1, .int (nI 0)), (0, .ref (gad S 0))]) hx hb dX7_init_177 rfl hl (by decide) rfl (fun ls hl => ?_)
        exact L2 12 0 rfl _ _ hW _ (lv_sub hl [1, 0] rfl)
      · exact absurd (nI_le (a := 5) (b := 5) (Nat.le_refl _) (by decide)) c1
    | succ j ih =>
      intro k hk H locs hW ls hl
      have hk3 : k < 5 := by omega
      refine lv_iload_n hx hb dX7_init_142 rfl (lv_at hl 1 rfl) ?_
      refine lv_iconst (v := (5 : Int32)) hx hb dX7_init_143 (by decide) ?_
      refine lv_icmp_ge (tgt := 176) hx hb dX7_init_144 (by decide) (fun c1 => ?_) (fun c1 => ?_)
      · exact absurd c1 (nI_ge (a := k) (b := 5) hk3 (by decide))
      refine lv_aload_n hx hb dX7_init_147 rfl (lv_at hl 0 rfl) ?_
      refine g_get K.1 hW (t := 2) (ci := 6) (k := 0) (v := .ref (gad S 1)) kLM_0 rfl rfl i_X7 (by decide) q_1077 rfl (gfv2 rLM_0_0) dX7_init_148 ?_
      refine lv_bipush (v := (29 : Int32)) hx hb dX7_init_151 (by decide) ?_
      refine lv_iload_n hx hb dX7_init_153 rfl (lv_at hl 1 rfl) ?_
      refine lv_iadd hx hb dX7_init_154 ?_
      refine lv_iconst (v := (1 : Int32)) hx hb dX7_init_155 (by decide) ?_
      refine g_iast (j := 29 + k) K.1 hW kLM_1 (by rw [show (29 : Int32) + nI k = nI (29 + k) from nI_add 29 k]; exact vp_in_nI (by omega) (by decide)) (by rw [show (29 : Int32) + nI k = nI (29 + k) from nI_add 29 k]; exact nI_clamp (by omega)) dX7_init_156 (fun H locs hW => ?_)
      refine lv_aload_n hx hb dX7_init_157 rfl (lv_at hl 0 rfl) ?_
      refine g_get K.1 hW (t := 2) (ci := 6) (k := 0) (v := .ref (gad S 1)) kLM_0 rfl rfl i_X7 (by decide) q_1077 rfl (gfv2 rLM_0_0) dX7_init_158 ?_
      refine lv_bipush (v := (34 : Int32)) hx hb dX7_init_161 (by decide) ?_
      refine lv_iload_n hx hb dX7_init_163 rfl (lv_at hl 1 rfl) ?_
      refine lv_iadd hx hb dX7_init_164 ?_
      refine lv_bipush (v := (10 : Int32)) hx hb dX7_init_165 (by decide) ?_
      refine lv_iload_n hx hb dX7_init_167 rfl (lv_at hl 1 rfl) ?_
      refine lv_imul hx hb dX7_init_168 ?_
      refine g_iast (j := 34 + k) K.1 hW kLM_1 (by rw [show (34 : Int32) + nI k = nI (34 + k) from nI_add 34 k]; exact vp_in_nI (by omega) (by decide)) (by rw [show (34 : Int32) + nI k = nI (34 + k) from nI_add 34 k]; exact nI_clamp (by omega)) dX7_init_169 (fun H locs hW => ?_)
      refine lv_iinc (v := nI (k + 1)) (lv' := [(1, .int (nI (k + 1))), (0, .ref (gad S 0))]) hx hb dX7_init_170 hl (k := 1) rfl (nI_1 k) (by decide) rfl (fun ls hl => ?_)
      refine lv_goto (tgt := 142) hx hb dX7_init_173 (by decide) ?_
      exact ih (k + 1) (by omega) _ _ hW _ (lv_sub hl [1, 0] rfl)
  exact L1 5 0 rfl _ _ hW _ (lv_sub hl [1, 0] rfl)
