-- 19: the constructors with loops
theorem kPo_1 {o : Nat} (h : gAt LC o 0 0) : gAt LC (o + 1) 1 5 := by
  have hd : ∀ o, o < 328 → LC.2.1 o = (0, 0) → (o + 1 < 328 ∧ LC.2.1 (o + 1) = (1, 5)) := by decide +kernel
  exact hd o h.1 h.2
theorem kPo_2 {o : Nat} (h : gAt LC o 0 0) : gAt LC (o + 2) 1 5 := by
  have hd : ∀ o, o < 328 → LC.2.1 o = (0, 0) → (o + 2 < 328 ∧ LC.2.1 (o + 2) = (1, 5)) := by decide +kernel
  exact hd o h.1 h.2
theorem kPo_3 {o : Nat} (h : gAt LC o 0 0) : gAt LC (o + 3) 1 6 := by
  have hd : ∀ o, o < 328 → LC.2.1 o = (0, 0) → (o + 3 < 328 ∧ LC.2.1 (o + 3) = (1, 6)) := by decide +kernel
  exact hd o h.1 h.2
theorem kPo_4 {o : Nat} (h : gAt LC o 0 0) : gAt LC (o + 4) 1 6 := by
  have hd : ∀ o, o < 328 → LC.2.1 o = (0, 0) → (o + 4 < 328 ∧ LC.2.1 (o + 4) = (1, 6)) := by decide +kernel
  exact hd o h.1 h.2
theorem kPo_5 {o : Nat} (h : gAt LC o 0 0) : gAt LC (o + 5) 1 6 := by
  have hd : ∀ o, o < 328 → LC.2.1 o = (0, 0) → (o + 5 < 328 ∧ LC.2.1 (o + 5) = (1, 6)) := by decide +kernel
  exact hd o h.1 h.2
theorem kPo_6 {o : Nat} (h : gAt LC o 0 0) : gAt LC (o + 6) 1 6 := by
  have hd : ∀ o, o < 328 → LC.2.1 o = (0, 0) → (o + 6 < 328 ∧ LC.2.1 (o + 6) = (1, 6)) := by decide +kernel
  exact hd o h.1 h.2
theorem kPo_7 {o : Nat} (h : gAt LC o 0 0) : gAt LC (o + 7) 1 12 := by
  have hd : ∀ o, o < 328 → LC.2.1 o = (0, 0) → (o + 7 < 328 ∧ LC.2.1 (o + 7) = (1, 12)) := by decide +kernel
  exact hd o h.1 h.2
theorem kPo_8 {o : Nat} (h : gAt LC o 0 0) : gAt LC (o + 8) 1 8 := by
  have hd : ∀ o, o < 328 → LC.2.1 o = (0, 0) → (o + 8 < 328 ∧ LC.2.1 (o + 8) = (1, 8)) := by decide +kernel
  exact hd o h.1 h.2
theorem kPo_9 {o : Nat} (h : gAt LC o 0 0) : gAt LC (o + 9) 1 8 := by
  have hd : ∀ o, o < 328 → LC.2.1 o = (0, 0) → (o + 9 < 328 ∧ LC.2.1 (o + 9) = (1, 8)) := by decide +kernel
  exact hd o h.1 h.2
theorem kPo_10 {o : Nat} (h : gAt LC o 0 0) : gAt LC (o + 10) 0 4 := by
  have hd : ∀ o, o < 328 → LC.2.1 o = (0, 0) → (o + 10 < 328 ∧ LC.2.1 (o + 10) = (0, 4)) := by decide +kernel
  exact hd o h.1 h.2
theorem kPo_11 {o : Nat} (h : gAt LC o 0 0) : gAt LC (o + 11) 1 6 := by
  have hd : ∀ o, o < 328 → LC.2.1 o = (0, 0) → (o + 11 < 328 ∧ LC.2.1 (o + 11) = (1, 6)) := by decide +kernel
  exact hd o h.1 h.2
theorem kPo_12 {o : Nat} (h : gAt LC o 0 0) : gAt LC (o + 12) 1 6 := by
  have hd : ∀ o, o < 328 → LC.2.1 o = (0, 0) → (o + 12 < 328 ∧ LC.2.1 (o + 12) = (1, 6)) := by decide +kernel
  exact hd o h.1 h.2
theorem kPo_13 {o : Nat} (h : gAt LC o 0 0) : gAt LC (o + 13) 1 25 := by
  have hd : ∀ o, o < 328 → LC.2.1 o = (0, 0) → (o + 13 < 328 ∧ LC.2.1 (o + 13) = (1, 25)) := by decide +kernel
  exact hd o h.1 h.2
theorem kPo_14 {o : Nat} (h : gAt LC o 0 0) : gAt LC (o + 14) 5 30 := by
  have hd : ∀ o, o < 328 → LC.2.1 o = (0, 0) → (o + 14 < 328 ∧ LC.2.1 (o + 14) = (5, 30)) := by decide +kernel
  exact hd o h.1 h.2
theorem kPo_15 {o : Nat} (h : gAt LC o 0 0) : gAt LC (o + 15) 1 30 := by
  have hd : ∀ o, o < 328 → LC.2.1 o = (0, 0) → (o + 15 < 328 ∧ LC.2.1 (o + 15) = (1, 30)) := by decide +kernel
  exact hd o h.1 h.2
theorem kPo_16 {o : Nat} (h : gAt LC o 0 0) : gAt LC (o + 16) 0 4 := by
  have hd : ∀ o, o < 328 → LC.2.1 o = (0, 0) → (o + 16 < 328 ∧ LC.2.1 (o + 16) = (0, 4)) := by decide +kernel
  exact hd o h.1 h.2
def relOK (n : Nat) (kd : Nat → Nat × Nat) (rs rs' : Nat → Nat → Option Nat) : Bool := (List.range n).all fun o => match (kd o).1 with
  | 0 => (List.range (gft (kd o).2).length).all fun k => decide ((gft (kd o).2).getD k 0 < 2) || decide (rs o k = rs' o k)
  | 5 => (List.range (kd o).2).all fun k => decide (rs o k = rs' o k)
  | 6 => (List.range (kd o).2).all fun k => decide (rs o k = rs' o k)
  | _ => true
theorem gws_rs {G : gG} {n : Nat} {kd : Nat → Nat × Nat} {rs rs' : Nat → Nat → Option Nat} {ad : Nat → Nat} {I : gI} {J : gJ} (h : relOK n kd rs rs' = true) : gws G (n, kd, rs) ad I J = gws G (n, kd, rs') ad I J := by
  unfold gws
  apply List.map_congr_left
  intro o ho
  have ho' : o < n := List.mem_range.mp ho
  have h1 := List.all_eq_true.mp h o (List.mem_range.mpr ho')
  refine congrArg (Prod.mk (ad o)) ?_
  have hA : ∀ b, (kd o).2 = b → ((List.range b).all fun k => decide (rs o k = rs' o k)) = true → (fun j => if j < b then (rs o j).map ad else none) = (fun j => if j < b then (rs' o j).map ad else none) := by
    intro b _ h1
    funext j
    by_cases hj : j < b
    · have h2 := List.all_eq_true.mp h1 j (List.mem_range.mpr hj)
      simp only [decide_eq_true_eq] at h2
      rw [h2]
    · rw [if_neg hj, if_neg hj]
  by_cases h0 : (kd o).1 = 0
  · simp only [h0] at h1
    simp only [gce, h0]
    refine congrArg Sum.inr (congrArg (Prod.mk (kd o).2) ?_)
    unfold gfl
    apply List.map_congr_left
    intro k hk2
    have h2 := List.all_eq_true.mp h1 k hk2
    simp only [Bool.or_eq_true, decide_eq_true_eq] at h2
    unfold gfv
    dsimp only
    rcases h2 with h2 | h2
    · match (gft (kd o).2).getD k 0, h2 with
      | 0, _ => rfl
      | 1, _ => rfl
    · rw [h2]
  · by_cases h5 : (kd o).1 = 5
    · simp only [h5] at h1
      simp only [gce, h5]
      rw [hA _ rfl h1]
    · by_cases h6 : (kd o).1 = 6
      · simp only [h6] at h1
        simp only [gce, h6]
        rw [hA _ rfl h1]
      · unfold gce
        dsimp only
        split <;> first | rfl | omega
def cPi1 (p : Nat) (I : gI) : gI := (wI (wI (wI (wI (wI (wI (wI (wI (cWi (p + 10) I) p 12 (0 : Int32)) p 13 (0 : Int32)) p 14 (-1 : Int32)) p 15 (0 : Int32)) p 16 (0 : Int32)) p 17 (0 : Int32)) p 18 (0 : Int32)) p 19 (0 : Int32))
def cPr1 (p : Nat) (rs : Nat → Nat → Option Nat) : Nat → Nat → Option Nat := (upR (upR (upR (cWr (p + 10) (upR (upR (upR (upR (upR (upR (upR (upR (upR rs p 0 (p + 1)) p 1 (p + 2)) p 2 (p + 3)) p 3 (p + 4)) p 4 (p + 5)) p 5 (p + 6)) p 6 (p + 7)) p 7 (p + 8)) p 8 (p + 9))) p 9 (p + 10)) p 10 (p + 14)) p 11 (p + 15))
def cPi2 (p : Nat) (I : gI) : Nat → gI
  | 0 => I
  | k + 1 => wI (wI (cPi2 p I k) (p + 1) k (1 : Int32)) (p + 2) k ((10 : Int32) * nI k)
def cPi3 (p : Nat) (I : gI) : Nat → gI
  | 0 => I
  | k + 1 => cWi (p + 16 + 4 * k) (cPi3 p I k)
def cPr3 (p : Nat) (rs : Nat → Nat → Option Nat) : Nat → Nat → Nat → Option Nat
  | 0 => rs
  | k + 1 => upR (cWr (p + 16 + 4 * k) (cPr3 p rs k)) (p + 14) k (p + 16 + 4 * k)
def cPi (p : Nat) (I : gI) : gI := cPi3 p (cPi2 p (cPi1 p I) 5) 30
def cPr (p : Nat) (rs : Nat → Nat → Option Nat) : Nat → Nat → Option Nat := cPr3 p (cPr1 p rs) 30
theorem cPi1_o {p o : Nat} {I : gI} (h : o < p ∨ p + 136 ≤ o ∨ p + 16 ≤ o) : cPi1 p I o = I o := by
  unfold cPi1
  simp (disch := omega) only [wI_o, cW_o]
theorem cPr1_o {p o : Nat} {rs : Nat → Nat → Option Nat} (h : o < p ∨ p + 16 ≤ o) : cPr1 p rs o = rs o := by
  unfold cPr1
  simp (disch := omega) only [upR_o, cWr_o]
theorem cPi2_o {p o : Nat} {I : gI} (h : o < p ∨ p + 16 ≤ o) : ∀ k, cPi2 p I k o = I o := by
  intro k
  induction k with
  | zero => rfl
  | succ k ih => unfold cPi2; rw [wI_o (by omega), wI_o (by omega), ih]
theorem cPi3_o {p o : Nat} {I : gI} : ∀ k, (o < p ∨ p + 16 + 4 * k ≤ o) → cPi3 p I k o = I o := by
  intro k
  induction k with
  | zero => intro _; rfl
  | succ k ih => intro h; unfold cPi3; rw [cW_o (by omega), ih (by omega)]
theorem cPr3_o {p o : Nat} {rs : Nat → Nat → Option Nat} : ∀ k, (o < p ∨ p + 16 + 4 * k ≤ o) → cPr3 p rs k o = rs o := by
  intro k
  induction k with
  | zero => intro _; rfl
  | succ k ih => intro h; unfold cPr3; rw [upR_o (by omega), cWr_o (by omega), ih (by omega)]
theorem cPi_o {p o : Nat} {I : gI} (h : o < p ∨ p + 136 ≤ o) : cPi p I o = I o := by
  unfold cPi
  rw [cPi3_o 30 (by omega), cPi2_o (by omega), cPi1_o (by omega)]
theorem cPr_o {p o : Nat} {rs : Nat → Nat → Option Nat} (h : o < p ∨ p + 136 ≤ o) : cPr p rs o = rs o := by
  unfold cPr
  rw [cPr3_o 30 (by omega), cPr1_o (by omega)]
theorem cPr3_p {p : Nat} {rs : Nat → Nat → Option Nat} : ∀ k, cPr3 p rs k p = rs p := by
  intro k
  induction k with
  | zero => rfl
  | succ k ih => unfold cPr3; rw [upR_o (by omega), cWr_o (by omega), ih]
theorem cPr1_p {p : Nat} {rs : Nat → Nat → Option Nat} : cPr1 p rs p 0 = some (p + 1) ∧ cPr1 p rs p 1 = some (p + 2) ∧ cPr1 p rs p 10 = some (p + 14) := by
  unfold cPr1
  refine ⟨?_, ?_, ?_⟩ <;> simp [upR, cWr]
theorem kPast {p k : Nat} (h : gAt LC p 0 0) (hk : k < 30) : gAt LC (p + 16 + 4 * k) 0 4 := by
  have h1 := kPo_14 h
  have h2 := kWaD (p + 14) h1.1 h1.2 k hk
  have e : p + 14 + 2 + 4 * k = p + 16 + 4 * k := by omega
  rw [e] at h2
  exact h2
theorem nm_X5_init : gNm yX5_init 0 := by decide +kernel
set_option maxHeartbeats 4000000 in
set_option maxRecDepth 100000 in
theorem kX0_init {l : Launch} {G : gG} {S : Nat} (p : Nat) (hp : gAt LC p 0 0) {I : gI} {J : gJ} {rs : Nat → Nat → Option Nat} (hI : ∀ o, p + 1 ≤ o → I o = fun _ => 0) (hJ : ∀ o, p + 1 ≤ o → J o = fun _ => 0) (hR : ∀ o, p + 1 ≤ o → rs o = fun _ => none) : gMk l yX0_init cX0_init 2 2 135 1548 G S (p + 1, kdC, rs) (p + 136, kdC, (cPr p rs)) [.ref (gad S p)] I J (cPi p I) J := by
  refine gMk_of (lst := [(0, .ref (gad S p))]) (by decide) rfl (Nat.le_of_ble_eq_true rfl) rfl ?_
  intro p_ e s m args below meth c Q ls K hW hl hfin
  have hx := K.1.1; have hb := K.1.2.1
  refine lv_aload_n hx hb dX0_init_0 rfl (lv_at hl 0 rfl) ?_
  refine c_obj K hl q_161 (Nat.le_of_ble_eq_true rfl) (Nat.le_of_ble_eq_true rfl) dX0_init_1 ?_
  refine lv_aload_n hx hb dX0_init_4 rfl (lv_at hl 0 rfl) ?_
  refine lv_iconst (v := (5 : Int32)) hx hb dX0_init_5 (by decide) ?_
  refine c_newa (atype := .int) (ty := .int) (t := 1) (len := 5) K (by omega) (by omega) hW rfl qa_int (kPo_1 hp).2 rfl (fun _ h => by cases h) (cell_i (kPo_1 hp).2 (by simp (disch := first | decide | omega) only [wI_o, upR_o, hI, hJ, hR, cW_o, cTo, cWr_o, cTr_o])) (fun _ => rfl) (by decide) (by decide +kernel) (by decide) (Nat.le_of_ble_eq_true rfl) (Nat.le_of_ble_eq_true rfl) dX0_init_6 (fun H hW => ?_)
  refine c_putF (ci := 0) (k := 0) (N := 20) (T := TX0) (z := (p + 1)) K hW (by omega) hp.2 rfl rfl i_X0 tyX0_ok nmX0 (by decide) q_211 rfl rfl rfl rfl dX0_init_8 (fun H locs hW => ?_)
  refine lv_aload_n hx hb dX0_init_11 rfl (lv_at hl 0 rfl) ?_
  refine lv_iconst (v := (5 : Int32)) hx hb dX0_init_12 (by decide) ?_
  refine c_newa (atype := .int) (ty := .int) (t := 1) (len := 5) K (by omega) (by omega) hW rfl qa_int (kPo_2 hp).2 rfl (fun _ h => by cases h) (cell_i (kPo_2 hp).2 (by simp (disch := first | decide | omega) only [wI_o, upR_o, hI, hJ, hR, cW_o, cTo, cWr_o, cTr_o])) (fun _ => rfl) (by decide) (by decide +kernel) (by decide) (Nat.le_of_ble_eq_true rfl) (Nat.le_of_ble_eq_true rfl) dX0_init_13 (fun H hW => ?_)
  refine c_putF (ci := 0) (k := 1) (N := 20) (T := TX0) (z := (p + 2)) K hW (by omega) hp.2 rfl rfl i_X0 tyX0_ok nmX0 (by decide) q_213 rfl rfl rfl rfl dX0_init_15 (fun H locs hW => ?_)
  refine lv_aload_n hx hb dX0_init_18 rfl (lv_at hl 0 rfl) ?_
  refine lv_bipush (v := (6 : Int32)) hx hb dX0_init_19 (by decide) ?_
  refine c_newa (atype := .int) (ty := .int) (t := 1) (len := 6) K (by omega) (by omega) hW rfl qa_int (kPo_3 hp).2 rfl (fun _ h => by cases h) (cell_i (kPo_3 hp).2 (by simp (disch := first | decide | omega) only [wI_o, upR_o, hI, hJ, hR, cW_o, cTo, cWr_o, cTr_o])) (fun _ => rfl) (by decide) (by decide +kernel) (by decide) (Nat.le_of_ble_eq_true rfl) (Nat.le_of_ble_eq_true rfl) dX0_init_21 (fun H hW => ?_)
  refine c_putF (ci := 0) (k := 2) (N := 20) (T := TX0) (z := (p + 3)) K hW (by omega) hp.2 rfl rfl i_X0 tyX0_ok nmX0 (by decide) q_216 rfl rfl rfl rfl dX0_init_23 (fun H locs hW => ?_)
  refine lv_aload_n hx hb dX0_init_26 rfl (lv_at hl 0 rfl) ?_
  refine lv_bipush (v := (6 : Int32)) hx hb dX0_init_27 (by decide) ?_
  refine c_newa (atype := .int) (ty := .int) (t := 1) (len := 6) K (by omega) (by omega) hW rfl qa_int (kPo_4 hp).2 rfl (fun _ h => by cases h) (cell_i (kPo_4 hp).2 (by simp (disch := first | decide | omega) only [wI_o, upR_o, hI, hJ, hR, cW_o, cTo, cWr_o, cTr_o])) (fun _ => rfl) (by decide) (by decide +kernel) (by decide) (Nat.le_of_ble_eq_true rfl) (Nat.le_of_ble_eq_true rfl) dX0_init_29 (fun H hW => ?_)
  refine c_putF (ci := 0) (k := 3) (N := 20) (T := TX0) (z := (p + 4)) K hW (by omega) hp.2 rfl rfl i_X0 tyX0_ok nmX0 (by decide) q_219 rfl rfl rfl rfl dX0_init_31 (fun H locs hW => ?_)
  refine lv_aload_n hx hb dX0_init_34 rfl (lv_at hl 0 rfl) ?_
  refine lv_bipush (v := (6 : Int32)) hx hb dX0_init_35 (by decide) ?_
  refine c_newa (atype := .int) (ty := .int) (t := 1) (len := 6) K (by omega) (by omega) hW rfl qa_int (kPo_5 hp).2 rfl (fun _ h => by cases h) (cell_i (kPo_5 hp).2 (by simp (disch := first | decide | omega) only [wI_o, upR_o, hI, hJ, hR, cW_o, cTo, cWr_o, cTr_o])) (fun _ => rfl) (by decide) (by decide +kernel) (by decide) (Nat.le_of_ble_eq_true rfl) (Nat.le_of_ble_eq_true rfl) dX0_init_37 (fun H hW => ?_)
  refine c_putF (ci := 0) (k := 4) (N := 20) (T := TX0) (z := (p + 5)) K hW (by omega) hp.2 rfl rfl i_X0 tyX0_ok nmX0 (by decide) q_221 rfl rfl rfl rfl dX0_init_39 (fun H locs hW => ?_)
  refine lv_aload_n hx hb dX0_init_42 rfl (lv_at hl 0 rfl) ?_
  refine lv_bipush (v := (6 : Int32)) hx hb dX0_init_43 (by decide) ?_
  refine c_newa (atype := .int) (ty := .int) (t := 1) (len := 6) K (by omega) (by omega) hW rfl qa_int (kPo_6 hp).2 rfl (fun _ h => by cases h) (cell_i (kPo_6 hp).2 (by simp (disch := first | decide | omega) only [wI_o, upR_o, hI, hJ, hR, cW_o, cTo, cWr_o, cTr_o])) (fun _ => rfl) (by decide) (by decide +kernel) (by decide) (Nat.le_of_ble_eq_true rfl) (Nat.le_of_ble_eq_true rfl) dX0_init_45 (fun H hW => ?_)
  refine c_putF (ci := 0) (k := 5) (N := 20) (T := TX0) (z := (p + 6)) K hW (by omega) hp.2 rfl rfl i_X0 tyX0_ok nmX0 (by decide) q_223 rfl rfl rfl rfl dX0_init_47 (fun H locs hW => ?_)
  refine lv_aload_n hx hb dX0_init_50 rfl (lv_at hl 0 rfl) ?_
  refine lv_bipush (v := (12 : Int32)) hx hb dX0_init_51 (by decide) ?_
  refine c_newa (atype := .int) (ty := .int) (t := 1) (len := 12) K (by omega) (by omega) hW rfl qa_int (kPo_7 hp).2 rfl (fun _ h => by cases h) (cell_i (kPo_7 hp).2 (by simp (disch := first | decide | omega) only [wI_o, upR_o, hI, hJ, hR, cW_o, cTo, cWr_o, cTr_o])) (fun _ => rfl) (by decide) (by decide +kernel) (by decide) (Nat.le_of_ble_eq_true rfl) (Nat.le_of_ble_eq_true rfl) dX0_init_53 (fun H hW => ?_)
  refine c_putF (ci := 0) (k := 6) (N := 20) (T := TX0) (z := (p + 7)) K hW (by omega) hp.2 rfl rfl i_X0 tyX0_ok nmX0 (by decide) q_225 rfl rfl rfl rfl dX0_init_55 (fun H locs hW => ?_)
  refine lv_aload_n hx hb dX0_init_58 rfl (lv_at hl 0 rfl) ?_
  refine lv_bipush (v := (8 : Int32)) hx hb dX0_init_59 (by decide) ?_
  refine c_newa (atype := .int) (ty := .int) (t := 1) (len := 8) K (by omega) (by omega) hW rfl qa_int (kPo_8 hp).2 rfl (fun _ h => by cases h) (cell_i (kPo_8 hp).2 (by simp (disch := first | decide | omega) only [wI_o, upR_o, hI, hJ, hR, cW_o, cTo, cWr_o, cTr_o])) (fun _ => rfl) (by decide) (by decide +kernel) (by decide) (Nat.le_of_ble_eq_true rfl) (Nat.le_of_ble_eq_true rfl) dX0_init_61 (fun H hW => ?_)
  refine c_putF (ci := 0) (k := 7) (N := 20) (T := TX0) (z := (p + 8)) K hW (by omega) hp.2 rfl rfl i_X0 tyX0_ok nmX0 (by decide) q_227 rfl rfl rfl rfl dX0_init_63 (fun H locs hW => ?_)
  refine lv_aload_n hx hb dX0_init_66 rfl (lv_at hl 0 rfl) ?_
  refine lv_bipush (v := (8 : Int32)) hx hb dX0_init_67 (by decide) ?_
  refine c_newa (atype := .int) (ty := .int) (t := 1) (len := 8) K (by omega) (by omega) hW rfl qa_int (kPo_9 hp).2 rfl (fun _ h => by cases h) (cell_i (kPo_9 hp).2 (by simp (disch := first | decide | omega) only [wI_o, upR_o, hI, hJ, hR, cW_o, cTo, cWr_o, cTr_o])) (fun _ => rfl) (by decide) (by decide +kernel) (by decide) (Nat.le_of_ble_eq_true rfl) (Nat.le_of_ble_eq_true rfl) dX0_init_69 (fun H hW => ?_)
  refine c_putF (ci := 0) (k := 8) (N := 20) (T := TX0) (z := (p + 9)) K hW (by omega) hp.2 rfl rfl i_X0 tyX0_ok nmX0 (by decide) q_229 rfl rfl rfl rfl dX0_init_71 (fun H locs hW => ?_)
  refine lv_aload_n hx hb dX0_init_74 rfl (lv_at hl 0 rfl) ?_
  refine c_new (tyT := tyX5) (ci := 4) (T := TX5) (N := 9) (C := RX5) K (by omega) (by omega) hW (kPo_10 hp).2 rfl i_X5 tyX5_ok (by decide) (fun k => ⟨congrFun (show I (p + 10) = fun _ => 0 from (by simp (disch := first | decide | omega) only [wI_o, upR_o, hI, hJ, hR, cW_o, cTo, cWr_o, cTr_o])) k, congrFun (hJ _ (by omega)) k, congrFun (show (upR (upR (upR (upR (upR (upR (upR (upR (upR rs p 0 (p + 1)) p 1 (p + 2)) p 2 (p + 3)) p 3 (p + 4)) p 4 (p + 5)) p 5 (p + 6)) p 6 (p + 7)) p 7 (p + 8)) p 8 (p + 9)) (p + 10) = fun _ => none from (by simp (disch := first | decide | omega) only [wI_o, upR_o, hI, hJ, hR, cW_o, cTo, cWr_o, cTr_o])) k⟩) q_162 q_163 q_135 (Nat.le_of_ble_eq_true rfl) (Nat.le_of_ble_eq_true rfl) dX0_init_75 (fun H hW => ?_)
  refine lv_dup hx hb dX0_init_78 rfl ?_
  refine c_callN (rest := [.ref (gad S (p + 10)), .ref (gad S p)]) K (by show _ = _; omega) hW hl (kX5_init (l := l) (G := G) (S := S) ((p + 10)) (kPo_10 hp) (fun o ho => (by simp (disch := first | decide | omega) only [wI_o, upR_o, hI, hJ, hR, cW_o, cTo, cWr_o, cTr_o])) (fun o ho => hJ _ (by omega)) (fun o ho => (by simp (disch := first | decide | omega) only [wI_o, upR_o, hI, hJ, hR, cW_o, cTo, cWr_o, cTr_o]))) rfl q_164 q_165 q_135 q_166 nm_X5_init ⟨Nat.le_of_ble_eq_true rfl, Nat.le_of_ble_eq_true rfl⟩ (Nat.le_of_ble_eq_true rfl) ⟨(Nat.le_of_ble_eq_true rfl), (Nat.le_of_ble_eq_true rfl)⟩ dX0_init_79 (fun H locs hW => ?_)
  refine c_putF (ci := 0) (k := 9) (N := 20) (T := TX0) (z := (p + 10)) K hW (by omega) hp.2 rfl rfl i_X0 tyX0_ok nmX0 (by decide) q_231 rfl rfl rfl rfl dX0_init_82 (fun H locs hW => ?_)
  refine lv_aload_n hx hb dX0_init_85 rfl (lv_at hl 0 rfl) ?_
  refine lv_bipush (v := (30 : Int32)) hx hb dX0_init_86 (by decide) ?_
  refine c_newq (t := 5) (len := 30) K (by omega) (by omega) hW K.2.2.1.1 q_162 (kPo_14 hp).2 rfl (cell_q5 (kPo_14 hp).2 (by simp (disch := first | decide | omega) only [wI_o, upR_o, hI, hJ, hR, cW_o, cTo, cWr_o, cTr_o])) (by decide) (by decide +kernel) (by decide) (Nat.le_of_ble_eq_true rfl) (Nat.le_of_ble_eq_true rfl) dX0_init_88 (fun H hW => ?_)
  refine c_putF (ci := 0) (k := 10) (N := 20) (T := TX0) (z := (p + 14)) K hW (by omega) hp.2 rfl rfl i_X0 tyX0_ok nmX0 (by decide) q_233 rfl rfl rfl rfl dX0_init_91 (fun H locs hW => ?_)
  refine lv_aload_n hx hb dX0_init_94 rfl (lv_at hl 0 rfl) ?_
  refine lv_bipush (v := (30 : Int32)) hx hb dX0_init_95 (by decide) ?_
  refine c_newa (atype := .int) (ty := .int) (t := 1) (len := 30) K (by omega) (by omega) hW rfl qa_int (kPo_15 hp).2 rfl (fun _ h => by cases h) (cell_i (kPo_15 hp).2 (by simp (disch := first | decide | omega) only [wI_o, upR_o, hI, hJ, hR, cW_o, cTo, cWr_o, cTr_o])) (fun _ => rfl) (by decide) (by decide +kernel) (by decide) (Nat.le_of_ble_eq_true rfl) (Nat.le_of_ble_eq_true rfl) dX0_init_97 (fun H hW => ?_)
  refine c_putF (ci := 0) (k := 11) (N := 20) (T := TX0) (z := (p + 15)) K hW (by omega) hp.2 rfl rfl i_X0 tyX0_ok nmX0 (by decide) q_235 rfl rfl rfl rfl dX0_init_99 (fun H locs hW => ?_)
  refine lv_aload_n hx hb dX0_init_102 rfl (lv_at hl 0 rfl) ?_
  refine lv_iconst (v := (0 : Int32)) hx hb dX0_init_103 (by decide) ?_
  refine g_putI K.1 hW (ci := 0) (k := 12) ⟨(by omega), hp.2⟩ rfl rfl i_X0 tyX0_ok nmX0 (by decide) q_237 rfl rfl rfl rfl dX0_init_104 (fun H locs hW => ?_)
  refine lv_aload_n hx hb dX0_init_107 rfl (lv_at hl 0 rfl) ?_
  refine lv_iconst (v := (0 : Int32)) hx hb dX0_init_108 (by decide) ?_
  refine g_putI K.1 hW (ci := 0) (k := 13) ⟨(by omega), hp.2⟩ rfl rfl i_X0 tyX0_ok nmX0 (by decide) q_240 rfl rfl rfl rfl dX0_init_109 (fun H locs hW => ?_)
  refine lv_aload_n hx hb dX0_init_112 rfl (lv_at hl 0 rfl) ?_
  refine lv_iconst (v := (-1 : Int32)) hx hb dX0_init_113 (by decide) ?_
  refine g_putI K.1 hW (ci := 0) (k := 14) ⟨(by omega), hp.2⟩ rfl rfl i_X0 tyX0_ok nmX0 (by decide) q_242 rfl rfl rfl rfl dX0_init_114 (fun H locs hW => ?_)
  refine lv_aload_n hx hb dX0_init_117 rfl (lv_at hl 0 rfl) ?_
  refine lv_iconst (v := (0 : Int32)) hx hb dX0_init_118 (by decide) ?_
  refine g_putI K.1 hW (ci := 0) (k := 15) ⟨(by omega), hp.2⟩ rfl rfl i_X0 tyX0_ok nmX0 (by decide) q_244 rfl rfl rfl rfl dX0_init_119 (fun H locs hW => ?_)
  refine lv_aload_n hx hb dX0_init_122 rfl (lv_at hl 0 rfl) ?_
  refine lv_iconst (v := (0 : Int32)) hx hb dX0_init_123 (by decide) ?_
  refine g_putI K.1 hW (ci := 0) (k := 16) ⟨(by omega), hp.2⟩ rfl rfl i_X0 tyX0_ok nmX0 (by decide) q_246 rfl rfl rfl rfl dX0_init_124 (fun H locs hW => ?_)
  refine lv_aload_n hx hb dX0_init_127 rfl (lv_at hl 0 rfl) ?_
  refine lv_iconst (v := (0 : Int32)) hx hb dX0_init_128 (by decide) ?_
  refine g_putI K.1 hW (ci := 0) (k := 17) ⟨(by omega), hp.2⟩ rfl rfl i_X0 tyX0_ok nmX0 (by decide) q_248 rfl rfl rfl rfl dX0_init_129 (fun H locs hW => ?_)
  refine lv_aload_n hx hb dX0_init_132 rfl (lv_at hl 0 rfl) ?_
  refine lv_iconst (v := (0 : Int32)) hx hb dX0_init_133 (by decide) ?_
  refine g_putI K.1 hW (ci := 0) (k := 18) ⟨(by omega), hp.2⟩ rfl rfl i_X0 tyX0_ok nmX0 (by decide) q_250 rfl rfl rfl rfl dX0_init_134 (fun H locs hW => ?_)
  refine lv_aload_n hx hb dX0_init_137 rfl (lv_at hl 0 rfl) ?_
  refine lv_iconst (v := (0 : Int32)) hx hb dX0_init_138 (by decide) ?_
  refine g_putI K.1 hW (ci := 0) (k := 19) ⟨(by omega), hp.2⟩ rfl rfl i_X0 tyX0_ok nmX0 (by decide) q_252 rfl rfl rfl rfl dX0_init_139 (fun H locs hW => ?_)
  refine lv_iconst (v := (0 : Int32)) hx hb dX0_init_142 (by decide) ?_
  refine lv_istore_n (lv' := [(1, .int (nI 0)), (0, .ref (gad S p))]) hx hb dX0_init_143 rfl hl (by decide) rfl (fun ls hl => ?_)
  have L2 : ∀ (j k : Nat), k + j = 30 → ∀ (H : Heap) (locs : List Loc), gWd G (p + 16 + 4 * k, kdC, cPr3 p (cPr1 p rs) k) (gad S) (gB S) s.heap (cPi3 p (cPi2 p (cPi1 p I) 5) k) J H locs → ∀ (ls : Array Slot), lv_has ls 2 [(0, .ref (gad S p)), (1, .int (nI k))] → W p_ l e (cRm 2 135 1548) s m args below meth c H locs (15 + 4 * k) (168 + 46 * k) Q (F0 m 174 ls []) := by
    intro j
    induction j with
    | zero =>
      intro k hk H locs hW ls hl
      have hk3 : k = 30 := by omega
      subst hk3
      refine lv_iload_n hx hb dX0_init_174 rfl (lv_at hl 1 rfl) ?_
      refine lv_bipush (v := (30 : Int32)) hx hb dX0_init_175 (by decide) ?_
      refine lv_icmp_ge (tgt := 199) hx hb dX0_init_177 (by decide) (fun c1 => ?_) (fun c1 => ?_)
      · exact hfin _ _ _ _ hW dX0_init_199
      · exact absurd (nI_le (a := 30) (b := 30) (Nat.le_refl _) (by decide)) c1
    | succ j ih =>
      intro k hk H locs hW ls hl
      have hk3 : k < 30 := by omega
      refine lv_iload_n hx hb dX0_init_174 rfl (lv_at hl 1 rfl) ?_
      refine lv_bipush (v := (30 : Int32)) hx hb dX0_init_175 (by decide) ?_
      refine lv_icmp_ge (tgt := 199) hx hb dX0_init_177 (by decide) (fun c1 => ?_) (fun c1 => ?_)
      · exact absurd c1 (nI_ge (a := k) (b := 30) hk3 (by decide))
      refine lv_aload_n hx hb dX0_init_180 rfl (lv_at hl 0 rfl) ?_
      refine g_get K.1 hW (t := 2) (ci := 0) (k := 10) (v := .ref (gad S (p + 14))) ⟨by show p < _; omega, hp.2⟩ rfl rfl i_X0 (by decide) q_233 rfl (gfv2 (by show cPr3 p (cPr1 p rs) k p 10 = _; rw [cPr3_p]; exact cPr1_p.2.2)) dX0_init_181 ?_
      refine lv_iload_n hx hb dX0_init_184 rfl (lv_at hl 1 rfl) ?_
      refine c_new (tyT := tyX5) (ci := 4) (T := TX5) (N := 9) (C := RX5) K (by omega) (by omega) hW (kPast hp hk3).2 rfl i_X5 tyX5_ok (by decide) (fun z => ⟨congrFun (show cPi3 p (cPi2 p (cPi1 p I) 5) k (p + 16 + 4 * k) = fun _ => 0 from by rw [cPi3_o k (by omega), cPi2_o (by omega), cPi1_o (by omega), hI _ (by omega)]) z, congrFun (hJ _ (by omega)) z, congrFun (show cPr3 p (cPr1 p rs) k (p + 16 + 4 * k) = fun _ => none from by rw [cPr3_o k (by omega), cPr1_o (by omega), hR _ (by omega)]) z⟩) q_162 q_163 q_135 (by show _ ≤ 135; omega) (by show _ ≤ 1548; omega) dX0_init_185 (fun H hW => ?_)
      refine lv_dup hx hb dX0_init_188 rfl ?_
      refine c_callN (rest := [.ref (gad S (p + 16 + 4 * k)), .int (nI k), .ref (gad S (p + 14))]) K (by show _ = _; omega) hW hl (kX5_init (l := l) (G := G) (S := S) (p + 16 + 4 * k) (kPast hp hk3) (fun o ho => by rw [cPi3_o k (by omega), cPi2_o (by omega), cPi1_o (by omega), hI _ (by omega)]) (fun o ho => hJ _ (by omega)) (fun o ho => by rw [cPr3_o k (by omega), cPr1_o (by omega), hR _ (by omega)])) rfl q_164 q_165 q_135 q_166 nm_X5_init ⟨Nat.le_of_ble_eq_true rfl, Nat.le_of_ble_eq_true rfl⟩ (Nat.le_of_ble_eq_true rfl) ⟨by show _ ≤ 135; omega, by show _ ≤ 1548; omega⟩ dX0_init_189 (fun H locs hW => ?_)
      refine c_aast (o := p + 14) (z := p + 16 + 4 * k) (t := 5) (len := 30) (ci := 4) (C := "DawnPerquisite$Wall") (T := TX5) (N := 9) (j := k) K hW (by omega) (by omega) (kPo_14 hp).2 (kPast hp hk3).2 (Or.inl rfl) rfl rfl (vp_in_nI hk3 (by decide)) (nI_clamp (by omega)) dX0_init_192 (fun H locs hW => ?_)
      refine lv_iinc (v := nI (k + 1)) (lv' := [(1, .int (nI (k + 1))), (0, .ref (gad S p))]) hx hb dX0_init_193 hl (k := 1) rfl (nI_1 k) (by decide) rfl (fun ls hl => ?_)
      refine lv_goto (tgt := 174) hx hb dX0_init_196 (by decide) ?_
      exact ih (k + 1) (by omega) _ _ hW _ (lv_sub hl [1, 0] rfl)
  have L1 : ∀ (j k : Nat), k + j = 5 → ∀ (H : Heap) (locs : List Loc), gWd G (p + 16, kdC, cPr1 p rs) (gad S) (gB S) s.heap (cPi2 p (cPi1 p I) k) J H locs → ∀ (ls : Array Slot), lv_has ls 2 [(0, .ref (gad S p)), (1, .int (nI k))] → W p_ l e (cRm 2 135 1548) s m args below meth c H locs 15 168 Q (F0 m 144 ls []) := by
    intro j
    induction j with
    | zero =>
      intro k hk H locs hW ls hl
      have hk3 : k = 5 := by omega
      subst hk3
      refine lv_iload_n hx hb dX0_init_144 rfl (lv_at hl 1 rfl) ?_
      refine lv_iconst (v := (5 : Int32)) hx hb dX0_init_145 (by decide) ?_
      refine lv_icmp_ge (tgt := 172) hx hb dX0_init_146 (by decide) (fun c1 => ?_) (fun c1 => ?_)
      · refine lv_iconst (v := (0 : Int32)) hx hb dX0_init_172 (by decide) ?_
        refine lv_istore_n (lv' := [(1, .int (nI 0)), (0, .ref (gad S p))]) hx hb dX0_init_173 rfl hl (by decide) rfl (fun ls hl => ?_)
        exact L2 30 0 rfl _ _ hW _ (lv_sub hl [1, 0] rfl)
      · exact absurd (nI_le (a := 5) (b := 5) (Nat.le_refl _) (by decide)) c1
    | succ j ih =>
      intro k hk H locs hW ls hl
      have hk3 : k < 5 := by omega
      refine lv_iload_n hx hb dX0_init_144 rfl (lv_at hl 1 rfl) ?_
      refine lv_iconst (v := (5 : Int32)) hx hb dX0_init_145 (by decide) ?_
      refine lv_icmp_ge (tgt := 172) hx hb dX0_init_146 (by decide) (fun c1 => ?_) (fun c1 => ?_)
      · exact absurd c1 (nI_ge (a := k) (b := 5) hk3 (by decide))
      refine lv_aload_n hx hb dX0_init_149 rfl (lv_at hl 0 rfl) ?_
      refine g_get K.1 hW (t := 2) (ci := 0) (k := 0) (v := .ref (gad S (p + 1))) ⟨by show p < _; omega, hp.2⟩ rfl rfl i_X0 (by decide) q_211 rfl (gfv2 cPr1_p.1) dX0_init_150 ?_
      refine lv_iload_n hx hb dX0_init_153 rfl (lv_at hl 1 rfl) ?_
      refine lv_iconst (v := (1 : Int32)) hx hb dX0_init_154 (by decide) ?_
      refine g_iast K.1 hW ⟨by show p + 1 < _; omega, (kPo_1 hp).2⟩ (vp_in_nI hk3 (by decide)) (nI_clamp (by omega)) dX0_init_155 (fun H locs hW => ?_)
      refine lv_aload_n hx hb dX0_init_156 rfl (lv_at hl 0 rfl) ?_
      refine g_get K.1 hW (t := 2) (ci := 0) (k := 1) (v := .ref (gad S (p + 2))) ⟨by show p < _; omega, hp.2⟩ rfl rfl i_X0 (by decide) q_213 rfl (gfv2 cPr1_p.2.1) dX0_init_157 ?_
      refine lv_iload_n hx hb dX0_init_160 rfl (lv_at hl 1 rfl) ?_
      refine lv_bipush (v := (10 : Int32)) hx hb dX0_init_161 (by decide) ?_
      refine lv_iload_n hx hb dX0_init_163 rfl (lv_at hl 1 rfl) ?_
      refine lv_imul hx hb dX0_init_164 ?_
      refine g_iast K.1 hW ⟨by show p + 2 < _; omega, (kPo_2 hp).2⟩ (vp_in_nI hk3 (by decide)) (nI_clamp (by omega)) dX0_init_165 (fun H locs hW => ?_)
      refine lv_iinc (v := nI (k + 1)) (lv' := [(1, .int (nI (k + 1))), (0, .ref (gad S p))]) hx hb dX0_init_166 hl (k := 1) rfl (nI_1 k) (by decide) rfl (fun ls hl => ?_)
      refine lv_goto (tgt := 144) hx hb dX0_init_169 (by decide) ?_
      exact ih (k + 1) (by omega) _ _ hW _ (lv_sub hl [1, 0] rfl)
  exact L1 5 0 rfl _ _ hW _ (lv_sub hl [1, 0] rfl)
