-- 18: the constructors
theorem upR_o {rs : Nat → Nat → Option Nat} {o k z o' : Nat} (h : o' ≠ o) : upR rs o k z o' = rs o' := by funext j; simp [upR, h]
section CELL
variable {G : gG} {n len : Nat} {kd : Nat → Nat × Nat} {rs : Nat → Nat → Option Nat} {ad : Nat → Nat} {I : gI} {J : gJ}
theorem cell_i (h : kd n = (1, len)) (hI : I n = fun _ => 0) : gce G (n, kd, rs) ad I J n = .inl (G.2.2.1 (1 - 1), len, .inl (fun _ => 0)) := by simp [gce, h, hI]
theorem cell_z (h : kd n = (3, len)) (hI : I n = fun _ => 0) : gce G (n, kd, rs) ad I J n = .inl (G.2.2.1 (3 - 1), len, .inl (fun _ => 0)) := by simp [gce, h, hI]
theorem cell_c (h : kd n = (4, len)) (hI : I n = fun _ => 0) : gce G (n, kd, rs) ad I J n = .inl (G.2.2.1 (4 - 1), len, .inl (fun _ => 0)) := by simp [gce, h, hI]
theorem cell_j (h : kd n = (2, len)) (hJ : J n = fun _ => 0) : gce G (n, kd, rs) ad I J n = .inl (G.2.2.1 (2 - 1), len, .inr (.inl (fun _ => 0))) := by simp [gce, h, hJ]
theorem cell_q5 (h : kd n = (5, len)) (hR : rs n = fun _ => none) : gce G (n, kd, rs) ad I J n = .inl (G.2.2.1 (5 - 1), len, .inr (.inr (.inr (.inr (fun _ => none))))) := by simp [gce, h, hR]
theorem cell_q6 (h : kd n = (6, len)) (hR : rs n = fun _ => none) : gce G (n, kd, rs) ad I J n = .inl (G.2.2.1 (6 - 1), len, .inr (.inr (.inr (.inr (fun _ => none))))) := by simp [gce, h, hR]
end CELL

theorem kWo_1 {o : Nat} (h : gAt LC o 0 4) : gAt LC (o + 1) 1 6 := by
  have hd : ∀ o, o < 328 → LC.2.1 o = (0, 4) → (o + 1 < 328 ∧ LC.2.1 (o + 1) = (1, 6)) := by decide +kernel
  exact hd o h.1 h.2
theorem kWo_2 {o : Nat} (h : gAt LC o 0 4) : gAt LC (o + 2) 1 6 := by
  have hd : ∀ o, o < 328 → LC.2.1 o = (0, 4) → (o + 2 < 328 ∧ LC.2.1 (o + 2) = (1, 6)) := by decide +kernel
  exact hd o h.1 h.2
theorem kWo_3 {o : Nat} (h : gAt LC o 0 4) : gAt LC (o + 3) 1 25 := by
  have hd : ∀ o, o < 328 → LC.2.1 o = (0, 4) → (o + 3 < 328 ∧ LC.2.1 (o + 3) = (1, 25)) := by decide +kernel
  exact hd o h.1 h.2
theorem kTo_1 {o : Nat} (h : gAt LC o 0 3) : gAt LC (o + 1) 1 24 := by
  have hd : ∀ o, o < 328 → LC.2.1 o = (0, 3) → (o + 1 < 328 ∧ LC.2.1 (o + 1) = (1, 24)) := by decide +kernel
  exact hd o h.1 h.2
theorem kTo_2 {o : Nat} (h : gAt LC o 0 3) : gAt LC (o + 2) 1 24 := by
  have hd : ∀ o, o < 328 → LC.2.1 o = (0, 3) → (o + 2 < 328 ∧ LC.2.1 (o + 2) = (1, 24)) := by decide +kernel
  exact hd o h.1 h.2
theorem kTo_3 {o : Nat} (h : gAt LC o 0 3) : gAt LC (o + 3) 1 24 := by
  have hd : ∀ o, o < 328 → LC.2.1 o = (0, 3) → (o + 3 < 328 ∧ LC.2.1 (o + 3) = (1, 24)) := by decide +kernel
  exact hd o h.1 h.2
theorem kTo_4 {o : Nat} (h : gAt LC o 0 3) : gAt LC (o + 4) 1 300 := by
  have hd : ∀ o, o < 328 → LC.2.1 o = (0, 3) → (o + 4 < 328 ∧ LC.2.1 (o + 4) = (1, 300)) := by decide +kernel
  exact hd o h.1 h.2
theorem kTo_5 {o : Nat} (h : gAt LC o 0 3) : gAt LC (o + 5) 1 300 := by
  have hd : ∀ o, o < 328 → LC.2.1 o = (0, 3) → (o + 5 < 328 ∧ LC.2.1 (o + 5) = (1, 300)) := by decide +kernel
  exact hd o h.1 h.2
theorem kTo_6 {o : Nat} (h : gAt LC o 0 3) : gAt LC (o + 6) 1 2 := by
  have hd : ∀ o, o < 328 → LC.2.1 o = (0, 3) → (o + 6 < 328 ∧ LC.2.1 (o + 6) = (1, 2)) := by decide +kernel
  exact hd o h.1 h.2
theorem kTo_7 {o : Nat} (h : gAt LC o 0 3) : gAt LC (o + 7) 1 2 := by
  have hd : ∀ o, o < 328 → LC.2.1 o = (0, 3) → (o + 7 < 328 ∧ LC.2.1 (o + 7) = (1, 2)) := by decide +kernel
  exact hd o h.1 h.2
def cWi (w : Nat) (I : gI) : gI := (wI (wI (wI (wI (wI (wI I w 3 (0 : Int32)) w 4 (4095 : Int32)) w 5 (0 : Int32)) w 6 (0 : Int32)) w 7 (0 : Int32)) w 8 (457 : Int32))
def cWr (w : Nat) (rs : Nat → Nat → Option Nat) : Nat → Nat → Option Nat := (upR (upR (upR rs w 0 (w + 1)) w 1 (w + 2)) w 2 (w + 3))
def cTi (t : Nat) (I : gI) : gI := (wI (wI I t 7 (0 : Int32)) t 8 (0 : Int32))
def cTr (t : Nat) (rs : Nat → Nat → Option Nat) : Nat → Nat → Option Nat := (upR (upR (upR (upR (upR (upR (upR rs t 0 (t + 1)) t 1 (t + 2)) t 2 (t + 3)) t 3 (t + 4)) t 4 (t + 5)) t 5 (t + 6)) t 6 (t + 7))
def cSi (I : gI) : gI := I
def cSr (rs : Nat → Nat → Option Nat) : Nat → Nat → Option Nat := (upR rs 287 0 288)
def cRi (I : gI) : gI := (wI (wI (wI (cTi 279 (wI (wI (wI I 275 3 (0 : Int32)) 275 4 (0 : Int32)) 275 5 (0 : Int32))) 275 6 (nI 279)) 275 7 (0 : Int32)) 275 8 (-1 : Int32))
def cRr (rs : Nat → Nat → Option Nat) : Nat → Nat → Option Nat := (upR (cTr 279 (upR (upR (upR rs 275 0 276) 275 1 277) 275 2 278)) 275 6 279)
theorem cW_o {w o : Nat} {I : gI} (h : o ≠ w) : cWi w I o = I o := by unfold cWi; simp only [wI_o h]
theorem cTo {t o : Nat} {I : gI} (h : o ≠ t) : cTi t I o = I o := by unfold cTi; simp only [wI_o h]
theorem cWr_o {w o : Nat} {rs : Nat → Nat → Option Nat} (h : o ≠ w) : cWr w rs o = rs o := by unfold cWr; simp only [upR_o h]
theorem cTr_o {t o : Nat} {rs : Nat → Nat → Option Nat} (h : o ≠ t) : cTr t rs o = rs o := by unfold cTr; simp only [upR_o h]
theorem kLC_279 : gAt LC 279 0 3 := ⟨by decide, by decide +kernel⟩
theorem nm_X3_init : gNm yX3_init 0 := by decide +kernel
set_option maxHeartbeats 4000000 in
set_option maxRecDepth 100000 in
theorem kX5_init {l : Launch} {G : gG} {S : Nat} (w : Nat) (hw : gAt LC w 0 4) {I : gI} {J : gJ} {rs : Nat → Nat → Option Nat} (hI : ∀ o, w + 1 ≤ o → I o = fun _ => 0) (hJ : ∀ o, w + 1 ≤ o → J o = fun _ => 0) (hR : ∀ o, w + 1 ≤ o → rs o = fun _ => none) : gMk l yX5_init cX5_init 1 1 3 37 G S (w + 1, kdC, rs) (w + 4, kdC, (cWr w rs)) [.ref (gad S w)] I J (cWi w I) J := by
  refine gMk_of (lst := [(0, .ref (gad S w))]) (by decide) rfl (Nat.le_of_ble_eq_true rfl) rfl ?_
  intro p e s m args below meth c Q ls K hW hl hfin
  have hx := K.1.1; have hb := K.1.2.1
  refine lv_aload_n hx hb dX5_init_0 rfl (lv_at hl 0 rfl) ?_
  refine c_obj K hl q_167 (Nat.le_of_ble_eq_true rfl) (Nat.le_of_ble_eq_true rfl) dX5_init_1 ?_
  refine lv_aload_n hx hb dX5_init_4 rfl (lv_at hl 0 rfl) ?_
  refine lv_bipush (v := (6 : Int32)) hx hb dX5_init_5 (by decide) ?_
  refine c_newa (atype := .int) (ty := .int) (t := 1) (len := 6) K (by omega) (by omega) hW rfl qa_int (kWo_1 hw).2 rfl (fun _ h => by cases h) (cell_i (kWo_1 hw).2 (by simp (disch := first | decide | omega) only [wI_o, upR_o, hI, hJ, hR, cW_o, cTo, cWr_o, cTr_o])) (fun _ => rfl) (by decide) (by decide +kernel) (by decide) (Nat.le_of_ble_eq_true rfl) (Nat.le_of_ble_eq_true rfl) dX5_init_7 (fun H hW => ?_)
  refine c_putF (ci := 4) (k := 0) (N := 9) (T := TX5) (z := (w + 1)) K hW (by omega) hw.2 rfl rfl i_X5 tyX5_ok nmX5 (by decide) q_168 rfl rfl rfl rfl dX5_init_9 (fun H locs hW => ?_)
  refine lv_aload_n hx hb dX5_init_12 rfl (lv_at hl 0 rfl) ?_
  refine lv_bipush (v := (6 : Int32)) hx hb dX5_init_13 (by decide) ?_
  refine c_newa (atype := .int) (ty := .int) (t := 1) (len := 6) K (by omega) (by omega) hW rfl qa_int (kWo_2 hw).2 rfl (fun _ h => by cases h) (cell_i (kWo_2 hw).2 (by simp (disch := first | decide | omega) only [wI_o, upR_o, hI, hJ, hR, cW_o, cTo, cWr_o, cTr_o])) (fun _ => rfl) (by decide) (by decide +kernel) (by decide) (Nat.le_of_ble_eq_true rfl) (Nat.le_of_ble_eq_true rfl) dX5_init_15 (fun H hW => ?_)
  refine c_putF (ci := 4) (k := 1) (N := 9) (T := TX5) (z := (w + 2)) K hW (by omega) hw.2 rfl rfl i_X5 tyX5_ok nmX5 (by decide) q_171 rfl rfl rfl rfl dX5_init_17 (fun H locs hW => ?_)
  refine lv_aload_n hx hb dX5_init_20 rfl (lv_at hl 0 rfl) ?_
  refine lv_bipush (v := (25 : Int32)) hx hb dX5_init_21 (by decide) ?_
  refine c_newa (atype := .int) (ty := .int) (t := 1) (len := 25) K (by omega) (by omega) hW rfl qa_int (kWo_3 hw).2 rfl (fun _ h => by cases h) (cell_i (kWo_3 hw).2 (by simp (disch := first | decide | omega) only [wI_o, upR_o, hI, hJ, hR, cW_o, cTo, cWr_o, cTr_o])) (fun _ => rfl) (by decide) (by decide +kernel) (by decide) (Nat.le_of_ble_eq_true rfl) (Nat.le_of_ble_eq_true rfl) dX5_init_23 (fun H hW => ?_)
  refine c_putF (ci := 4) (k := 2) (N := 9) (T := TX5) (z := (w + 3)) K hW (by omega) hw.2 rfl rfl i_X5 tyX5_ok nmX5 (by decide) q_174 rfl rfl rfl rfl dX5_init_25 (fun H locs hW => ?_)
  refine lv_aload_n hx hb dX5_init_28 rfl (lv_at hl 0 rfl) ?_
  refine lv_iconst (v := (0 : Int32)) hx hb dX5_init_29 (by decide) ?_
  refine g_putI K.1 hW (ci := 4) (k := 3) ⟨(by omega), hw.2⟩ rfl rfl i_X5 tyX5_ok nmX5 (by decide) q_176 rfl rfl rfl rfl dX5_init_30 (fun H locs hW => ?_)
  refine lv_aload_n hx hb dX5_init_33 rfl (lv_at hl 0 rfl) ?_
  refine lv_sipush (v := (4095 : Int32)) hx hb dX5_init_34 (by decide) ?_
  refine g_putI K.1 hW (ci := 4) (k := 4) ⟨(by omega), hw.2⟩ rfl rfl i_X5 tyX5_ok nmX5 (by decide) q_178 rfl rfl rfl rfl dX5_init_37 (fun H locs hW => ?_)
  refine lv_aload_n hx hb dX5_init_40 rfl (lv_at hl 0 rfl) ?_
  refine lv_iconst (v := (0 : Int32)) hx hb dX5_init_41 (by decide) ?_
  refine g_putI K.1 hW (ci := 4) (k := 5) ⟨(by omega), hw.2⟩ rfl rfl i_X5 tyX5_ok nmX5 (by decide) q_181 rfl rfl rfl rfl dX5_init_42 (fun H locs hW => ?_)
  refine lv_aload_n hx hb dX5_init_45 rfl (lv_at hl 0 rfl) ?_
  refine lv_iconst (v := (0 : Int32)) hx hb dX5_init_46 (by decide) ?_
  refine g_putI K.1 hW (ci := 4) (k := 6) ⟨(by omega), hw.2⟩ rfl rfl i_X5 tyX5_ok nmX5 (by decide) q_183 rfl rfl rfl rfl dX5_init_47 (fun H locs hW => ?_)
  refine lv_aload_n hx hb dX5_init_50 rfl (lv_at hl 0 rfl) ?_
  refine lv_iconst (v := (0 : Int32)) hx hb dX5_init_51 (by decide) ?_
  refine g_putI K.1 hW (ci := 4) (k := 7) ⟨(by omega), hw.2⟩ rfl rfl i_X5 tyX5_ok nmX5 (by decide) q_185 rfl rfl rfl rfl dX5_init_52 (fun H locs hW => ?_)
  refine lv_aload_n hx hb dX5_init_55 rfl (lv_at hl 0 rfl) ?_
  refine lv_sipush (v := (457 : Int32)) hx hb dX5_init_56 (by decide) ?_
  refine g_putI K.1 hW (ci := 4) (k := 8) ⟨(by omega), hw.2⟩ rfl rfl i_X5 tyX5_ok nmX5 (by decide) q_188 rfl rfl rfl rfl dX5_init_59 (fun H locs hW => ?_)
  exact hfin _ _ _ _ hW dX5_init_62
set_option maxHeartbeats 4000000 in
set_option maxRecDepth 100000 in
theorem kX3_init {l : Launch} {G : gG} {S : Nat} (t : Nat) (ht : gAt LC t 0 3) {I : gI} {J : gJ} {rs : Nat → Nat → Option Nat} (hI : ∀ o, t + 1 ≤ o → I o = fun _ => 0) (hJ : ∀ o, t + 1 ≤ o → J o = fun _ => 0) (hR : ∀ o, t + 1 ≤ o → rs o = fun _ => none) : gMk l yX3_init cX3_init 1 1 7 676 G S (t + 1, kdC, rs) (t + 8, kdC, (cTr t rs)) [.ref (gad S t)] I J (cTi t I) J := by
  refine gMk_of (lst := [(0, .ref (gad S t))]) (by decide) rfl (Nat.le_of_ble_eq_true rfl) rfl ?_
  intro p e s m args below meth c Q ls K hW hl hfin
  have hx := K.1.1; have hb := K.1.2.1
  refine lv_aload_n hx hb dX3_init_0 rfl (lv_at hl 0 rfl) ?_
  refine c_obj K hl q_308 (Nat.le_of_ble_eq_true rfl) (Nat.le_of_ble_eq_true rfl) dX3_init_1 ?_
  refine lv_aload_n hx hb dX3_init_4 rfl (lv_at hl 0 rfl) ?_
  refine lv_bipush (v := (24 : Int32)) hx hb dX3_init_5 (by decide) ?_
  refine c_newa (atype := .int) (ty := .int) (t := 1) (len := 24) K (by omega) (by omega) hW rfl qa_int (kTo_1 ht).2 rfl (fun _ h => by cases h) (cell_i (kTo_1 ht).2 (by simp (disch := first | decide | omega) only [wI_o, upR_o, hI, hJ, hR, cW_o, cTo, cWr_o, cTr_o])) (fun _ => rfl) (by decide) (by decide +kernel) (by decide) (Nat.le_of_ble_eq_true rfl) (Nat.le_of_ble_eq_true rfl) dX3_init_7 (fun H hW => ?_)
  refine c_putF (ci := 3) (k := 0) (N := 9) (T := TX3) (z := (t + 1)) K hW (by omega) ht.2 rfl rfl i_X3 tyX3_ok nmX3 (by decide) q_309 rfl rfl rfl rfl dX3_init_9 (fun H locs hW => ?_)
  refine lv_aload_n hx hb dX3_init_12 rfl (lv_at hl 0 rfl) ?_
  refine lv_bipush (v := (24 : Int32)) hx hb dX3_init_13 (by decide) ?_
  refine c_newa (atype := .int) (ty := .int) (t := 1) (len := 24) K (by omega) (by omega) hW rfl qa_int (kTo_2 ht).2 rfl (fun _ h => by cases h) (cell_i (kTo_2 ht).2 (by simp (disch := first | decide | omega) only [wI_o, upR_o, hI, hJ, hR, cW_o, cTo, cWr_o, cTr_o])) (fun _ => rfl) (by decide) (by decide +kernel) (by decide) (Nat.le_of_ble_eq_true rfl) (Nat.le_of_ble_eq_true rfl) dX3_init_15 (fun H hW => ?_)
  refine c_putF (ci := 3) (k := 1) (N := 9) (T := TX3) (z := (t + 2)) K hW (by omega) ht.2 rfl rfl i_X3 tyX3_ok nmX3 (by decide) q_311 rfl rfl rfl rfl dX3_init_17 (fun H locs hW => ?_)
  refine lv_aload_n hx hb dX3_init_20 rfl (lv_at hl 0 rfl) ?_
  refine lv_bipush (v := (24 : Int32)) hx hb dX3_init_21 (by decide) ?_
  refine c_newa (atype := .int) (ty := .int) (t := 1) (len := 24) K (by omega) (by omega) hW rfl qa_int (kTo_3 ht).2 rfl (fun _ h => by cases h) (cell_i (kTo_3 ht).2 (by simp (disch := first | decide | omega) only [wI_o, upR_o, hI, hJ, hR, cW_o, cTo, cWr_o, cTr_o])) (fun _ => rfl) (by decide) (by decide +kernel) (by decide) (Nat.le_of_ble_eq_true rfl) (Nat.le_of_ble_eq_true rfl) dX3_init_23 (fun H hW => ?_)
  refine c_putF (ci := 3) (k := 2) (N := 9) (T := TX3) (z := (t + 3)) K hW (by omega) ht.2 rfl rfl i_X3 tyX3_ok nmX3 (by decide) q_313 rfl rfl rfl rfl dX3_init_25 (fun H locs hW => ?_)
  refine lv_aload_n hx hb dX3_init_28 rfl (lv_at hl 0 rfl) ?_
  refine lv_sipush (v := (300 : Int32)) hx hb dX3_init_29 (by decide) ?_
  refine c_newa (atype := .int) (ty := .int) (t := 1) (len := 300) K (by omega) (by omega) hW rfl qa_int (kTo_4 ht).2 rfl (fun _ h => by cases h) (cell_i (kTo_4 ht).2 (by simp (disch := first | decide | omega) only [wI_o, upR_o, hI, hJ, hR, cW_o, cTo, cWr_o, cTr_o])) (fun _ => rfl) (by decide) (by decide +kernel) (by decide) (Nat.le_of_ble_eq_true rfl) (Nat.le_of_ble_eq_true rfl) dX3_init_32 (fun H hW => ?_)
  refine c_putF (ci := 3) (k := 3) (N := 9) (T := TX3) (z := (t + 4)) K hW (by omega) ht.2 rfl rfl i_X3 tyX3_ok nmX3 (by decide) q_315 rfl rfl rfl rfl dX3_init_34 (fun H locs hW => ?_)
  refine lv_aload_n hx hb dX3_init_37 rfl (lv_at hl 0 rfl) ?_
  refine lv_sipush (v := (300 : Int32)) hx hb dX3_init_38 (by decide) ?_
  refine c_newa (atype := .int) (ty := .int) (t := 1) (len := 300) K (by omega) (by omega) hW rfl qa_int (kTo_5 ht).2 rfl (fun _ h => by cases h) (cell_i (kTo_5 ht).2 (by simp (disch := first | decide | omega) only [wI_o, upR_o, hI, hJ, hR, cW_o, cTo, cWr_o, cTr_o])) (fun _ => rfl) (by decide) (by decide +kernel) (by decide) (Nat.le_of_ble_eq_true rfl) (Nat.le_of_ble_eq_true rfl) dX3_init_41 (fun H hW => ?_)
  refine c_putF (ci := 3) (k := 4) (N := 9) (T := TX3) (z := (t + 5)) K hW (by omega) ht.2 rfl rfl i_X3 tyX3_ok nmX3 (by decide) q_317 rfl rfl rfl rfl dX3_init_43 (fun H locs hW => ?_)
  refine lv_aload_n hx hb dX3_init_46 rfl (lv_at hl 0 rfl) ?_
  refine lv_iconst (v := (2 : Int32)) hx hb dX3_init_47 (by decide) ?_
  refine c_newa (atype := .int) (ty := .int) (t := 1) (len := 2) K (by omega) (by omega) hW rfl qa_int (kTo_6 ht).2 rfl (fun _ h => by cases h) (cell_i (kTo_6 ht).2 (by simp (disch := first | decide | omega) only [wI_o, upR_o, hI, hJ, hR, cW_o, cTo, cWr_o, cTr_o])) (fun _ => rfl) (by decide) (by decide +kernel) (by decide) (Nat.le_of_ble_eq_true rfl) (Nat.le_of_ble_eq_true rfl) dX3_init_48 (fun H hW => ?_)
  refine c_putF (ci := 3) (k := 5) (N := 9) (T := TX3) (z := (t + 6)) K hW (by omega) ht.2 rfl rfl i_X3 tyX3_ok nmX3 (by decide) q_319 rfl rfl rfl rfl dX3_init_50 (fun H locs hW => ?_)
  refine lv_aload_n hx hb dX3_init_53 rfl (lv_at hl 0 rfl) ?_
  refine lv_iconst (v := (2 : Int32)) hx hb dX3_init_54 (by decide) ?_
  refine c_newa (atype := .int) (ty := .int) (t := 1) (len := 2) K (by omega) (by omega) hW rfl qa_int (kTo_7 ht).2 rfl (fun _ h => by cases h) (cell_i (kTo_7 ht).2 (by simp (disch := first | decide | omega) only [wI_o, upR_o, hI, hJ, hR, cW_o, cTo, cWr_o, cTr_o])) (fun _ => rfl) (by decide) (by decide +kernel) (by decide) (Nat.le_of_ble_eq_true rfl) (Nat.le_of_ble_eq_true rfl) dX3_init_55 (fun H hW => ?_)
  refine c_putF (ci := 3) (k := 6) (N := 9) (T := TX3) (z := (t + 7)) K hW (by omega) ht.2 rfl rfl i_X3 tyX3_ok nmX3 (by decide) q_322 rfl rfl rfl rfl dX3_init_57 (fun H locs hW => ?_)
  refine lv_aload_n hx hb dX3_init_60 rfl (lv_at hl 0 rfl) ?_
  refine lv_iconst (v := (0 : Int32)) hx hb dX3_init_61 (by decide) ?_
  refine g_putI K.1 hW (ci := 3) (k := 7) ⟨(by omega), ht.2⟩ rfl rfl i_X3 tyX3_ok nmX3 (by decide) q_325 rfl rfl rfl rfl dX3_init_62 (fun H locs hW => ?_)
  refine lv_aload_n hx hb dX3_init_65 rfl (lv_at hl 0 rfl) ?_
  refine lv_iconst (v := (0 : Int32)) hx hb dX3_init_66 (by decide) ?_
  refine g_putI K.1 hW (ci := 3) (k := 8) ⟨(by omega), ht.2⟩ rfl rfl i_X3 tyX3_ok nmX3 (by decide) q_328 rfl rfl rfl rfl dX3_init_67 (fun H locs hW => ?_)
  exact hfin _ _ _ _ hW dX3_init_70
set_option maxHeartbeats 4000000 in
set_option maxRecDepth 100000 in
theorem kX2_init {l : Launch} {G : gG} {S : Nat} {I : gI} {J : gJ} {rs : Nat → Nat → Option Nat} (hI : ∀ o, 288 ≤ o → I o = fun _ => 0) (hJ : ∀ o, 288 ≤ o → J o = fun _ => 0) (hR : ∀ o, 288 ≤ o → rs o = fun _ => none) : gMk l yX2_init cX2_init 1 1 1 64 G S (288, kdC, rs) (289, kdC, (cSr rs)) [.ref (gad S 287)] I J (cSi I) J := by
  refine gMk_of (lst := [(0, .ref (gad S 287))]) (by decide) rfl (Nat.le_of_ble_eq_true rfl) rfl ?_
  intro p e s m args below meth c Q ls K hW hl hfin
  have hx := K.1.1; have hb := K.1.2.1
  refine lv_aload_n hx hb dX2_init_0 rfl (lv_at hl 0 rfl) ?_
  refine c_obj K hl q_385 (Nat.le_of_ble_eq_true rfl) (Nat.le_of_ble_eq_true rfl) dX2_init_1 ?_
  refine lv_aload_n hx hb dX2_init_4 rfl (lv_at hl 0 rfl) ?_
  refine lv_bipush (v := (64 : Int32)) hx hb dX2_init_5 (by decide) ?_
  refine c_newa (atype := .int) (ty := .int) (t := 1) (len := 64) K (by omega) (by omega) hW rfl qa_int kLC_288.2 rfl (fun _ h => by cases h) (cell_i kLC_288.2 (by simp (disch := first | decide | omega) only [wI_o, upR_o, hI, hJ, hR, cW_o, cTo, cWr_o, cTr_o])) (fun _ => rfl) (by decide) (by decide +kernel) (by decide) (Nat.le_of_ble_eq_true rfl) (Nat.le_of_ble_eq_true rfl) dX2_init_7 (fun H hW => ?_)
  refine c_putF (ci := 2) (k := 0) (N := 1) (T := TX2) (z := 288) K hW (Nat.le_of_ble_eq_true rfl) kLC_287.2 rfl rfl i_X2 tyX2_ok nmX2 (by decide) q_386 rfl rfl rfl rfl dX2_init_9 (fun H locs hW => ?_)
  exact hfin _ _ _ _ hW dX2_init_12
set_option maxHeartbeats 4000000 in
set_option maxRecDepth 100000 in
theorem kX1_init {l : Launch} {G : gG} {S : Nat} {I : gI} {J : gJ} {rs : Nat → Nat → Option Nat} (hI : ∀ o, 276 ≤ o → I o = fun _ => 0) (hJ : ∀ o, 276 ≤ o → J o = fun _ => 0) (hR : ∀ o, 276 ≤ o → rs o = fun _ => none) : gMk l yX1_init cX1_init 1 2 11 1588 G S (276, kdC, rs) (287, kdC, (cRr rs)) [.ref (gad S 275)] I J (cRi I) J := by
  refine gMk_of (lst := [(0, .ref (gad S 275))]) (by decide) rfl (Nat.le_of_ble_eq_true rfl) rfl ?_
  intro p e s m args below meth c Q ls K hW hl hfin
  have hx := K.1.1; have hb := K.1.2.1
  refine lv_aload_n hx hb dX1_init_0 rfl (lv_at hl 0 rfl) ?_
  refine c_obj K hl q_302 (Nat.le_of_ble_eq_true rfl) (Nat.le_of_ble_eq_true rfl) dX1_init_1 ?_
  refine lv_aload_n hx hb dX1_init_4 rfl (lv_at hl 0 rfl) ?_
  refine lv_sipush (v := (301 : Int32)) hx hb dX1_init_5 (by decide) ?_
  refine c_newa (atype := .int) (ty := .int) (t := 1) (len := 301) K (by omega) (by omega) hW rfl qa_int kLC_276.2 rfl (fun _ h => by cases h) (cell_i kLC_276.2 (by simp (disch := first | decide | omega) only [wI_o, upR_o, hI, hJ, hR, cW_o, cTo, cWr_o, cTr_o])) (fun _ => rfl) (by decide) (by decide +kernel) (by decide) (Nat.le_of_ble_eq_true rfl) (Nat.le_of_ble_eq_true rfl) dX1_init_8 (fun H hW => ?_)
  refine c_putF (ci := 1) (k := 0) (N := 9) (T := TX1) (z := 276) K hW (Nat.le_of_ble_eq_true rfl) kLC_275.2 rfl rfl i_X1 tyX1_ok nmX1 (by decide) q_350 rfl rfl rfl rfl dX1_init_10 (fun H locs hW => ?_)
  refine lv_aload_n hx hb dX1_init_13 rfl (lv_at hl 0 rfl) ?_
  refine lv_sipush (v := (301 : Int32)) hx hb dX1_init_14 (by decide) ?_
  refine c_newa (atype := .int) (ty := .int) (t := 1) (len := 301) K (by omega) (by omega) hW rfl qa_int kLC_277.2 rfl (fun _ h => by cases h) (cell_i kLC_277.2 (by simp (disch := first | decide | omega) only [wI_o, upR_o, hI, hJ, hR, cW_o, cTo, cWr_o, cTr_o])) (fun _ => rfl) (by decide) (by decide +kernel) (by decide) (Nat.le_of_ble_eq_true rfl) (Nat.le_of_ble_eq_true rfl) dX1_init_17 (fun H hW => ?_)
  refine c_putF (ci := 1) (k := 1) (N := 9) (T := TX1) (z := 277) K hW (Nat.le_of_ble_eq_true rfl) kLC_275.2 rfl rfl i_X1 tyX1_ok nmX1 (by decide) q_351 rfl rfl rfl rfl dX1_init_19 (fun H locs hW => ?_)
  refine lv_aload_n hx hb dX1_init_22 rfl (lv_at hl 0 rfl) ?_
  refine lv_sipush (v := (301 : Int32)) hx hb dX1_init_23 (by decide) ?_
  refine c_newa (atype := .int) (ty := .int) (t := 1) (len := 301) K (by omega) (by omega) hW rfl qa_int kLC_278.2 rfl (fun _ h => by cases h) (cell_i kLC_278.2 (by simp (disch := first | decide | omega) only [wI_o, upR_o, hI, hJ, hR, cW_o, cTo, cWr_o, cTr_o])) (fun _ => rfl) (by decide) (by decide +kernel) (by decide) (Nat.le_of_ble_eq_true rfl) (Nat.le_of_ble_eq_true rfl) dX1_init_26 (fun H hW => ?_)
  refine c_putF (ci := 1) (k := 2) (N := 9) (T := TX1) (z := 278) K hW (Nat.le_of_ble_eq_true rfl) kLC_275.2 rfl rfl i_X1 tyX1_ok nmX1 (by decide) q_352 rfl rfl rfl rfl dX1_init_28 (fun H locs hW => ?_)
  refine lv_aload_n hx hb dX1_init_31 rfl (lv_at hl 0 rfl) ?_
  refine lv_iconst (v := (0 : Int32)) hx hb dX1_init_32 (by decide) ?_
  refine g_putI K.1 hW (ci := 1) (k := 3) ⟨(Nat.le_of_ble_eq_true rfl), kLC_275.2⟩ rfl rfl i_X1 tyX1_ok nmX1 (by decide) q_353 rfl rfl rfl rfl dX1_init_33 (fun H locs hW => ?_)
  refine lv_aload_n hx hb dX1_init_36 rfl (lv_at hl 0 rfl) ?_
  refine lv_iconst (v := (0 : Int32)) hx hb dX1_init_37 (by decide) ?_
  refine g_putI K.1 hW (ci := 1) (k := 4) ⟨(Nat.le_of_ble_eq_true rfl), kLC_275.2⟩ rfl rfl i_X1 tyX1_ok nmX1 (by decide) q_354 rfl rfl rfl rfl dX1_init_38 (fun H locs hW => ?_)
  refine lv_aload_n hx hb dX1_init_41 rfl (lv_at hl 0 rfl) ?_
  refine lv_iconst (v := (0 : Int32)) hx hb dX1_init_42 (by decide) ?_
  refine g_putI K.1 hW (ci := 1) (k := 5) ⟨(Nat.le_of_ble_eq_true rfl), kLC_275.2⟩ rfl rfl i_X1 tyX1_ok nmX1 (by decide) q_355 rfl rfl rfl rfl dX1_init_43 (fun H locs hW => ?_)
  refine lv_aload_n hx hb dX1_init_46 rfl (lv_at hl 0 rfl) ?_
  refine c_new (tyT := tyX3) (ci := 3) (T := TX3) (N := 9) (C := RX3) K (by omega) (by omega) hW kLC_279.2 rfl i_X3 tyX3_ok (by decide) (fun k => ⟨congrFun (show (wI (wI (wI I 275 3 (0 : Int32)) 275 4 (0 : Int32)) 275 5 (0 : Int32)) 279 = fun _ => 0 from (by simp (disch := first | decide | omega) only [wI_o, upR_o, hI, hJ, hR, cW_o, cTo, cWr_o, cTr_o])) k, congrFun (hJ _ (by omega)) k, congrFun (show (upR (upR (upR rs 275 0 276) 275 1 277) 275 2 278) 279 = fun _ => none from (by simp (disch := first | decide | omega) only [wI_o, upR_o, hI, hJ, hR, cW_o, cTo, cWr_o, cTr_o])) k⟩) q_303 q_304 q_137 (Nat.le_of_ble_eq_true rfl) (Nat.le_of_ble_eq_true rfl) dX1_init_47 (fun H hW => ?_)
  refine lv_dup hx hb dX1_init_50 rfl ?_
  refine c_callN (rest := [.ref (gad S 279), .ref (gad S 275)]) K (by show _ = _; omega) hW hl (kX3_init (l := l) (G := G) (S := S) (279) ⟨by decide, kLC_279.2⟩ (fun o ho => (by simp (disch := first | decide | omega) only [wI_o, upR_o, hI, hJ, hR, cW_o, cTo, cWr_o, cTr_o])) (fun o ho => hJ _ (by omega)) (fun o ho => (by simp (disch := first | decide | omega) only [wI_o, upR_o, hI, hJ, hR, cW_o, cTo, cWr_o, cTr_o]))) rfl q_305 q_306 q_137 q_307 nm_X3_init ⟨Nat.le_of_ble_eq_true rfl, Nat.le_of_ble_eq_true rfl⟩ (Nat.le_of_ble_eq_true rfl) ⟨(Nat.le_of_ble_eq_true rfl), (Nat.le_of_ble_eq_true rfl)⟩ dX1_init_51 (fun H locs hW => ?_)
  refine c_putT (ci := 1) (k := 6) (N := 9) (T := TX1) (z := 279) K hW (by decide) (Nat.le_of_ble_eq_true rfl) kLC_275.2 rfl rfl i_X1 tyX1_ok nmX1 (by decide) q_356 rfl rfl rfl rfl dX1_init_54 (fun H locs hW => ?_)
  refine lv_aload_n hx hb dX1_init_57 rfl (lv_at hl 0 rfl) ?_
  refine lv_iconst (v := (0 : Int32)) hx hb dX1_init_58 (by decide) ?_
  refine g_putI K.1 hW (ci := 1) (k := 7) ⟨(Nat.le_of_ble_eq_true rfl), kLC_275.2⟩ rfl rfl i_X1 tyX1_ok nmX1 (by decide) q_357 rfl rfl rfl rfl dX1_init_59 (fun H locs hW => ?_)
  refine lv_aload_n hx hb dX1_init_62 rfl (lv_at hl 0 rfl) ?_
  refine lv_iconst (v := (-1 : Int32)) hx hb dX1_init_63 (by decide) ?_
  refine g_putI K.1 hW (ci := 1) (k := 8) ⟨(Nat.le_of_ble_eq_true rfl), kLC_275.2⟩ rfl rfl i_X1 tyX1_ok nmX1 (by decide) q_359 rfl rfl rfl rfl dX1_init_64 (fun H locs hW => ?_)
  exact hfin _ _ _ _ hW dX1_init_67
