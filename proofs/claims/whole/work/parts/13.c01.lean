-- 13.c01: the class: X5.become X0.become X0.longOf X0.slicesOf X1.fails X1.opens X3.emit X4.isComparison X1.takes X3.jumpHere X1.name X6.within X1.number X3.add X1.oneNumber X1.twoNumbers X3.rules X1.put X4.isDigit X1.splitNumber
theorem kW_0d : ∀ o, o < 328 → LC.2.1 o = (0, 4) → (o + 1 < 328 ∧ LC.2.1 (o + 1) = (1, 6)) ∧ LC.2.2 o 0 = some (o + 1) := by decide +kernel
theorem kW_0 {o : Nat} (h : gAt LC o 0 4) : gAt LC (o + 1) 1 6 := (kW_0d o h.1 h.2).1
theorem rW_0 {o : Nat} (h : gAt LC o 0 4) : LC.2.2 o 0 = some (o + 1) := (kW_0d o h.1 h.2).2
theorem kW_1d : ∀ o, o < 328 → LC.2.1 o = (0, 4) → (o + 2 < 328 ∧ LC.2.1 (o + 2) = (1, 6)) ∧ LC.2.2 o 1 = some (o + 2) := by decide +kernel
theorem kW_1 {o : Nat} (h : gAt LC o 0 4) : gAt LC (o + 2) 1 6 := (kW_1d o h.1 h.2).1
theorem rW_1 {o : Nat} (h : gAt LC o 0 4) : LC.2.2 o 1 = some (o + 2) := (kW_1d o h.1 h.2).2
theorem kW_2d : ∀ o, o < 328 → LC.2.1 o = (0, 4) → (o + 3 < 328 ∧ LC.2.1 (o + 3) = (1, 25)) ∧ LC.2.2 o 2 = some (o + 3) := by decide +kernel
theorem kW_2 {o : Nat} (h : gAt LC o 0 4) : gAt LC (o + 3) 1 25 := (kW_2d o h.1 h.2).1
theorem rW_2 {o : Nat} (h : gAt LC o 0 4) : LC.2.2 o 2 = some (o + 3) := (kW_2d o h.1 h.2).2
noncomputable def fX5_become (w0 : Nat) (w1 : Nat)  (I : gI) : gI :=
  lz (cpI I (w1 + 1) 0 (w0 + 1) 0 6) (fun (I1 : gI) => lz (cpI I1 (w1 + 2) 0 (w0 + 2) 0 6) (fun (I3 : gI) => lz (cpI I3 (w1 + 3) 0 (w0 + 3) 0 25) (fun (I5 : gI) => lz (wI I5 w0 3 (I5 w1 3)) (fun (I7 : gI) => lz (wI I7 w0 4 (I7 w1 4)) (fun (I9 : gI) => lz (wI I9 w0 5 (I9 w1 5)) (fun (I11 : gI) => lz (wI I11 w0 6 (I11 w1 6)) (fun (I13 : gI) => lz (wI I13 w0 7 (I13 w1 7)) (fun (I15 : gI) => lz (wI I15 w0 8 (I15 w1 8)) (fun (I17 : gI) => I17)))))))))
set_option maxHeartbeats 4000000 in
set_option maxRecDepth 100000 in
theorem kX5_become {l : Launch} {G : gG} {ad : Nat → Nat} (hok : gInj LC ad)  (w0 : Nat) (w1 : Nat) (hw0 : gAt LC w0 0 4) (hw1 : gAt LC w1 0 4)  (I : gI) (J : gJ) (I' : gI) (h : fX5_become w0 w1 I = I') : gMv l yX5_become cX5_become 2 none 1 G LC ad [.ref (ad w0), .ref (ad w1)] I J I' J := by
  refine gMv_of (lst := [(0, .ref (ad w0)), (1, .ref (ad w1))]) (by decide) hok (Nat.le_of_ble_eq_true rfl) rfl ?_
  intro p e s m args below meth c Q ls K hW hl hfin
  have hx := K.1; have hb := K.2.1; have hown := K.2.2.2.1; have hts := K.2.2.2.2.1
  unfold fX5_become at h
  refine lv_aload_n hx hb dX5_become_0 rfl (lv_at hl 1 rfl) ?_
  refine g_get K hW (t := 2) (ci := 4) (k := 0) (v := .ref (ad (w1 + 1))) hw1 rfl rfl i_X5 (by decide) q_168 rfl (gfv2 (rW_0 hw1)) dX5_become_1 ?_
  refine lv_iconst (v := (0 : Int32)) hx hb dX5_become_4 (by decide) ?_
  refine lv_aload_n hx hb dX5_become_5 rfl (lv_at hl 0 rfl) ?_
  refine g_get K hW (t := 2) (ci := 4) (k := 0) (v := .ref (ad (w0 + 1))) hw0 rfl rfl i_X5 (by decide) q_168 rfl (gfv2 (rW_0 hw0)) dX5_become_6 ?_
  refine lv_iconst (v := (0 : Int32)) hx hb dX5_become_9 (by decide) ?_
  refine lv_bipush (v := (6 : Int32)) hx hb dX5_become_10 (by decide) ?_
  refine g_copy K hW (sp' := 0) (dp' := 0) (k' := 6) q_739 q_741 q_740 q_147 (kW_0 hw1) (kW_0 hw0) (by decide) (by decide) (by decide) (by decide) (by decide) (by decide) (by decide) hl (by decide) (by decide +kernel) dX5_become_12 (fun H locs hW => ?_)
  obtain ⟨I1, e2, h⟩ := lz_o h
  replace hW := gWd_nI e2 hW
  refine lv_aload_n hx hb dX5_become_15 rfl (lv_at hl 1 rfl) ?_
  refine g_get K hW (t := 2) (ci := 4) (k := 1) (v := .ref (ad (w1 + 2))) hw1 rfl rfl i_X5 (by decide) q_171 rfl (gfv2 (rW_1 hw1)) dX5_become_16 ?_
  refine lv_iconst (v := (0 : Int32)) hx hb dX5_become_19 (by decide) ?_
  refine lv_aload_n hx hb dX5_become_20 rfl (lv_at hl 0 rfl) ?_
  refine g_get K hW (t := 2) (ci := 4) (k := 1) (v := .ref (ad (w0 + 2))) hw0 rfl rfl i_X5 (by decide) q_171 rfl (gfv2 (rW_1 hw0)) dX5_become_21 ?_
  refine lv_iconst (v := (0 : Int32)) hx hb dX5_become_24 (by decide) ?_
  refine lv_bipush (v := (6 : Int32)) hx hb dX5_become_25 (by decide) ?_
  refine g_copy K hW (sp' := 0) (dp' := 0) (k' := 6) q_739 q_741 q_740 q_147 (kW_1 hw1) (kW_1 hw0) (by decide) (by decide) (by decide) (by decide) (by decide) (by decide) (by decide) hl (by decide) (by decide +kernel) dX5_become_27 (fun H locs hW => ?_)
  obtain ⟨I3, e4, h⟩ := lz_o h
  replace hW := gWd_nI e4 hW
  refine lv_aload_n hx hb dX5_become_30 rfl (lv_at hl 1 rfl) ?_
  refine g_get K hW (t := 2) (ci := 4) (k := 2) (v := .ref (ad (w1 + 3))) hw1 rfl rfl i_X5 (by decide) q_174 rfl (gfv2 (rW_2 hw1)) dX5_become_31 ?_
  refine lv_iconst (v := (0 : Int32)) hx hb dX5_become_34 (by decide) ?_
  refine lv_aload_n hx hb dX5_become_35 rfl (lv_at hl 0 rfl) ?_
  refine g_get K hW (t := 2) (ci := 4) (k := 2) (v := .ref (ad (w0 + 3))) hw0 rfl rfl i_X5 (by decide) q_174 rfl (gfv2 (rW_2 hw0)) dX5_become_36 ?_
  refine lv_iconst (v := (0 : Int32)) hx hb dX5_become_39 (by decide) ?_
  refine lv_bipush (v := (25 : Int32)) hx hb dX5_become_40 (by decide) ?_
  refine g_copy K hW (sp' := 0) (dp' := 0) (k' := 25) q_739 q_741 q_740 q_147 (kW_2 hw1) (kW_2 hw0) (by decide) (by decide) (by decide) (by decide) (by decide) (by decide) (by decide) hl (by decide) (by decide +kernel) dX5_become_42 (fun H locs hW => ?_)
  obtain ⟨I5, e6, h⟩ := lz_o h
  replace hW := gWd_nI e6 hW
  refine lv_aload_n hx hb dX5_become_45 rfl (lv_at hl 0 rfl) ?_
  refine lv_aload_n hx hb dX5_become_46 rfl (lv_at hl 1 rfl) ?_
  refine g_get K hW (t := 0) (ci := 4) (k := 3) (v := .int (I5 w1 3)) hw1 rfl rfl i_X5 (by decide) q_176 rfl rfl dX5_become_47 ?_
  refine g_putI K hW (ci := 4) (k := 3) hw0 rfl rfl i_X5 tyX5_ok nmX5 (by decide) q_176 rfl rfl rfl rfl dX5_become_50 (fun H locs hW => ?_)
  obtain ⟨I7, e8, h⟩ := lz_o h
  replace hW := gWd_nI e8 hW
  refine lv_aload_n hx hb dX5_become_53 rfl (lv_at hl 0 rfl) ?_
  refine lv_aload_n hx hb dX5_become_54 rfl (lv_at hl 1 rfl) ?_
  refine g_get K hW (t := 0) (ci := 4) (k := 4) (v := .int (I7 w1 4)) hw1 rfl rfl i_X5 (by decide) q_178 rfl rfl dX5_become_55 ?_
  refine g_putI K hW (ci := 4) (k := 4) hw0 rfl rfl i_X5 tyX5_ok nmX5 (by decide) q_178 rfl rfl rfl rfl dX5_become_58 (fun H locs hW => ?_)
  obtain ⟨I9, e10, h⟩ := lz_o h
  replace hW := gWd_nI e10 hW
  refine lv_aload_n hx hb dX5_become_61 rfl (lv_at hl 0 rfl) ?_
  refine lv_aload_n hx hb dX5_become_62 rfl (lv_at hl 1 rfl) ?_
  refine g_get K hW (t := 0) (ci := 4) (k := 5) (v := .int (I9 w1 5)) hw1 rfl rfl i_X5 (by decide) q_181 rfl rfl dX5_become_63 ?_
  refine g_putI K hW (ci := 4) (k := 5) hw0 rfl rfl i_X5 tyX5_ok nmX5 (by decide) q_181 rfl rfl rfl rfl dX5_become_66 (fun H locs hW => ?_)
  obtain ⟨I11, e12, h⟩ := lz_o h
  replace hW := gWd_nI e12 hW
  refine lv_aload_n hx hb dX5_become_69 rfl (lv_at hl 0 rfl) ?_
  refine lv_aload_n hx hb dX5_become_70 rfl (lv_at hl 1 rfl) ?_
  refine g_get K hW (t := 0) (ci := 4) (k := 6) (v := .int (I11 w1 6)) hw1 rfl rfl i_X5 (by decide) q_183 rfl rfl dX5_become_71 ?_
  refine g_putI K hW (ci := 4) (k := 6) hw0 rfl rfl i_X5 tyX5_ok nmX5 (by decide) q_183 rfl rfl rfl rfl dX5_become_74 (fun H locs hW => ?_)
  obtain ⟨I13, e14, h⟩ := lz_o h
  replace hW := gWd_nI e14 hW
  refine lv_aload_n hx hb dX5_become_77 rfl (lv_at hl 0 rfl) ?_
  refine lv_aload_n hx hb dX5_become_78 rfl (lv_at hl 1 rfl) ?_
  refine g_get K hW (t := 0) (ci := 4) (k := 7) (v := .int (I13 w1 7)) hw1 rfl rfl i_X5 (by decide) q_185 rfl rfl dX5_become_79 ?_
  refine g_putI K hW (ci := 4) (k := 7) hw0 rfl rfl i_X5 tyX5_ok nmX5 (by decide) q_185 rfl rfl rfl rfl dX5_become_82 (fun H locs hW => ?_)
  obtain ⟨I15, e16, h⟩ := lz_o h
  replace hW := gWd_nI e16 hW
  refine lv_aload_n hx hb dX5_become_85 rfl (lv_at hl 0 rfl) ?_
  refine lv_aload_n hx hb dX5_become_86 rfl (lv_at hl 1 rfl) ?_
  refine g_get K hW (t := 0) (ci := 4) (k := 8) (v := .int (I15 w1 8)) hw1 rfl rfl i_X5 (by decide) q_188 rfl rfl dX5_become_87 ?_
  refine g_putI K hW (ci := 4) (k := 8) hw0 rfl rfl i_X5 tyX5_ok nmX5 (by decide) q_188 rfl rfl rfl rfl dX5_become_90 (fun H locs hW => ?_)
  obtain ⟨I17, e18, h⟩ := lz_o h
  replace hW := gWd_nI e18 hW
  obtain a1 := h.symm
  replace hW := gWd_nI a1 hW
  exact hfin _ _ _ _ hW dX5_become_93
theorem kP_0d : ∀ o, o < 328 → LC.2.1 o = (0, 0) → (o + 1 < 328 ∧ LC.2.1 (o + 1) = (1, 5)) ∧ LC.2.2 o 0 = some (o + 1) := by decide +kernel
theorem kP_0 {o : Nat} (h : gAt LC o 0 0) : gAt LC (o + 1) 1 5 := (kP_0d o h.1 h.2).1
theorem rP_0 {o : Nat} (h : gAt LC o 0 0) : LC.2.2 o 0 = some (o + 1) := (kP_0d o h.1 h.2).2
theorem kP_1d : ∀ o, o < 328 → LC.2.1 o = (0, 0) → (o + 2 < 328 ∧ LC.2.1 (o + 2) = (1, 5)) ∧ LC.2.2 o 1 = some (o + 2) := by decide +kernel
theorem kP_1 {o : Nat} (h : gAt LC o 0 0) : gAt LC (o + 2) 1 5 := (kP_1d o h.1 h.2).1
theorem rP_1 {o : Nat} (h : gAt LC o 0 0) : LC.2.2 o 1 = some (o + 2) := (kP_1d o h.1 h.2).2
theorem kP_2d : ∀ o, o < 328 → LC.2.1 o = (0, 0) → (o + 3 < 328 ∧ LC.2.1 (o + 3) = (1, 6)) ∧ LC.2.2 o 2 = some (o + 3) := by decide +kernel
theorem kP_2 {o : Nat} (h : gAt LC o 0 0) : gAt LC (o + 3) 1 6 := (kP_2d o h.1 h.2).1
theorem rP_2 {o : Nat} (h : gAt LC o 0 0) : LC.2.2 o 2 = some (o + 3) := (kP_2d o h.1 h.2).2
theorem kP_3d : ∀ o, o < 328 → LC.2.1 o = (0, 0) → (o + 4 < 328 ∧ LC.2.1 (o + 4) = (1, 6)) ∧ LC.2.2 o 3 = some (o + 4) := by decide +kernel
theorem kP_3 {o : Nat} (h : gAt LC o 0 0) : gAt LC (o + 4) 1 6 := (kP_3d o h.1 h.2).1
theorem rP_3 {o : Nat} (h : gAt LC o 0 0) : LC.2.2 o 3 = some (o + 4) := (kP_3d o h.1 h.2).2
theorem kP_4d : ∀ o, o < 328 → LC.2.1 o = (0, 0) → (o + 5 < 328 ∧ LC.2.1 (o + 5) = (1, 6)) ∧ LC.2.2 o 4 = some (o + 5) := by decide +kernel
theorem kP_4 {o : Nat} (h : gAt LC o 0 0) : gAt LC (o + 5) 1 6 := (kP_4d o h.1 h.2).1
theorem rP_4 {o : Nat} (h : gAt LC o 0 0) : LC.2.2 o 4 = some (o + 5) := (kP_4d o h.1 h.2).2
theorem kP_5d : ∀ o, o < 328 → LC.2.1 o = (0, 0) → (o + 6 < 328 ∧ LC.2.1 (o + 6) = (1, 6)) ∧ LC.2.2 o 5 = some (o + 6) := by decide +kernel
theorem kP_5 {o : Nat} (h : gAt LC o 0 0) : gAt LC (o + 6) 1 6 := (kP_5d o h.1 h.2).1
theorem rP_5 {o : Nat} (h : gAt LC o 0 0) : LC.2.2 o 5 = some (o + 6) := (kP_5d o h.1 h.2).2
theorem kP_6d : ∀ o, o < 328 → LC.2.1 o = (0, 0) → (o + 7 < 328 ∧ LC.2.1 (o + 7) = (1, 12)) ∧ LC.2.2 o 6 = some (o + 7) := by decide +kernel
theorem kP_6 {o : Nat} (h : gAt LC o 0 0) : gAt LC (o + 7) 1 12 := (kP_6d o h.1 h.2).1
theorem rP_6 {o : Nat} (h : gAt LC o 0 0) : LC.2.2 o 6 = some (o + 7) := (kP_6d o h.1 h.2).2
theorem kP_7d : ∀ o, o < 328 → LC.2.1 o = (0, 0) → (o + 8 < 328 ∧ LC.2.1 (o + 8) = (1, 8)) ∧ LC.2.2 o 7 = some (o + 8) := by decide +kernel
theorem kP_7 {o : Nat} (h : gAt LC o 0 0) : gAt LC (o + 8) 1 8 := (kP_7d o h.1 h.2).1
theorem rP_7 {o : Nat} (h : gAt LC o 0 0) : LC.2.2 o 7 = some (o + 8) := (kP_7d o h.1 h.2).2
theorem kP_8d : ∀ o, o < 328 → LC.2.1 o = (0, 0) → (o + 9 < 328 ∧ LC.2.1 (o + 9) = (1, 8)) ∧ LC.2.2 o 8 = some (o + 9) := by decide +kernel
theorem kP_8 {o : Nat} (h : gAt LC o 0 0) : gAt LC (o + 9) 1 8 := (kP_8d o h.1 h.2).1
theorem rP_8 {o : Nat} (h : gAt LC o 0 0) : LC.2.2 o 8 = some (o + 9) := (kP_8d o h.1 h.2).2
theorem kP_11d : ∀ o, o < 328 → LC.2.1 o = (0, 0) → (o + 15 < 328 ∧ LC.2.1 (o + 15) = (1, 30)) ∧ LC.2.2 o 11 = some (o + 15) := by decide +kernel
theorem kP_11 {o : Nat} (h : gAt LC o 0 0) : gAt LC (o + 15) 1 30 := (kP_11d o h.1 h.2).1
theorem rP_11 {o : Nat} (h : gAt LC o 0 0) : LC.2.2 o 11 = some (o + 15) := (kP_11d o h.1 h.2).2
theorem kP_9d : ∀ o, o < 328 → LC.2.1 o = (0, 0) → (o + 10 < 328 ∧ LC.2.1 (o + 10) = (0, 4)) ∧ LC.2.2 o 9 = some (o + 10) := by decide +kernel
theorem kP_9 {o : Nat} (h : gAt LC o 0 0) : gAt LC (o + 10) 0 4 := (kP_9d o h.1 h.2).1
theorem rP_9 {o : Nat} (h : gAt LC o 0 0) : LC.2.2 o 9 = some (o + 10) := (kP_9d o h.1 h.2).2
theorem nm_X5_become : gNm yX5_become 1 := by decide +kernel
theorem kP_10d : ∀ o, o < 328 → LC.2.1 o = (0, 0) → (o + 14 < 328 ∧ LC.2.1 (o + 14) = (5, 30)) ∧ LC.2.2 o 10 = some (o + 14) := by decide +kernel
theorem kP_10 {o : Nat} (h : gAt LC o 0 0) : gAt LC (o + 14) 5 30 := (kP_10d o h.1 h.2).1
theorem rP_10 {o : Nat} (h : gAt LC o 0 0) : LC.2.2 o 10 = some (o + 14) := (kP_10d o h.1 h.2).2
noncomputable def fX0_become_161b (p0 : Nat) (p1 : Nat) (rec : Int32 → gI → Option ((gI))) (u24 : Int32) (I : gI) : Option ((gI)) :=
  gi ((30 : Int32) ≤ u24)
 (some I)
 (gd (vp_in u24 30) (lz (fX5_become ((p0 + 14) + 2 + 4 * (u24).toNatClampNeg) ((p1 + 14) + 2 + 4 * (u24).toNatClampNeg) I) (fun (I28 : gI) => lz ((u24 + (1 : Int32))) (fun (u31 : Int32) => rec u31 I28))))
noncomputable def fX0_become_161 (p0 : Nat) (p1 : Nat) : Nat → Int32 → gI → Option ((gI))
  | 0 => fun _ _ => none
  | n + 1 => fX0_become_161b p0 p1 (fX0_become_161 p0 p1 n)
set_option maxHeartbeats 4000000 in
set_option maxRecDepth 100000 in
theorem tX0_become_161 {l : Launch} {G : gG} {ad : Nat → Nat} {p : Program} {e : Env} {s : State} {m : MethodId} {args : Array Value} {below : List Frame} {meth : Method} {c : Code} {Q : State → Prop} (hok : gInj LC ad) (K : gCx G (gA LC ad) p s m args c cX0_become 3 RX0) (p0 : Nat) (hp0 : gAt LC p0 0 0) (p1 : Nat) (hp1 : gAt LC p1 0 0) : ∀ (n : Nat) (u24 : Int32) (I : gI) (J : gJ) (out : Option ((gI))), fX0_become_161 p0 p1 n u24 I = out → out ≠ none → ∀ (H : Heap) (locs : List Loc), gWd G LC ad (gA LC ad) s.heap I J H locs → ∀ (ls : Array Slot), lv_has ls 3 [(0, .ref (ad p0)), (1, .ref (ad p1)), (2, .int u24)] → (∀ (I25 : gI), some I25 = out → ∀ (H : Heap) (locs : List Loc), gWd G LC ad (gA LC ad) s.heap I25 J H locs → ∀ (ls : Array Slot), lv_has ls 3 [(0, .ref (ad p0)), (1, .ref (ad p1))] → W p l e (gRm 2) s m args below meth c H locs 0 0 Q (F0 m 188 ls [])) → W p l e (gRm 2) s m args below meth c H locs 0 0 Q (F0 m 161 ls []) := by
  have hx := K.1; have hb := K.2.1; have hown := K.2.2.2.1; have hts := K.2.2.2.2.1
  intro n
  induction n with
  | zero => intro u24 I J out h hn; exact absurd h.symm hn
  | succ n ih =>
    intro u24 I J out h hn H locs hW ls hl hx1
    replace h : fX0_become_161b p0 p1 (fX0_become_161 p0 p1 n) u24 I = out := h
    unfold fX0_become_161b at h
    refine lv_iload_n hx hb dX0_become_161 rfl (lv_at hl 2 rfl) ?_
    refine lv_bipush (v := (30 : Int32)) hx hb dX0_become_162 (by decide) ?_
    refine lv_icmp_ge (tgt := 188) hx hb dX0_become_164 (by decide) (fun c26 => ?_) (fun c26 => ?_)
    · replace h := gi_t h c26
      exact hx1 I h _ _ hW _ (lv_sub hl [0, 1] rfl)
    · replace h := gi_f h c26
      refine lv_aload_n hx hb dX0_become_167 rfl (lv_at hl 0 rfl) ?_
      refine g_get K hW (t := 2) (ci := 0) (k := 10) (v := .ref (ad (p0 + 14))) hp0 rfl rfl i_X0 (by decide) q_233 rfl (gfv2 (rP_10 hp0)) dX0_become_168 ?_
      refine lv_iload_n hx hb dX0_become_171 rfl (lv_at hl 2 rfl) ?_
      obtain ⟨g27, h⟩ := gd_o h hn
      refine g_aald5 K hW (kP_10 hp0) g27 (rWa (kP_10 hp0) g27) dX0_become_172 ?_
      refine lv_aload_n hx hb dX0_become_173 rfl (lv_at hl 1 rfl) ?_
      refine g_get K hW (t := 2) (ci := 0) (k := 10) (v := .ref (ad (p1 + 14))) hp1 rfl rfl i_X0 (by decide) q_233 rfl (gfv2 (rP_10 hp1)) dX0_become_174 ?_
      refine lv_iload_n hx hb dX0_become_177 rfl (lv_at hl 2 rfl) ?_
      refine g_aald5 K hW (kP_10 hp1) g27 (rWa (kP_10 hp1) g27) dX0_become_178 ?_
      obtain ⟨I28, e29, h⟩ := lz_o h
      refine g_callVv (rest := []) K hW hl (kX5_become (l := l) (G := G) (ad := ad) hok ((p0 + 14) + 2 + 4 * (u24).toNatClampNeg) ((p1 + 14) + 2 + 4 * (u24).toNatClampNeg) (kWa (kP_10 hp0) g27) (kWa (kP_10 hp1) g27) I J I28 e29.symm) (kWa (kP_10 hp0) g27) rfl (gG_V q_845 q_736 q_737 q_135 q_738) nm_X5_become ⟨Nat.le_of_ble_eq_true rfl, Nat.le_of_ble_eq_true rfl⟩ rfl rfl (Nat.le_of_ble_eq_true rfl) ⟨Nat.zero_le _, Nat.zero_le _⟩ dX0_become_179 (fun H locs hW => ?_)
      obtain ⟨u31, e32, h⟩ := lz_o h
      refine lv_iinc (v := u31) (lv' := [(2, .int u31), (0, .ref (ad p0)), (1, .ref (ad p1))]) hx hb dX0_become_182 hl (k := 2) rfl (by rw [e32]; rfl) (by decide) rfl (fun ls hl => ?_)
      refine lv_goto (tgt := 161) hx hb dX0_become_185 (by decide) ?_
      exact ih u31 I28 J _ h hn _ _ hW _ (lv_sub hl [1, 2, 0] rfl) hx1
noncomputable def fX0_become (p0 : Nat) (p1 : Nat)  (I : gI) : Option (gI) :=
  lz (cpI I (p1 + 1) 0 (p0 + 1) 0 5) (fun (I1 : gI) => lz (cpI I1 (p1 + 2) 0 (p0 + 2) 0 5) (fun (I3 : gI) => lz (cpI I3 (p1 + 3) 0 (p0 + 3) 0 6) (fun (I5 : gI) => lz (cpI I5 (p1 + 4) 0 (p0 + 4) 0 6) (fun (I7 : gI) => lz (cpI I7 (p1 + 5) 0 (p0 + 5) 0 6) (fun (I9 : gI) => lz (cpI I9 (p1 + 6) 0 (p0 + 6) 0 6) (fun (I11 : gI) => lz (cpI I11 (p1 + 7) 0 (p0 + 7) 0 12) (fun (I13 : gI) => lz (cpI I13 (p1 + 8) 0 (p0 + 8) 0 8) (fun (I15 : gI) => lz (cpI I15 (p1 + 9) 0 (p0 + 9) 0 8) (fun (I17 : gI) => lz (cpI I17 (p1 + 15) 0 (p0 + 15) 0 30) (fun (I19 : gI) => lz (fX5_become (p0 + 10) (p1 + 10) I19) (fun (I21 : gI) => bd (fX0_become_161 p0 p1 FU (0 : Int32) I21) (fun (I35 : gI) => lz (wI I35 p0 12 (I35 p1 12)) (fun (I37 : gI) => lz (wI I37 p0 13 (I37 p1 13)) (fun (I39 : gI) => lz (wI I39 p0 14 (I39 p1 14)) (fun (I41 : gI) => lz (wI I41 p0 15 (I41 p1 15)) (fun (I43 : gI) => lz (wI I43 p0 16 (I43 p1 16)) (fun (I45 : gI) => lz (wI I45 p0 17 (I45 p1 17)) (fun (I47 : gI) => lz (wI I47 p0 18 (I47 p1 18)) (fun (I49 : gI) => lz (wI I49 p0 19 (I49 p1 19)) (fun (I51 : gI) => some I51))))))))))))))))))))
set_option maxHeartbeats 4000000 in
set_option maxRecDepth 100000 in
theorem kX0_become {l : Launch} {G : gG} {ad : Nat → Nat} (hok : gInj LC ad)  (p0 : Nat) (p1 : Nat) (hp0 : gAt LC p0 0 0) (hp1 : gAt LC p1 0 0)  (I : gI) (J : gJ) (I' : gI) (h : fX0_become p0 p1 I = some I') : gMv l yX0_become cX0_become 3 none 2 G LC ad [.ref (ad p0), .ref (ad p1)] I J I' J := by
  refine gMv_of (lst := [(0, .ref (ad p0)), (1, .ref (ad p1))]) (by decide) hok (Nat.le_of_ble_eq_true rfl) rfl ?_
  intro p e s m args below meth c Q ls K hW hl hfin
  have hn : (some I' : Option (gI)) ≠ none := Option.some_ne_none _
  have hx := K.1; have hb := K.2.1; have hown := K.2.2.2.1; have hts := K.2.2.2.2.1
  unfold fX0_become at h
  refine lv_aload_n hx hb dX0_become_0 rfl (lv_at hl 1 rfl) ?_
  refine g_get K hW (t := 2) (ci := 0) (k := 0) (v := .ref (ad (p1 + 1))) hp1 rfl rfl i_X0 (by decide) q_211 rfl (gfv2 (rP_0 hp1)) dX0_become_1 ?_
  refine lv_iconst (v := (0 : Int32)) hx hb dX0_become_4 (by decide) ?_
  refine lv_aload_n hx hb dX0_become_5 rfl (lv_at hl 0 rfl) ?_
  refine g_get K hW (t := 2) (ci := 0) (k := 0) (v := .ref (ad (p0 + 1))) hp0 rfl rfl i_X0 (by decide) q_211 rfl (gfv2 (rP_0 hp0)) dX0_become_6 ?_
  refine lv_iconst (v := (0 : Int32)) hx hb dX0_become_9 (by decide) ?_
  refine lv_iconst (v := (5 : Int32)) hx hb dX0_become_10 (by decide) ?_
  refine g_copy K hW (sp' := 0) (dp' := 0) (k' := 5) q_844 q_741 q_740 q_147 (kP_0 hp1) (kP_0 hp0) (by decide) (by decide) (by decide) (by decide) (by decide) (by decide) (by decide) hl (by decide) (by decide +kernel) dX0_become_11 (fun H locs hW => ?_)
  obtain ⟨I1, e2, h⟩ := lz_o h
  replace hW := gWd_nI e2 hW
  refine lv_aload_n hx hb dX0_become_14 rfl (lv_at hl 1 rfl) ?_
  refine g_get K hW (t := 2) (ci := 0) (k := 1) (v := .ref (ad (p1 + 2))) hp1 rfl rfl i_X0 (by decide) q_213 rfl (gfv2 (rP_1 hp1)) dX0_become_15 ?_
  refine lv_iconst (v := (0 : Int32)) hx hb dX0_become_18 (by decide) ?_
  refine lv_aload_n hx hb dX0_become_19 rfl (lv_at hl 0 rfl) ?_
  refine g_get K hW (t := 2) (ci := 0) (k := 1) (v := .ref (ad (p0 + 2))) hp0 rfl rfl i_X0 (by decide) q_213 rfl (gfv2 (rP_1 hp0)) dX0_become_20 ?_
  refine lv_iconst (v := (0 : Int32)) hx hb dX0_become_23 (by decide) ?_
  refine lv_iconst (v := (5 : Int32)) hx hb dX0_become_24 (by decide) ?_
  refine g_copy K hW (sp' := 0) (dp' := 0) (k' := 5) q_844 q_741 q_740 q_147 (kP_1 hp1) (kP_1 hp0) (by decide) (by decide) (by decide) (by decide) (by decide) (by decide) (by decide) hl (by decide) (by decide +kernel) dX0_become_25 (fun H locs hW => ?_)
  obtain ⟨I3, e4, h⟩ := lz_o h
  replace hW := gWd_nI e4 hW
  refine lv_aload_n hx hb dX0_become_28 rfl (lv_at hl 1 rfl) ?_
  refine g_get K hW (t := 2) (ci := 0) (k := 2) (v := .ref (ad (p1 + 3))) hp1 rfl rfl i_X0 (by decide) q_216 rfl (gfv2 (rP_2 hp1)) dX0_become_29 ?_
  refine lv_iconst (v := (0 : Int32)) hx hb dX0_become_32 (by decide) ?_
  refine lv_aload_n hx hb dX0_become_33 rfl (lv_at hl 0 rfl) ?_
  refine g_get K hW (t := 2) (ci := 0) (k := 2) (v := .ref (ad (p0 + 3))) hp0 rfl rfl i_X0 (by decide) q_216 rfl (gfv2 (rP_2 hp0)) dX0_become_34 ?_
  refine lv_iconst (v := (0 : Int32)) hx hb dX0_become_37 (by decide) ?_
  refine lv_bipush (v := (6 : Int32)) hx hb dX0_become_38 (by decide) ?_
  refine g_copy K hW (sp' := 0) (dp' := 0) (k' := 6) q_844 q_741 q_740 q_147 (kP_2 hp1) (kP_2 hp0) (by decide) (by decide) (by decide) (by decide) (by decide) (by decide) (by decide) hl (by decide) (by decide +kernel) dX0_become_40 (fun H locs hW => ?_)
  obtain ⟨I5, e6, h⟩ := lz_o h
  replace hW := gWd_nI e6 hW
  refine lv_aload_n hx hb dX0_become_43 rfl (lv_at hl 1 rfl) ?_
  refine g_get K hW (t := 2) (ci := 0) (k := 3) (v := .ref (ad (p1 + 4))) hp1 rfl rfl i_X0 (by decide) q_219 rfl (gfv2 (rP_3 hp1)) dX0_become_44 ?_
  refine lv_iconst (v := (0 : Int32)) hx hb dX0_become_47 (by decide) ?_
  refine lv_aload_n hx hb dX0_become_48 rfl (lv_at hl 0 rfl) ?_
  refine g_get K hW (t := 2) (ci := 0) (k := 3) (v := .ref (ad (p0 + 4))) hp0 rfl rfl i_X0 (by decide) q_219 rfl (gfv2 (rP_3 hp0)) dX0_become_49 ?_
  refine lv_iconst (v := (0 : Int32)) hx hb dX0_become_52 (by decide) ?_
  refine lv_bipush (v := (6 : Int32)) hx hb dX0_become_53 (by decide) ?_
  refine g_copy K hW (sp' := 0) (dp' := 0) (k' := 6) q_844 q_741 q_740 q_147 (kP_3 hp1) (kP_3 hp0) (by decide) (by decide) (by decide) (by decide) (by decide) (by decide) (by decide) hl (by decide) (by decide +kernel) dX0_become_55 (fun H locs hW => ?_)
  obtain ⟨I7, e8, h⟩ := lz_o h
  replace hW := gWd_nI e8 hW
  refine lv_aload_n hx hb dX0_become_58 rfl (lv_at hl 1 rfl) ?_
  refine g_get K hW (t := 2) (ci := 0) (k := 4) (v := .ref (ad (p1 + 5))) hp1 rfl rfl i_X0 (by decide) q_221 rfl (gfv2 (rP_4 hp1)) dX0_become_59 ?_
  refine lv_iconst (v := (0 : Int32)) hx hb dX0_become_62 (by decide) ?_
  refine lv_aload_n hx hb dX0_become_63 rfl (lv_at hl 0 rfl) ?_
  refine g_get K hW (t := 2) (ci := 0) (k := 4) (v := .ref (ad (p0 + 5))) hp0 rfl rfl i_X0 (by decide) q_221 rfl (gfv2 (rP_4 hp0)) dX0_become_64 ?_
  refine lv_iconst (v := (0 : Int32)) hx hb dX0_become_67 (by decide) ?_
  refine lv_bipush (v := (6 : Int32)) hx hb dX0_become_68 (by decide) ?_
  refine g_copy K hW (sp' := 0) (dp' := 0) (k' := 6) q_844 q_741 q_740 q_147 (kP_4 hp1) (kP_4 hp0) (by decide) (by decide) (by decide) (by decide) (by decide) (by decide) (by decide) hl (by decide) (by decide +kernel) dX0_become_70 (fun H locs hW => ?_)
  obtain ⟨I9, e10, h⟩ := lz_o h
  replace hW := gWd_nI e10 hW
  refine lv_aload_n hx hb dX0_become_73 rfl (lv_at hl 1 rfl) ?_
  refine g_get K hW (t := 2) (ci := 0) (k := 5) (v := .ref (ad (p1 + 6))) hp1 rfl rfl i_X0 (by decide) q_223 rfl (gfv2 (rP_5 hp1)) dX0_become_74 ?_
  refine lv_iconst (v := (0 : Int32)) hx hb dX0_become_77 (by decide) ?_
  refine lv_aload_n hx hb dX0_become_78 rfl (lv_at hl 0 rfl) ?_
  refine g_get K hW (t := 2) (ci := 0) (k := 5) (v := .ref (ad (p0 + 6))) hp0 rfl rfl i_X0 (by decide) q_223 rfl (gfv2 (rP_5 hp0)) dX0_become_79 ?_
  refine lv_iconst (v := (0 : Int32)) hx hb dX0_become_82 (by decide) ?_
  refine lv_bipush (v := (6 : Int32)) hx hb dX0_become_83 (by decide) ?_
  refine g_copy K hW (sp' := 0) (dp' := 0) (k' := 6) q_844 q_741 q_740 q_147 (kP_5 hp1) (kP_5 hp0) (by decide) (by decide) (by decide) (by decide) (by decide) (by decide) (by decide) hl (by decide) (by decide +kernel) dX0_become_85 (fun H locs hW => ?_)
  obtain ⟨I11, e12, h⟩ := lz_o h
  replace hW := gWd_nI e12 hW
  refine lv_aload_n hx hb dX0_become_88 rfl (lv_at hl 1 rfl) ?_
  refine g_get K hW (t := 2) (ci := 0) (k := 6) (v := .ref (ad (p1 + 7))) hp1 rfl rfl i_X0 (by decide) q_225 rfl (gfv2 (rP_6 hp1)) dX0_become_89 ?_
  refine lv_iconst (v := (0 : Int32)) hx hb dX0_become_92 (by decide) ?_
  refine lv_aload_n hx hb dX0_become_93 rfl (lv_at hl 0 rfl) ?_
  refine g_get K hW (t := 2) (ci := 0) (k := 6) (v := .ref (ad (p0 + 7))) hp0 rfl rfl i_X0 (by decide) q_225 rfl (gfv2 (rP_6 hp0)) dX0_become_94 ?_
  refine lv_iconst (v := (0 : Int32)) hx hb dX0_become_97 (by decide) ?_
  refine lv_bipush (v := (12 : Int32)) hx hb dX0_become_98 (by decide) ?_
  refine g_copy K hW (sp' := 0) (dp' := 0) (k' := 12) q_844 q_741 q_740 q_147 (kP_6 hp1) (kP_6 hp0) (by decide) (by decide) (by decide) (by decide) (by decide) (by decide) (by decide) hl (by decide) (by decide +kernel) dX0_become_100 (fun H locs hW => ?_)
  obtain ⟨I13, e14, h⟩ := lz_o h
  replace hW := gWd_nI e14 hW
  refine lv_aload_n hx hb dX0_become_103 rfl (lv_at hl 1 rfl) ?_
  refine g_get K hW (t := 2) (ci := 0) (k := 7) (v := .ref (ad (p1 + 8))) hp1 rfl rfl i_X0 (by decide) q_227 rfl (gfv2 (rP_7 hp1)) dX0_become_104 ?_
  refine lv_iconst (v := (0 : Int32)) hx hb dX0_become_107 (by decide) ?_
  refine lv_aload_n hx hb dX0_become_108 rfl (lv_at hl 0 rfl) ?_
  refine g_get K hW (t := 2) (ci := 0) (k := 7) (v := .ref (ad (p0 + 8))) hp0 rfl rfl i_X0 (by decide) q_227 rfl (gfv2 (rP_7 hp0)) dX0_become_109 ?_
  refine lv_iconst (v := (0 : Int32)) hx hb dX0_become_112 (by decide) ?_
  refine lv_bipush (v := (8 : Int32)) hx hb dX0_become_113 (by decide) ?_
  refine g_copy K hW (sp' := 0) (dp' := 0) (k' := 8) q_844 q_741 q_740 q_147 (kP_7 hp1) (kP_7 hp0) (by decide) (by decide) (by decide) (by decide) (by decide) (by decide) (by decide) hl (by decide) (by decide +kernel) dX0_become_115 (fun H locs hW => ?_)
  obtain ⟨I15, e16, h⟩ := lz_o h
  replace hW := gWd_nI e16 hW
  refine lv_aload_n hx hb dX0_become_118 rfl (lv_at hl 1 rfl) ?_
  refine g_get K hW (t := 2) (ci := 0) (k := 8) (v := .ref (ad (p1 + 9))) hp1 rfl rfl i_X0 (by decide) q_229 rfl (gfv2 (rP_8 hp1)) dX0_become_119 ?_
  refine lv_iconst (v := (0 : Int32)) hx hb dX0_become_122 (by decide) ?_
  refine lv_aload_n hx hb dX0_become_123 rfl (lv_at hl 0 rfl) ?_
  refine g_get K hW (t := 2) (ci := 0) (k := 8) (v := .ref (ad (p0 + 9))) hp0 rfl rfl i_X0 (by decide) q_229 rfl (gfv2 (rP_8 hp0)) dX0_become_124 ?_
  refine lv_iconst (v := (0 : Int32)) hx hb dX0_become_127 (by decide) ?_
  refine lv_bipush (v := (8 : Int32)) hx hb dX0_become_128 (by decide) ?_
  refine g_copy K hW (sp' := 0) (dp' := 0) (k' := 8) q_844 q_741 q_740 q_147 (kP_8 hp1) (kP_8 hp0) (by decide) (by decide) (by decide) (by decide) (by decide) (by decide) (by decide) hl (by decide) (by decide +kernel) dX0_become_130 (fun H locs hW => ?_)
  obtain ⟨I17, e18, h⟩ := lz_o h
  replace hW := gWd_nI e18 hW
  refine lv_aload_n hx hb dX0_become_133 rfl (lv_at hl 1 rfl) ?_
  refine g_get K hW (t := 2) (ci := 0) (k := 11) (v := .ref (ad (p1 + 15))) hp1 rfl rfl i_X0 (by decide) q_235 rfl (gfv2 (rP_11 hp1)) dX0_become_134 ?_
  refine lv_iconst (v := (0 : Int32)) hx hb dX0_become_137 (by decide) ?_
  refine lv_aload_n hx hb dX0_become_138 rfl (lv_at hl 0 rfl) ?_
  refine g_get K hW (t := 2) (ci := 0) (k := 11) (v := .ref (ad (p0 + 15))) hp0 rfl rfl i_X0 (by decide) q_235 rfl (gfv2 (rP_11 hp0)) dX0_become_139 ?_
  refine lv_iconst (v := (0 : Int32)) hx hb dX0_become_142 (by decide) ?_
  refine lv_bipush (v := (30 : Int32)) hx hb dX0_become_143 (by decide) ?_
  refine g_copy K hW (sp' := 0) (dp' := 0) (k' := 30) q_844 q_741 q_740 q_147 (kP_11 hp1) (kP_11 hp0) (by decide) (by decide) (by decide) (by decide) (by decide) (by decide) (by decide) hl (by decide) (by decide +kernel) dX0_become_145 (fun H locs hW => ?_)
  obtain ⟨I19, e20, h⟩ := lz_o h
  replace hW := gWd_nI e20 hW
  refine lv_aload_n hx hb dX0_become_148 rfl (lv_at hl 0 rfl) ?_
  refine g_get K hW (t := 2) (ci := 0) (k := 9) (v := .ref (ad (p0 + 10))) hp0 rfl rfl i_X0 (by decide) q_231 rfl (gfv2 (rP_9 hp0)) dX0_become_149 ?_
  refine lv_aload_n hx hb dX0_become_152 rfl (lv_at hl 1 rfl) ?_
  refine g_get K hW (t := 2) (ci := 0) (k := 9) (v := .ref (ad (p1 + 10))) hp1 rfl rfl i_X0 (by decide) q_231 rfl (gfv2 (rP_9 hp1)) dX0_become_153 ?_
  obtain ⟨I21, e22, h⟩ := lz_o h
  refine g_callVv (rest := []) K hW hl (kX5_become (l := l) (G := G) (ad := ad) hok (p0 + 10) (p1 + 10) (kP_9 hp0) (kP_9 hp1) I19 J I21 e22.symm) (kP_9 hp0) rfl (gG_V q_845 q_736 q_737 q_135 q_738) nm_X5_become ⟨Nat.le_of_ble_eq_true rfl, Nat.le_of_ble_eq_true rfl⟩ rfl rfl (Nat.le_of_ble_eq_true rfl) ⟨Nat.zero_le _, Nat.zero_le _⟩ dX0_become_156 (fun H locs hW => ?_)
  refine lv_iconst (v := (0 : Int32)) hx hb dX0_become_159 (by decide) ?_
  refine lv_istore_n (lv' := [(2, .int (0 : Int32)), (0, .ref (ad p0)), (1, .ref (ad p1))]) hx hb dX0_become_160 rfl hl (by decide) rfl (fun ls hl => ?_)
  obtain ⟨r33, e34, h⟩ := bd_o h hn
  refine tX0_become_161 hok K p0 hp0 p1 hp1 FU (0 : Int32) I21 J (some r33) e34 (Option.some_ne_none _) _ _ hW _ (lv_sub hl [1, 2, 0] rfl) ?_
  · intro I35 q36 H locs hW ls hl
    replace q36 := Option.some.inj q36
    subst q36
    refine lv_aload_n hx hb dX0_become_188 rfl (lv_at hl 0 rfl) ?_
    refine lv_aload_n hx hb dX0_become_189 rfl (lv_at hl 1 rfl) ?_
    refine g_get K hW (t := 0) (ci := 0) (k := 12) (v := .int (I35 p1 12)) hp1 rfl rfl i_X0 (by decide) q_237 rfl rfl dX0_become_190 ?_
    refine g_putI K hW (ci := 0) (k := 12) hp0 rfl rfl i_X0 tyX0_ok nmX0 (by decide) q_237 rfl rfl rfl rfl dX0_become_193 (fun H locs hW => ?_)
    obtain ⟨I37, e38, h⟩ := lz_o h
    replace hW := gWd_nI e38 hW
    refine lv_aload_n hx hb dX0_become_196 rfl (lv_at hl 0 rfl) ?_
    refine lv_aload_n hx hb dX0_become_197 rfl (lv_at hl 1 rfl) ?_
    refine g_get K hW (t := 0) (ci := 0) (k := 13) (v := .int (I37 p1 13)) hp1 rfl rfl i_X0 (by decide) q_240 rfl rfl dX0_become_198 ?_
    refine g_putI K hW (ci := 0) (k := 13) hp0 rfl rfl i_X0 tyX0_ok nmX0 (by decide) q_240 rfl rfl rfl rfl dX0_become_201 (fun H locs hW => ?_)
    obtain ⟨I39, e40, h⟩ := lz_o h
    replace hW := gWd_nI e40 hW
    refine lv_aload_n hx hb dX0_become_204 rfl (lv_at hl 0 rfl) ?_
    refine lv_aload_n hx hb dX0_become_205 rfl (lv_at hl 1 rfl) ?_
    refine g_get K hW (t := 0) (ci := 0) (k := 14) (v := .int (I39 p1 14)) hp1 rfl rfl i_X0 (by decide) q_242 rfl rfl dX0_become_206 ?_
    refine g_putI K hW (ci := 0) (k := 14) hp0 rfl rfl i_X0 tyX0_ok nmX0 (by decide) q_242 rfl rfl rfl rfl dX0_become_209 (fun H locs hW => ?_)
    obtain ⟨I41, e42, h⟩ := lz_o h
    replace hW := gWd_nI e42 hW
    refine lv_aload_n hx hb dX0_become_212 rfl (lv_at hl 0 rfl) ?_
    refine lv_aload_n hx hb dX0_become_213 rfl (lv_at hl 1 rfl) ?_
    refine g_get K hW (t := 0) (ci := 0) (k := 15) (v := .int (I41 p1 15)) hp1 rfl rfl i_X0 (by decide) q_244 rfl rfl dX0_become_214 ?_
    refine g_putI K hW (ci := 0) (k := 15) hp0 rfl rfl i_X0 tyX0_ok nmX0 (by decide) q_244 rfl rfl rfl rfl dX0_become_217 (fun H locs hW => ?_)
    obtain ⟨I43, e44, h⟩ := lz_o h
    replace hW := gWd_nI e44 hW
    refine lv_aload_n hx hb dX0_become_220 rfl (lv_at hl 0 rfl) ?_
    refine lv_aload_n hx hb dX0_become_221 rfl (lv_at hl 1 rfl) ?_
    refine g_get K hW (t := 0) (ci := 0) (k := 16) (v := .int (I43 p1 16)) hp1 rfl rfl i_X0 (by decide) q_246 rfl rfl dX0_become_222 ?_
    refine g_putI K hW (ci := 0) (k := 16) hp0 rfl rfl i_X0 tyX0_ok nmX0 (by decide) q_246 rfl rfl rfl rfl dX0_become_225 (fun H locs hW => ?_)
    obtain ⟨I45, e46, h⟩ := lz_o h
    replace hW := gWd_nI e46 hW
    refine lv_aload_n hx hb dX0_become_228 rfl (lv_at hl 0 rfl) ?_
    refine lv_aload_n hx hb dX0_become_229 rfl (lv_at hl 1 rfl) ?_
    refine g_get K hW (t := 0) (ci := 0) (k := 17) (v := .int (I45 p1 17)) hp1 rfl rfl i_X0 (by decide) q_248 rfl rfl dX0_become_230 ?_
    refine g_putI K hW (ci := 0) (k := 17) hp0 rfl rfl i_X0 tyX0_ok nmX0 (by decide) q_248 rfl rfl rfl rfl dX0_become_233 (fun H locs hW => ?_)
    obtain ⟨I47, e48, h⟩ := lz_o h
    replace hW := gWd_nI e48 hW
    refine lv_aload_n hx hb dX0_become_236 rfl (lv_at hl 0 rfl) ?_
    refine lv_aload_n hx hb dX0_become_237 rfl (lv_at hl 1 rfl) ?_
    refine g_get K hW (t := 0) (ci := 0) (k := 18) (v := .int (I47 p1 18)) hp1 rfl rfl i_X0 (by decide) q_250 rfl rfl dX0_become_238 ?_
    refine g_putI K hW (ci := 0) (k := 18) hp0 rfl rfl i_X0 tyX0_ok nmX0 (by decide) q_250 rfl rfl rfl rfl dX0_become_241 (fun H locs hW => ?_)
    obtain ⟨I49, e50, h⟩ := lz_o h
    replace hW := gWd_nI e50 hW
    refine lv_aload_n hx hb dX0_become_244 rfl (lv_at hl 0 rfl) ?_
    refine lv_aload_n hx hb dX0_become_245 rfl (lv_at hl 1 rfl) ?_
    refine g_get K hW (t := 0) (ci := 0) (k := 19) (v := .int (I49 p1 19)) hp1 rfl rfl i_X0 (by decide) q_252 rfl rfl dX0_become_246 ?_
    refine g_putI K hW (ci := 0) (k := 19) hp0 rfl rfl i_X0 tyX0_ok nmX0 (by decide) q_252 rfl rfl rfl rfl dX0_become_249 (fun H locs hW => ?_)
    obtain ⟨I51, e52, h⟩ := lz_o h
    replace hW := gWd_nI e52 hW
    obtain a1 := so1 h
    replace hW := gWd_nI a1 hW
    exact hfin _ _ _ _ hW dX0_become_252
theorem kLC_1 : gAt LC 1 0 0 := ⟨by decide, by decide +kernel⟩
theorem kLC_6 : gAt LC 6 1 6 := ⟨by decide, by decide +kernel⟩
theorem rLC_1_4 : LC.2.2 1 4 = some 6 := by decide +kernel
theorem kLC_5 : gAt LC 5 1 6 := ⟨by decide, by decide +kernel⟩
theorem rLC_1_3 : LC.2.2 1 3 = some 5 := by decide +kernel
noncomputable def fX0_longOf  (x1 : Int32) (I : gI) : Option (Int32) :=
  gd (vp_in x1 6) (some (((I 6 (x1).toNatClampNeg) - (I 5 (x1).toNatClampNeg)) + (1 : Int32)))
set_option maxHeartbeats 4000000 in
set_option maxRecDepth 100000 in
theorem kX0_longOf {l : Launch} {G : gG} {ad : Nat → Nat} (hok : gInj LC ad)    (x1 : Int32) (I : gI) (J : gJ) (r : Int32) (h : fX0_longOf x1 I = some r) : gMi l yX0_longOf cX0_longOf 2 (some .int) 1 G LC ad [.ref (ad 1), .int x1] I J r True I J := by
  refine gMi_of (lst := [(0, .ref (ad 1)), (1, .int x1)]) (by decide) hok (Nat.le_of_ble_eq_true rfl) rfl ?_
  intro p e s m args below meth c Q ls K hW hl hfin
  have hn : (some r : Option (Int32)) ≠ none := Option.some_ne_none _
  have hx := K.1; have hb := K.2.1; have hown := K.2.2.2.1; have hts := K.2.2.2.2.1
  unfold fX0_longOf at h
  refine lv_aload_n hx hb dX0_longOf_0 rfl (lv_at hl 0 rfl) ?_
  refine g_get K hW (t := 2) (ci := 0) (k := 4) (v := .ref (ad 6)) kLC_1 rfl rfl i_X0 (by decide) q_221 rfl (gfv2 rLC_1_4) dX0_longOf_1 ?_
  refine lv_iload_n hx hb dX0_longOf_4 rfl (lv_at hl 1 rfl) ?_
  obtain ⟨g1, h⟩ := gd_o h hn
  refine g_iald K hW kLC_6 g1 rfl dX0_longOf_5 ?_
  refine lv_aload_n hx hb dX0_longOf_6 rfl (lv_at hl 0 rfl) ?_
  refine g_get K hW (t := 2) (ci := 0) (k := 3) (v := .ref (ad 5)) kLC_1 rfl rfl i_X0 (by decide) q_219 rfl (gfv2 rLC_1_3) dX0_longOf_7 ?_
  refine lv_iload_n hx hb dX0_longOf_10 rfl (lv_at hl 1 rfl) ?_
  refine g_iald K hW kLC_5 g1 rfl dX0_longOf_11 ?_
  refine lv_isub hx hb dX0_longOf_12 ?_
  refine lv_iconst (v := (1 : Int32)) hx hb dX0_longOf_13 (by decide) ?_
  refine lv_iadd hx hb dX0_longOf_14 ?_
  obtain a1 := so1 h
  exact g_nmi a1 (hfin _ _ _ _ hW dX0_longOf_15)
noncomputable def fX0_slicesOf  (x1 : Int32) (I : gI) : Option (Int32) :=
  gd (vp_in x1 6) (some ((jshl (2 : Int32) (I 6 (x1).toNatClampNeg)) - (jshl (1 : Int32) (I 5 (x1).toNatClampNeg))))
set_option maxHeartbeats 4000000 in
set_option maxRecDepth 100000 in
theorem kX0_slicesOf {l : Launch} {G : gG} {ad : Nat → Nat} (hok : gInj LC ad)    (x1 : Int32) (I : gI) (J : gJ) (r : Int32) (h : fX0_slicesOf x1 I = some r) : gMi l yX0_slicesOf cX0_slicesOf 2 (some .int) 1 G LC ad [.ref (ad 1), .int x1] I J r True I J := by
  refine gMi_of (lst := [(0, .ref (ad 1)), (1, .int x1)]) (by decide) hok (Nat.le_of_ble_eq_true rfl) rfl ?_
  intro p e s m args below meth c Q ls K hW hl hfin
  have hn : (some r : Option (Int32)) ≠ none := Option.some_ne_none _
  have hx := K.1; have hb := K.2.1; have hown := K.2.2.2.1; have hts := K.2.2.2.2.1
  unfold fX0_slicesOf at h
  refine lv_iconst (v := (2 : Int32)) hx hb dX0_slicesOf_0 (by decide) ?_
  refine lv_aload_n hx hb dX0_slicesOf_1 rfl (lv_at hl 0 rfl) ?_
  refine g_get K hW (t := 2) (ci := 0) (k := 4) (v := .ref (ad 6)) kLC_1 rfl rfl i_X0 (by decide) q_221 rfl (gfv2 rLC_1_4) dX0_slicesOf_2 ?_
  refine lv_iload_n hx hb dX0_slicesOf_5 rfl (lv_at hl 1 rfl) ?_
  obtain ⟨g1, h⟩ := gd_o h hn
  refine g_iald K hW kLC_6 g1 rfl dX0_slicesOf_6 ?_
  refine g_ishl hx hb dX0_slicesOf_7 ?_
  refine lv_iconst (v := (1 : Int32)) hx hb dX0_slicesOf_8 (by decide) ?_
  refine lv_aload_n hx hb dX0_slicesOf_9 rfl (lv_at hl 0 rfl) ?_
  refine g_get K hW (t := 2) (ci := 0) (k := 3) (v := .ref (ad 5)) kLC_1 rfl rfl i_X0 (by decide) q_219 rfl (gfv2 rLC_1_3) dX0_slicesOf_10 ?_
  refine lv_iload_n hx hb dX0_slicesOf_13 rfl (lv_at hl 1 rfl) ?_
  refine g_iald K hW kLC_5 g1 rfl dX0_slicesOf_14 ?_
  refine g_ishl hx hb dX0_slicesOf_15 ?_
  refine lv_isub hx hb dX0_slicesOf_16 ?_
  obtain a1 := so1 h
  exact g_nmi a1 (hfin _ _ _ _ hW dX0_slicesOf_17)
theorem kLC_275 : gAt LC 275 0 1 := ⟨by decide, by decide +kernel⟩
theorem kLC_278 : gAt LC 278 1 301 := ⟨by decide, by decide +kernel⟩
theorem rLC_275_2 : LC.2.2 275 2 = some 278 := by decide +kernel
noncomputable def fX1_fails  (x1 : Int32) (I : gI) : Option (Int32 × gI) :=
  lz (wI I 275 7 x1) (fun (I1 : gI) => gd (vp_in (I1 275 4) 301) (lz (wI I1 275 8 (I1 278 ((I1 275 4)).toNatClampNeg)) (fun (I4 : gI) => some ((0 : Int32), I4))))
set_option maxHeartbeats 4000000 in
set_option maxRecDepth 100000 in
theorem kX1_fails {l : Launch} {G : gG} {ad : Nat → Nat} (hok : gInj LC ad)    (x1 : Int32) (I : gI) (J : gJ) (r : Int32) (I' : gI) (h : fX1_fails x1 I = some (r, I')) : gMi l yX1_fails cX1_fails 2 (some .boolean) 1 G LC ad [.ref (ad 275), .int x1] I J r (r = 0 ∨ r = 1) I' J := by
  refine gMz_of (lst := [(0, .ref (ad 275)), (1, .int x1)]) (by decide) hok (Nat.le_of_ble_eq_true rfl) rfl ?_
  intro p e s m args below meth c Q ls K hW hl hfin
  have hn : (some (r, I') : Option (Int32 × gI)) ≠ none := Option.some_ne_none _
  have hx := K.1; have hb := K.2.1; have hown := K.2.2.2.1; have hts := K.2.2.2.2.1
  unfold fX1_fails at h
  refine lv_aload_n hx hb dX1_fails_0 rfl (lv_at hl 0 rfl) ?_
  refine lv_iload_n hx hb dX1_fails_1 rfl (lv_at hl 1 rfl) ?_
  refine g_putI K hW (ci := 1) (k := 7) kLC_275 rfl rfl i_X1 tyX1_ok nmX1 (by decide) q_357 rfl rfl rfl rfl dX1_fails_2 (fun H locs hW => ?_)
  obtain ⟨I1, e2, h⟩ := lz_o h
  replace hW := gWd_nI e2 hW
  refine lv_aload_n hx hb dX1_fails_5 rfl (lv_at hl 0 rfl) ?_
  refine lv_aload_n hx hb dX1_fails_6 rfl (lv_at hl 0 rfl) ?_
  refine g_get K hW (t := 2) (ci := 1) (k := 2) (v := .ref (ad 278)) kLC_275 rfl rfl i_X1 (by decide) q_352 rfl (gfv2 rLC_275_2) dX1_fails_7 ?_
  refine lv_aload_n hx hb dX1_fails_10 rfl (lv_at hl 0 rfl) ?_
  refine g_get K hW (t := 0) (ci := 1) (k := 4) (v := .int (I1 275 4)) kLC_275 rfl rfl i_X1 (by decide) q_354 rfl rfl dX1_fails_11 ?_
  obtain ⟨g3, h⟩ := gd_o h hn
  refine g_iald K hW kLC_278 g3 rfl dX1_fails_14 ?_
  refine g_putI K hW (ci := 1) (k := 8) kLC_275 rfl rfl i_X1 tyX1_ok nmX1 (by decide) q_359 rfl rfl rfl rfl dX1_fails_15 (fun H locs hW => ?_)
  obtain ⟨I4, e5, h⟩ := lz_o h
  replace hW := gWd_nI e5 hW
  refine lv_iconst (v := (0 : Int32)) hx hb dX1_fails_18 (by decide) ?_
  obtain ⟨a1, a2⟩ := so2 h
  replace hW := gWd_nI a2 hW
  exact g_nmi a1 (hfin _ _ _ _ (a1 ▸ (Or.inl rfl)) hW dX1_fails_19)
theorem nm_X1_fails : gNm yX1_fails 1 := by decide +kernel
noncomputable def fX1_opens  (x1 : Int32) (I : gI) : Option (Int32 × gI) :=
  gi (x1 < (8 : Int32))
 (lz (wI I 275 4 ((I 275 4) + (1 : Int32))) (fun (I2 : gI) => some ((1 : Int32), I2)))
 (bd (fX1_fails (3 : Int32) I) (pr (fun (u4 : Int32) (I5 : gI) => some (u4, I5))))
set_option maxHeartbeats 4000000 in
set_option maxRecDepth 100000 in
theorem kX1_opens {l : Launch} {G : gG} {ad : Nat → Nat} (hok : gInj LC ad)    (x1 : Int32) (I : gI) (J : gJ) (r : Int32) (I' : gI) (h : fX1_opens x1 I = some (r, I')) : gMi l yX1_opens cX1_opens 2 (some .boolean) 2 G LC ad [.ref (ad 275), .int x1] I J r (r = 0 ∨ r = 1) I' J := by
  refine gMz_of (lst := [(0, .ref (ad 275)), (1, .int x1)]) (by decide) hok (Nat.le_of_ble_eq_true rfl) rfl ?_
  intro p e s m args below meth c Q ls K hW hl hfin
  have hn : (some (r, I') : Option (Int32 × gI)) ≠ none := Option.some_ne_none _
  have hx := K.1; have hb := K.2.1; have hown := K.2.2.2.1; have hts := K.2.2.2.2.1
  unfold fX1_opens at h
  refine lv_iload_n hx hb dX1_opens_0 rfl (lv_at hl 1 rfl) ?_
  refine lv_bipush (v := (8 : Int32)) hx hb dX1_opens_1 (by decide) ?_
  refine lv_icmp_lt (tgt := 12) hx hb dX1_opens_3 (by decide) (fun c1 => ?_) (fun c1 => ?_)
  · replace h := gi_t h c1
    refine lv_aload_n hx hb dX1_opens_12 rfl (lv_at hl 0 rfl) ?_
    refine lv_dup hx hb dX1_opens_13 rfl ?_
    refine g_get K hW (t := 0) (ci := 1) (k := 4) (v := .int (I 275 4)) kLC_275 rfl rfl i_X1 (by decide) q_354 rfl rfl dX1_opens_14 ?_
    refine lv_iconst (v := (1 : Int32)) hx hb dX1_opens_17 (by decide) ?_
    refine lv_iadd hx hb dX1_opens_18 ?_
    refine g_putI K hW (ci := 1) (k := 4) kLC_275 rfl rfl i_X1 tyX1_ok nmX1 (by decide) q_354 rfl rfl rfl rfl dX1_opens_19 (fun H locs hW => ?_)
    obtain ⟨I2, e3, h⟩ := lz_o h
    replace hW := gWd_nI e3 hW
    refine lv_iconst (v := (1 : Int32)) hx hb dX1_opens_22 (by decide) ?_
    obtain ⟨a1, a2⟩ := so2 h
    replace hW := gWd_nI a2 hW
    exact g_nmi a1 (hfin _ _ _ _ (a1 ▸ (Or.inr rfl)) hW dX1_opens_23)
  · replace h := gi_f h c1
    refine lv_aload_n hx hb dX1_opens_6 rfl (lv_at hl 0 rfl) ?_
    refine lv_iconst (v := (3 : Int32)) hx hb dX1_opens_7 (by decide) ?_
    obtain ⟨⟨u4, I5⟩, e6, h⟩ := bd_o h hn
    replace h := pr_o h
    refine g_callVi (rest := []) K hW hl (kX1_fails (l := l) (G := G) (ad := ad) hok (3 : Int32) I J u4 I5 e6) kLC_275 rfl (gG_V q_575 q_577 q_7 q_136 q_578) nm_X1_fails ⟨Nat.le_of_ble_eq_true rfl, Nat.le_of_ble_eq_true rfl⟩ rfl rfl (Nat.le_of_ble_eq_true rfl) ⟨Nat.zero_le _, Nat.zero_le _⟩ dX1_opens_8 (fun z7 H locs hW => ?_)
    obtain ⟨a1, a2⟩ := so2 h
    replace hW := gWd_nI a2 hW
    exact g_nmi a1 (hfin _ _ _ _ (a1 ▸ z7) hW dX1_opens_11)
theorem kT_3d : ∀ o, o < 328 → LC.2.1 o = (0, 3) → (o + 4 < 328 ∧ LC.2.1 (o + 4) = (1, 300)) ∧ LC.2.2 o 3 = some (o + 4) := by decide +kernel
theorem kT_3 {o : Nat} (h : gAt LC o 0 3) : gAt LC (o + 4) 1 300 := (kT_3d o h.1 h.2).1
theorem rT_3 {o : Nat} (h : gAt LC o 0 3) : LC.2.2 o 3 = some (o + 4) := (kT_3d o h.1 h.2).2
theorem kT_4d : ∀ o, o < 328 → LC.2.1 o = (0, 3) → (o + 5 < 328 ∧ LC.2.1 (o + 5) = (1, 300)) ∧ LC.2.2 o 4 = some (o + 5) := by decide +kernel
theorem kT_4 {o : Nat} (h : gAt LC o 0 3) : gAt LC (o + 5) 1 300 := (kT_4d o h.1 h.2).1
theorem rT_4 {o : Nat} (h : gAt LC o 0 3) : LC.2.2 o 4 = some (o + 5) := (kT_4d o h.1 h.2).2
noncomputable def fX3_emit (t0 : Nat) (x1 : Int32) (x2 : Int32) (I : gI) : Option (Int32 × gI) :=
  lz (fun (I1 : gI) => some (((I1 t0 8) - (1 : Int32)), I1)) (fun j2 => gi ((300 : Int32) ≤ (I t0 8))
 (j2 I)
 (gd (vp_in (I t0 8) 300) (lz (wI I (t0 + 4) ((I t0 8)).toNatClampNeg x1) (fun (I8 : gI) => gd (vp_in (I8 t0 8) 300) (lz (wI I8 (t0 + 5) ((I8 t0 8)).toNatClampNeg x2) (fun (I11 : gI) => lz (wI I11 t0 8 ((I11 t0 8) + (1 : Int32))) (fun (I12 : gI) => j2 I12)))))))
set_option maxHeartbeats 4000000 in
set_option maxRecDepth 100000 in
theorem kX3_emit {l : Launch} {G : gG} {ad : Nat → Nat} (hok : gInj LC ad)  (t0 : Nat) (ht0 : gAt LC t0 0 3) (x1 : Int32) (x2 : Int32) (I : gI) (J : gJ) (r : Int32) (I' : gI) (h : fX3_emit t0 x1 x2 I = some (r, I')) : gMi l yX3_emit cX3_emit 3 (some .int) 1 G LC ad [.ref (ad t0), .int x1, .int x2] I J r True I' J := by
  refine gMi_of (lst := [(0, .ref (ad t0)), (1, .int x1), (2, .int x2)]) (by decide) hok (Nat.le_of_ble_eq_true rfl) rfl ?_
  intro p e s m args below meth c Q ls K hW hl hfin
  have hn : (some (r, I') : Option (Int32 × gI)) ≠ none := Option.some_ne_none _
  have hx := K.1; have hb := K.2.1; have hown := K.2.2.2.1; have hts := K.2.2.2.2.1
  unfold fX3_emit at h
  refine lv_aload_n hx hb dX3_emit_0 rfl (lv_at hl 0 rfl) ?_
  refine g_get K hW (t := 0) (ci := 3) (k := 8) (v := .int (I t0 8)) ht0 rfl rfl i_X3 (by decide) q_328 rfl rfl dX3_emit_1 ?_
  refine lv_sipush (v := (300 : Int32)) hx hb dX3_emit_4 (by decide) ?_
  obtain ⟨j2, e3, h⟩ := lz_o h
  have hj4 : ∀ (I1 : gI), j2 I1 = (some (r, I')) → ∀ (H : Heap) (locs : List Loc), gWd G LC ad (gA LC ad) s.heap I1 J H locs → ∀ (ls : Array Slot), lv_has ls 3 [(0, .ref (ad t0))] → W p l e (gRm 1) s m args below meth c H locs 0 0 Q (F0 m 40 ls []) := by
    intro I1 h H locs hW ls hl
    replace h := jn1 e3 h
    refine lv_aload_n hx hb dX3_emit_40 rfl (lv_at hl 0 rfl) ?_
    refine g_get K hW (t := 0) (ci := 3) (k := 8) (v := .int (I1 t0 8)) ht0 rfl rfl i_X3 (by decide) q_328 rfl rfl dX3_emit_41 ?_
    refine lv_iconst (v := (1 : Int32)) hx hb dX3_emit_44 (by decide) ?_
    refine lv_isub hx hb dX3_emit_45 ?_
    obtain ⟨a1, a2⟩ := so2 h
    replace hW := gWd_nI a2 hW
    exact g_nmi a1 (hfin _ _ _ _ hW dX3_emit_46)
  refine lv_icmp_ge (tgt := 40) hx hb dX3_emit_7 (by decide) (fun c5 => ?_) (fun c5 => ?_)
  · replace h := gi_t h c5
    exact hj4 I h _ _ hW _ (lv_sub hl [0] rfl)
  · replace h := gi_f h c5
    refine lv_aload_n hx hb dX3_emit_10 rfl (lv_at hl 0 rfl) ?_
    refine g_get K hW (t := 2) (ci := 3) (k := 3) (v := .ref (ad (t0 + 4))) ht0 rfl rfl i_X3 (by decide) q_315 rfl (gfv2 (rT_3 ht0)) dX3_emit_11 ?_
    refine lv_aload_n hx hb dX3_emit_14 rfl (lv_at hl 0 rfl) ?_
    refine g_get K hW (t := 0) (ci := 3) (k := 8) (v := .int (I t0 8)) ht0 rfl rfl i_X3 (by decide) q_328 rfl rfl dX3_emit_15 ?_
    refine lv_iload_n hx hb dX3_emit_18 rfl (lv_at hl 1 rfl) ?_
    obtain ⟨g6, h⟩ := gd_o h hn
    refine g_iast K hW (kT_3 ht0) g6 rfl dX3_emit_19 (fun H locs hW => ?_)
    obtain ⟨I8, e7, h⟩ := lz_o h
    replace hW := gWd_nI e7 hW
    refine lv_aload_n hx hb dX3_emit_20 rfl (lv_at hl 0 rfl) ?_
    refine g_get K hW (t := 2) (ci := 3) (k := 4) (v := .ref (ad (t0 + 5))) ht0 rfl rfl i_X3 (by decide) q_317 rfl (gfv2 (rT_4 ht0)) dX3_emit_21 ?_
    refine lv_aload_n hx hb dX3_emit_24 rfl (lv_at hl 0 rfl) ?_
    refine g_get K hW (t := 0) (ci := 3) (k := 8) (v := .int (I8 t0 8)) ht0 rfl rfl i_X3 (by decide) q_328 rfl rfl dX3_emit_25 ?_
    refine lv_iload_n hx hb dX3_emit_28 rfl (lv_at hl 2 rfl) ?_
    obtain ⟨g9, h⟩ := gd_o h hn
    refine g_iast K hW (kT_4 ht0) g9 rfl dX3_emit_29 (fun H locs hW => ?_)
    obtain ⟨I11, e10, h⟩ := lz_o h
    replace hW := gWd_nI e10 hW
    refine lv_aload_n hx hb dX3_emit_30 rfl (lv_at hl 0 rfl) ?_
    refine lv_dup hx hb dX3_emit_31 rfl ?_
    refine g_get K hW (t := 0) (ci := 3) (k := 8) (v := .int (I11 t0 8)) ht0 rfl rfl i_X3 (by decide) q_328 rfl rfl dX3_emit_32 ?_
    refine lv_iconst (v := (1 : Int32)) hx hb dX3_emit_35 (by decide) ?_
    refine lv_iadd hx hb dX3_emit_36 ?_
    refine g_putI K hW (ci := 3) (k := 8) ht0 rfl rfl i_X3 tyX3_ok nmX3 (by decide) q_328 rfl rfl rfl rfl dX3_emit_37 (fun H locs hW => ?_)
    obtain ⟨I12, e13, h⟩ := lz_o h
    replace hW := gWd_nI e13 hW
    exact hj4 I12 h _ _ hW _ (lv_sub hl [0] rfl)
noncomputable def fX4_isComparison  (x0 : Int32)  : Int32 :=
  gi (x0 < (25 : Int32))
 ((0 : Int32))
 (gi ((30 : Int32) < x0)
 ((0 : Int32))
 ((1 : Int32)))
set_option maxHeartbeats 4000000 in
set_option maxRecDepth 100000 in
theorem kX4_isComparison {l : Launch} {G : gG} {ad : Nat → Nat} (hok : gInj LC ad)    (x0 : Int32) (I : gI) (J : gJ) (r : Int32) (h : fX4_isComparison x0 = r) : gMi l yX4_isComparison cX4_isComparison 1 (some .boolean) 1 G LC ad [.int x0] I J r (r = 0 ∨ r = 1) I J := by
  refine gMz_of (lst := [(0, .int x0)]) (by decide) hok (Nat.le_of_ble_eq_true rfl) rfl ?_
  intro p e s m args below meth c Q ls K hW hl hfin
  have hx := K.1; have hb := K.2.1; have hown := K.2.2.2.1; have hts := K.2.2.2.2.1
  unfold fX4_isComparison at h
  refine lv_iload_n hx hb dX4_isComparison_0 rfl (lv_at hl 0 rfl) ?_
  refine lv_bipush (v := (25 : Int32)) hx hb dX4_isComparison_1 (by decide) ?_
  refine lv_icmp_lt (tgt := 16) hx hb dX4_isComparison_3 (by decide) (fun c1 => ?_) (fun c1 => ?_)
  · replace h := gi_t h c1
    refine lv_iconst (v := (0 : Int32)) hx hb dX4_isComparison_16 (by decide) ?_
    obtain a1 := h.symm
    exact g_nmi a1 (hfin _ _ _ _ (a1 ▸ (Or.inl rfl)) hW dX4_isComparison_17)
  · replace h := gi_f h c1
    refine lv_iload_n hx hb dX4_isComparison_6 rfl (lv_at hl 0 rfl) ?_
    refine lv_bipush (v := (30 : Int32)) hx hb dX4_isComparison_7 (by decide) ?_
    refine lv_icmp_gt (tgt := 16) hx hb dX4_isComparison_9 (by decide) (fun c2 => ?_) (fun c2 => ?_)
    · replace h := gi_t h c2
      refine lv_iconst (v := (0 : Int32)) hx hb dX4_isComparison_16 (by decide) ?_
      obtain a1 := h.symm
      exact g_nmi a1 (hfin _ _ _ _ (a1 ▸ (Or.inl rfl)) hW dX4_isComparison_17)
    · replace h := gi_f h c2
      refine lv_iconst (v := (1 : Int32)) hx hb dX4_isComparison_12 (by decide) ?_
      refine lv_goto (tgt := 17) hx hb dX4_isComparison_13 (by decide) ?_
      obtain a1 := h.symm
      exact g_nmi a1 (hfin _ _ _ _ (a1 ▸ (Or.inr rfl)) hW dX4_isComparison_17)
theorem kLC_276 : gAt LC 276 1 301 := ⟨by decide, by decide +kernel⟩
theorem rLC_275_0 : LC.2.2 275 0 = some 276 := by decide +kernel
noncomputable def fX1_takes  (x1 : Int32) (I : gI) : Option (Int32 × gI) :=
  gd (vp_in (I 275 4) 301) (gi ((I 276 ((I 275 4)).toNatClampNeg) = x1)
 (lz (wI I 275 4 ((I 275 4) + (1 : Int32))) (fun (I3 : gI) => some ((1 : Int32), I3)))
 (bd (fX1_fails (1 : Int32) I) (pr (fun (u5 : Int32) (I6 : gI) => some (u5, I6)))))
set_option maxHeartbeats 4000000 in
set_option maxRecDepth 100000 in
theorem kX1_takes {l : Launch} {G : gG} {ad : Nat → Nat} (hok : gInj LC ad)    (x1 : Int32) (I : gI) (J : gJ) (r : Int32) (I' : gI) (h : fX1_takes x1 I = some (r, I')) : gMi l yX1_takes cX1_takes 2 (some .boolean) 2 G LC ad [.ref (ad 275), .int x1] I J r (r = 0 ∨ r = 1) I' J := by
  refine gMz_of (lst := [(0, .ref (ad 275)), (1, .int x1)]) (by decide) hok (Nat.le_of_ble_eq_true rfl) rfl ?_
  intro p e s m args below meth c Q ls K hW hl hfin
  have hn : (some (r, I') : Option (Int32 × gI)) ≠ none := Option.some_ne_none _
  have hx := K.1; have hb := K.2.1; have hown := K.2.2.2.1; have hts := K.2.2.2.2.1
  unfold fX1_takes at h
  refine lv_aload_n hx hb dX1_takes_0 rfl (lv_at hl 0 rfl) ?_
  refine g_get K hW (t := 2) (ci := 1) (k := 0) (v := .ref (ad 276)) kLC_275 rfl rfl i_X1 (by decide) q_350 rfl (gfv2 rLC_275_0) dX1_takes_1 ?_
  refine lv_aload_n hx hb dX1_takes_4 rfl (lv_at hl 0 rfl) ?_
  refine g_get K hW (t := 0) (ci := 1) (k := 4) (v := .int (I 275 4)) kLC_275 rfl rfl i_X1 (by decide) q_354 rfl rfl dX1_takes_5 ?_
  obtain ⟨g1, h⟩ := gd_o h hn
  refine g_iald K hW kLC_276 g1 rfl dX1_takes_8 ?_
  refine lv_iload_n hx hb dX1_takes_9 rfl (lv_at hl 1 rfl) ?_
  refine lv_icmp_eq (tgt := 19) hx hb dX1_takes_10 (by decide) (fun c2 => ?_) (fun c2 => ?_)
  · replace h := gi_t h c2
    refine lv_aload_n hx hb dX1_takes_19 rfl (lv_at hl 0 rfl) ?_
    refine lv_dup hx hb dX1_takes_20 rfl ?_
    refine g_get K hW (t := 0) (ci := 1) (k := 4) (v := .int (I 275 4)) kLC_275 rfl rfl i_X1 (by decide) q_354 rfl rfl dX1_takes_21 ?_
    refine lv_iconst (v := (1 : Int32)) hx hb dX1_takes_24 (by decide) ?_
    refine lv_iadd hx hb dX1_takes_25 ?_
    refine g_putI K hW (ci := 1) (k := 4) kLC_275 rfl rfl i_X1 tyX1_ok nmX1 (by decide) q_354 rfl rfl rfl rfl dX1_takes_26 (fun H locs hW => ?_)
    obtain ⟨I3, e4, h⟩ := lz_o h
    replace hW := gWd_nI e4 hW
    refine lv_iconst (v := (1 : Int32)) hx hb dX1_takes_29 (by decide) ?_
    obtain ⟨a1, a2⟩ := so2 h
    replace hW := gWd_nI a2 hW
    exact g_nmi a1 (hfin _ _ _ _ (a1 ▸ (Or.inr rfl)) hW dX1_takes_30)
  · replace h := gi_f h c2
    refine lv_aload_n hx hb dX1_takes_13 rfl (lv_at hl 0 rfl) ?_
    refine lv_iconst (v := (1 : Int32)) hx hb dX1_takes_14 (by decide) ?_
    obtain ⟨⟨u5, I6⟩, e7, h⟩ := bd_o h hn
    replace h := pr_o h
    refine g_callVi (rest := []) K hW hl (kX1_fails (l := l) (G := G) (ad := ad) hok (1 : Int32) I J u5 I6 e7) kLC_275 rfl (gG_V q_575 q_577 q_7 q_136 q_578) nm_X1_fails ⟨Nat.le_of_ble_eq_true rfl, Nat.le_of_ble_eq_true rfl⟩ rfl rfl (Nat.le_of_ble_eq_true rfl) ⟨Nat.zero_le _, Nat.zero_le _⟩ dX1_takes_15 (fun z8 H locs hW => ?_)
    obtain ⟨a1, a2⟩ := so2 h
    replace hW := gWd_nI a2 hW
    exact g_nmi a1 (hfin _ _ _ _ (a1 ▸ z8) hW dX1_takes_18)
noncomputable def fX3_jumpHere (t0 : Nat) (x1 : Int32) (I : gI) : Option (gI) :=
  gi (x1 < 0)
 (some I)
 (gi ((300 : Int32) ≤ x1)
 (some I)
 (gd (vp_in x1 300) (lz (wI I (t0 + 5) (x1).toNatClampNeg (I t0 8)) (fun (I5 : gI) => some I5))))
set_option maxHeartbeats 4000000 in
set_option maxRecDepth 100000 in
theorem kX3_jumpHere {l : Launch} {G : gG} {ad : Nat → Nat} (hok : gInj LC ad)  (t0 : Nat) (ht0 : gAt LC t0 0 3) (x1 : Int32) (I : gI) (J : gJ) (I' : gI) (h : fX3_jumpHere t0 x1 I = some I') : gMv l yX3_jumpHere cX3_jumpHere 2 none 1 G LC ad [.ref (ad t0), .int x1] I J I' J := by
  refine gMv_of (lst := [(0, .ref (ad t0)), (1, .int x1)]) (by decide) hok (Nat.le_of_ble_eq_true rfl) rfl ?_
  intro p e s m args below meth c Q ls K hW hl hfin
  have hn : (some I' : Option (gI)) ≠ none := Option.some_ne_none _
  have hx := K.1; have hb := K.2.1; have hown := K.2.2.2.1; have hts := K.2.2.2.2.1
  unfold fX3_jumpHere at h
  refine lv_iload_n hx hb dX3_jumpHere_0 rfl (lv_at hl 1 rfl) ?_
  refine lv_if_lt (tgt := 21) hx hb dX3_jumpHere_1 (by decide) (fun c1 => ?_) (fun c1 => ?_)
  · replace h := gi_t h c1
    obtain a1 := so1 h
    replace hW := gWd_nI a1 hW
    exact hfin _ _ _ _ hW dX3_jumpHere_21
  · replace h := gi_f h c1
    refine lv_iload_n hx hb dX3_jumpHere_4 rfl (lv_at hl 1 rfl) ?_
    refine lv_sipush (v := (300 : Int32)) hx hb dX3_jumpHere_5 (by decide) ?_
    refine lv_icmp_ge (tgt := 21) hx hb dX3_jumpHere_8 (by decide) (fun c2 => ?_) (fun c2 => ?_)
    · replace h := gi_t h c2
      obtain a1 := so1 h
      replace hW := gWd_nI a1 hW
      exact hfin _ _ _ _ hW dX3_jumpHere_21
    · replace h := gi_f h c2
      refine lv_aload_n hx hb dX3_jumpHere_11 rfl (lv_at hl 0 rfl) ?_
      refine g_get K hW (t := 2) (ci := 3) (k := 4) (v := .ref (ad (t0 + 5))) ht0 rfl rfl i_X3 (by decide) q_317 rfl (gfv2 (rT_4 ht0)) dX3_jumpHere_12 ?_
      refine lv_iload_n hx hb dX3_jumpHere_15 rfl (lv_at hl 1 rfl) ?_
      refine lv_aload_n hx hb dX3_jumpHere_16 rfl (lv_at hl 0 rfl) ?_
      refine g_get K hW (t := 0) (ci := 3) (k := 8) (v := .int (I t0 8)) ht0 rfl rfl i_X3 (by decide) q_328 rfl rfl dX3_jumpHere_17 ?_
      obtain ⟨g3, h⟩ := gd_o h hn
      refine g_iast K hW (kT_4 ht0) g3 rfl dX3_jumpHere_20 (fun H locs hW => ?_)
      obtain ⟨I5, e4, h⟩ := lz_o h
      replace hW := gWd_nI e4 hW
      obtain a1 := so1 h
      replace hW := gWd_nI a1 hW
      exact hfin _ _ _ _ hW dX3_jumpHere_21
theorem rLC_275_6 : LC.2.2 275 6 = some 279 := by decide +kernel
theorem nm_X3_emit : gNm yX3_emit 2 := by decide +kernel
noncomputable def fX1_name  (x1 : Int32) (x2 : Int32) (I : gI) : Option (Int32 × gI) :=
  gi (x2 = 0)
 (bd (fX1_fails (5 : Int32) I) (pr (fun (u9 : Int32) (I10 : gI) => some (u9, I10))))
 (lz (wI I 275 4 ((I 275 4) + (1 : Int32))) (fun (I2 : gI) => gd (gAt LC (I2 275 6).toNatClampNeg 0 3) (bd (fX3_emit ((I2 275 6).toNatClampNeg) x1 (0 : Int32) I2) (pr (fun (u5 : Int32) (I6 : gI) => some ((1 : Int32), I6))))))
set_option maxHeartbeats 4000000 in
set_option maxRecDepth 100000 in
theorem kX1_name {l : Launch} {G : gG} {ad : Nat → Nat} (hok : gInj LC ad)    (x1 : Int32) (x2 : Int32) (I : gI) (J : gJ) (r : Int32) (I' : gI) (h : fX1_name x1 x2 I = some (r, I')) : gMi l yX1_name cX1_name 3 (some .boolean) 2 G LC ad [.ref (ad 275), .int x1, .int x2] I J r (r = 0 ∨ r = 1) I' J := by
  refine gMz_of (lst := [(0, .ref (ad 275)), (1, .int x1), (2, .int x2)]) (by decide) hok (Nat.le_of_ble_eq_true rfl) rfl ?_
  intro p e s m args below meth c Q ls K hW hl hfin
  have hn : (some (r, I') : Option (Int32 × gI)) ≠ none := Option.some_ne_none _
  have hx := K.1; have hb := K.2.1; have hown := K.2.2.2.1; have hts := K.2.2.2.2.1
  unfold fX1_name at h
  refine lv_iload_n hx hb dX1_name_0 rfl (lv_at hl 2 rfl) ?_
  refine lv_if_ne (tgt := 10) hx hb dX1_name_1 (by decide) (fun c1 => ?_) (fun c1 => ?_)
  · replace h := gi_f h c1
    refine lv_aload_n hx hb dX1_name_10 rfl (lv_at hl 0 rfl) ?_
    refine lv_dup hx hb dX1_name_11 rfl ?_
    refine g_get K hW (t := 0) (ci := 1) (k := 4) (v := .int (I 275 4)) kLC_275 rfl rfl i_X1 (by decide) q_354 rfl rfl dX1_name_12 ?_
    refine lv_iconst (v := (1 : Int32)) hx hb dX1_name_15 (by decide) ?_
    refine lv_iadd hx hb dX1_name_16 ?_
    refine g_putI K hW (ci := 1) (k := 4) kLC_275 rfl rfl i_X1 tyX1_ok nmX1 (by decide) q_354 rfl rfl rfl rfl dX1_name_17 (fun H locs hW => ?_)
    obtain ⟨I2, e3, h⟩ := lz_o h
    replace hW := gWd_nI e3 hW
    refine lv_aload_n hx hb dX1_name_20 rfl (lv_at hl 0 rfl) ?_
    obtain ⟨g4, h⟩ := gd_o h hn
    refine g_get K hW (t := 3) (ci := 1) (k := 6) (v := .ref (ad ((I2 275 6).toNatClampNeg))) kLC_275 rfl rfl i_X1 (by decide) q_356 rfl (gfv3 rLC_275_6) dX1_name_21 ?_
    refine lv_iload_n hx hb dX1_name_24 rfl (lv_at hl 1 rfl) ?_
    refine lv_iconst (v := (0 : Int32)) hx hb dX1_name_25 (by decide) ?_
    obtain ⟨⟨u5, I6⟩, e7, h⟩ := bd_o h hn
    replace h := pr_o h
    refine g_callVi (rest := []) K hW hl (kX3_emit (l := l) (G := G) (ad := ad) hok ((I2 275 6).toNatClampNeg) g4 x1 (0 : Int32) I2 J u5 I6 e7) g4 rfl (gG_V q_604 q_605 q_606 q_137 q_607) nm_X3_emit ⟨Nat.le_of_ble_eq_true rfl, Nat.le_of_ble_eq_true rfl⟩ rfl rfl (Nat.le_of_ble_eq_true rfl) ⟨Nat.zero_le _, Nat.zero_le _⟩ dX1_name_26 (fun z8 H locs hW => ?_)
    refine lv_pop hx hb dX1_name_29 rfl ?_
    refine lv_iconst (v := (1 : Int32)) hx hb dX1_name_30 (by decide) ?_
    obtain ⟨a1, a2⟩ := so2 h
    replace hW := gWd_nI a2 hW
    exact g_nmi a1 (hfin _ _ _ _ (a1 ▸ (Or.inr rfl)) hW dX1_name_31)
  · replace h := gi_t h c1
    refine lv_aload_n hx hb dX1_name_4 rfl (lv_at hl 0 rfl) ?_
    refine lv_iconst (v := (5 : Int32)) hx hb dX1_name_5 (by decide) ?_
    obtain ⟨⟨u9, I10⟩, e11, h⟩ := bd_o h hn
    replace h := pr_o h
    refine g_callVi (rest := []) K hW hl (kX1_fails (l := l) (G := G) (ad := ad) hok (5 : Int32) I J u9 I10 e11) kLC_275 rfl (gG_V q_575 q_577 q_7 q_136 q_578) nm_X1_fails ⟨Nat.le_of_ble_eq_true rfl, Nat.le_of_ble_eq_true rfl⟩ rfl rfl (Nat.le_of_ble_eq_true rfl) ⟨Nat.zero_le _, Nat.zero_le _⟩ dX1_name_6 (fun z12 H locs hW => ?_)
    obtain ⟨a1, a2⟩ := so2 h
    replace hW := gWd_nI a2 hW
    exact g_nmi a1 (hfin _ _ _ _ (a1 ▸ z12) hW dX1_name_9)
noncomputable def fX6_within  (x0 : Int32) (x1 : Int32) (x2 : Int32)  : Int32 :=
  gi (x0 < x1)
 ((0 : Int32))
 (gi (x2 < x0)
 ((0 : Int32))
 ((1 : Int32)))
set_option maxHeartbeats 4000000 in
set_option maxRecDepth 100000 in
theorem kX6_within {l : Launch} {G : gG} {ad : Nat → Nat} (hok : gInj LC ad)    (x0 : Int32) (x1 : Int32) (x2 : Int32) (I : gI) (J : gJ) (r : Int32) (h : fX6_within x0 x1 x2 = r) : gMi l yX6_within cX6_within 3 (some .boolean) 1 G LC ad [.int x0, .int x1, .int x2] I J r (r = 0 ∨ r = 1) I J := by
  refine gMz_of (lst := [(0, .int x0), (1, .int x1), (2, .int x2)]) (by decide) hok (Nat.le_of_ble_eq_true rfl) rfl ?_
  intro p e s m args below meth c Q ls K hW hl hfin
  have hx := K.1; have hb := K.2.1; have hown := K.2.2.2.1; have hts := K.2.2.2.2.1
  unfold fX6_within at h
  refine lv_iload_n hx hb dX6_within_0 rfl (lv_at hl 0 rfl) ?_
  refine lv_iload_n hx hb dX6_within_1 rfl (lv_at hl 1 rfl) ?_
  refine lv_icmp_lt (tgt := 14) hx hb dX6_within_2 (by decide) (fun c1 => ?_) (fun c1 => ?_)
  · replace h := gi_t h c1
    refine lv_iconst (v := (0 : Int32)) hx hb dX6_within_14 (by decide) ?_
    obtain a1 := h.symm
    exact g_nmi a1 (hfin _ _ _ _ (a1 ▸ (Or.inl rfl)) hW dX6_within_15)
  · replace h := gi_f h c1
    refine lv_iload_n hx hb dX6_within_5 rfl (lv_at hl 0 rfl) ?_
    refine lv_iload_n hx hb dX6_within_6 rfl (lv_at hl 2 rfl) ?_
    refine lv_icmp_gt (tgt := 14) hx hb dX6_within_7 (by decide) (fun c2 => ?_) (fun c2 => ?_)
    · replace h := gi_t h c2
      refine lv_iconst (v := (0 : Int32)) hx hb dX6_within_14 (by decide) ?_
      obtain a1 := h.symm
      exact g_nmi a1 (hfin _ _ _ _ (a1 ▸ (Or.inl rfl)) hW dX6_within_15)
    · replace h := gi_f h c2
      refine lv_iconst (v := (1 : Int32)) hx hb dX6_within_10 (by decide) ?_
      refine lv_goto (tgt := 15) hx hb dX6_within_11 (by decide) ?_
      obtain a1 := h.symm
      exact g_nmi a1 (hfin _ _ _ _ (a1 ▸ (Or.inr rfl)) hW dX6_within_15)
theorem kLC_277 : gAt LC 277 1 301 := ⟨by decide, by decide +kernel⟩
theorem rLC_275_1 : LC.2.2 275 1 = some 277 := by decide +kernel
theorem nm_X6_within : gNm yX6_within 3 := by decide +kernel
noncomputable def fX1_number  (x1 : Int32) (x2 : Int32) (I : gI) : Option (Int32 × gI) :=
  gd (vp_in (I 275 4) 301) (lz ((I 277 ((I 275 4)).toNatClampNeg)) (fun (u2 : Int32) => gi ((I 276 ((I 275 4)).toNatClampNeg) = (24 : Int32))
 (gi ((fX6_within u2 x1 x2) = 0)
 (bd (fX1_fails (2 : Int32) I) (pr (fun (u9 : Int32) (I10 : gI) => some ((-1 : Int32), I10))))
 (lz (wI I 275 4 ((I 275 4) + (1 : Int32))) (fun (I7 : gI) => some (u2, I7))))
 (bd (fX1_fails (1 : Int32) I) (pr (fun (u13 : Int32) (I14 : gI) => some ((-1 : Int32), I14))))))
set_option maxHeartbeats 4000000 in
set_option maxRecDepth 100000 in
theorem kX1_number {l : Launch} {G : gG} {ad : Nat → Nat} (hok : gInj LC ad)    (x1 : Int32) (x2 : Int32) (I : gI) (J : gJ) (r : Int32) (I' : gI) (h : fX1_number x1 x2 I = some (r, I')) : gMi l yX1_number cX1_number 4 (some .int) 2 G LC ad [.ref (ad 275), .int x1, .int x2] I J r True I' J := by
  refine gMi_of (lst := [(0, .ref (ad 275)), (1, .int x1), (2, .int x2)]) (by decide) hok (Nat.le_of_ble_eq_true rfl) rfl ?_
  intro p e s m args below meth c Q ls K hW hl hfin
  have hn : (some (r, I') : Option (Int32 × gI)) ≠ none := Option.some_ne_none _
  have hx := K.1; have hb := K.2.1; have hown := K.2.2.2.1; have hts := K.2.2.2.2.1
  unfold fX1_number at h
  refine lv_aload_n hx hb dX1_number_0 rfl (lv_at hl 0 rfl) ?_
  refine g_get K hW (t := 2) (ci := 1) (k := 1) (v := .ref (ad 277)) kLC_275 rfl rfl i_X1 (by decide) q_351 rfl (gfv2 rLC_275_1) dX1_number_1 ?_
  refine lv_aload_n hx hb dX1_number_4 rfl (lv_at hl 0 rfl) ?_
  refine g_get K hW (t := 0) (ci := 1) (k := 4) (v := .int (I 275 4)) kLC_275 rfl rfl i_X1 (by decide) q_354 rfl rfl dX1_number_5 ?_
  obtain ⟨g1, h⟩ := gd_o h hn
  refine g_iald K hW kLC_277 g1 rfl dX1_number_8 ?_
  obtain ⟨u2, e3, h⟩ := lz_o h
  refine g_nmi e3 ?_
  refine lv_istore_n (lv' := [(3, .int u2), (0, .ref (ad 275)), (1, .int x1), (2, .int x2)]) hx hb dX1_number_9 rfl hl (by decide) rfl (fun ls hl => ?_)
  refine lv_aload_n hx hb dX1_number_10 rfl (lv_at hl 1 rfl) ?_
  refine g_get K hW (t := 2) (ci := 1) (k := 0) (v := .ref (ad 276)) kLC_275 rfl rfl i_X1 (by decide) q_350 rfl (gfv2 rLC_275_0) dX1_number_11 ?_
  refine lv_aload_n hx hb dX1_number_14 rfl (lv_at hl 1 rfl) ?_
  refine g_get K hW (t := 0) (ci := 1) (k := 4) (v := .int (I 275 4)) kLC_275 rfl rfl i_X1 (by decide) q_354 rfl rfl dX1_number_15 ?_
  refine g_iald K hW kLC_276 g1 rfl dX1_number_18 ?_
  refine lv_bipush (v := (24 : Int32)) hx hb dX1_number_19 (by decide) ?_
  refine lv_icmp_eq (tgt := 32) hx hb dX1_number_21 (by decide) (fun c4 => ?_) (fun c4 => ?_)
  · replace h := gi_t h c4
    refine lv_iload_n hx hb dX1_number_32 rfl (lv_at hl 0 rfl) ?_
    refine lv_iload_n hx hb dX1_number_33 rfl (lv_at hl 2 rfl) ?_
    refine lv_iload_n hx hb dX1_number_34 rfl (lv_at hl 3 rfl) ?_
    refine g_callNi (rest := []) K hW hl (kX6_within (l := l) (G := G) (ad := ad) hok u2 x1 x2 I J (fX6_within u2 x1 x2) rfl) q_603 q_441 q_133 q_442 nm_X6_within ⟨Nat.le_of_ble_eq_true rfl, Nat.le_of_ble_eq_true rfl⟩ rfl rfl (Nat.le_of_ble_eq_true rfl) ⟨Nat.zero_le _, Nat.zero_le _⟩ dX1_number_35 (fun z5 H locs hW => ?_)
    refine lv_if_ne (tgt := 49) hx hb dX1_number_38 (by decide) (fun c6 => ?_) (fun c6 => ?_)
    · replace h := gi_f h c6
      refine lv_aload_n hx hb dX1_number_49 rfl (lv_at hl 1 rfl) ?_
      refine lv_dup hx hb dX1_number_50 rfl ?_
      refine g_get K hW (t := 0) (ci := 1) (k := 4) (v := .int (I 275 4)) kLC_275 rfl rfl i_X1 (by decide) q_354 rfl rfl dX1_number_51 ?_
      refine lv_iconst (v := (1 : Int32)) hx hb dX1_number_54 (by decide) ?_
      refine lv_iadd hx hb dX1_number_55 ?_
      refine g_putI K hW (ci := 1) (k := 4) kLC_275 rfl rfl i_X1 tyX1_ok nmX1 (by decide) q_354 rfl rfl rfl rfl dX1_number_56 (fun H locs hW => ?_)
      obtain ⟨I7, e8, h⟩ := lz_o h
      replace hW := gWd_nI e8 hW
      refine lv_iload_n hx hb dX1_number_59 rfl (lv_at hl 0 rfl) ?_
      obtain ⟨a1, a2⟩ := so2 h
      replace hW := gWd_nI a2 hW
      exact g_nmi a1 (hfin _ _ _ _ hW dX1_number_60)
    · replace h := gi_t h c6
      refine lv_aload_n hx hb dX1_number_41 rfl (lv_at hl 1 rfl) ?_
      refine lv_iconst (v := (2 : Int32)) hx hb dX1_number_42 (by decide) ?_
      obtain ⟨⟨u9, I10⟩, e11, h⟩ := bd_o h hn
      replace h := pr_o h
      refine g_callVi (rest := []) K hW hl (kX1_fails (l := l) (G := G) (ad := ad) hok (2 : Int32) I J u9 I10 e11) kLC_275 rfl (gG_V q_575 q_577 q_7 q_136 q_578) nm_X1_fails ⟨Nat.le_of_ble_eq_true rfl, Nat.le_of_ble_eq_true rfl⟩ rfl rfl (Nat.le_of_ble_eq_true rfl) ⟨Nat.zero_le _, Nat.zero_le _⟩ dX1_number_43 (fun z12 H locs hW => ?_)
      refine lv_pop hx hb dX1_number_46 rfl ?_
      refine lv_iconst (v := (-1 : Int32)) hx hb dX1_number_47 (by decide) ?_
      obtain ⟨a1, a2⟩ := so2 h
      replace hW := gWd_nI a2 hW
      exact g_nmi a1 (hfin _ _ _ _ hW dX1_number_48)
  · replace h := gi_f h c4
    refine lv_aload_n hx hb dX1_number_24 rfl (lv_at hl 1 rfl) ?_
    refine lv_iconst (v := (1 : Int32)) hx hb dX1_number_25 (by decide) ?_
    obtain ⟨⟨u13, I14⟩, e15, h⟩ := bd_o h hn
    replace h := pr_o h
    refine g_callVi (rest := []) K hW hl (kX1_fails (l := l) (G := G) (ad := ad) hok (1 : Int32) I J u13 I14 e15) kLC_275 rfl (gG_V q_575 q_577 q_7 q_136 q_578) nm_X1_fails ⟨Nat.le_of_ble_eq_true rfl, Nat.le_of_ble_eq_true rfl⟩ rfl rfl (Nat.le_of_ble_eq_true rfl) ⟨Nat.zero_le _, Nat.zero_le _⟩ dX1_number_26 (fun z16 H locs hW => ?_)
    refine lv_pop hx hb dX1_number_29 rfl ?_
    refine lv_iconst (v := (-1 : Int32)) hx hb dX1_number_30 (by decide) ?_
    obtain ⟨a1, a2⟩ := so2 h
    replace hW := gWd_nI a2 hW
    exact g_nmi a1 (hfin _ _ _ _ hW dX1_number_31)
theorem kT_0d : ∀ o, o < 328 → LC.2.1 o = (0, 3) → (o + 1 < 328 ∧ LC.2.1 (o + 1) = (1, 24)) ∧ LC.2.2 o 0 = some (o + 1) := by decide +kernel
theorem kT_0 {o : Nat} (h : gAt LC o 0 3) : gAt LC (o + 1) 1 24 := (kT_0d o h.1 h.2).1
theorem rT_0 {o : Nat} (h : gAt LC o 0 3) : LC.2.2 o 0 = some (o + 1) := (kT_0d o h.1 h.2).2
theorem kT_1d : ∀ o, o < 328 → LC.2.1 o = (0, 3) → (o + 2 < 328 ∧ LC.2.1 (o + 2) = (1, 24)) ∧ LC.2.2 o 1 = some (o + 2) := by decide +kernel
theorem kT_1 {o : Nat} (h : gAt LC o 0 3) : gAt LC (o + 2) 1 24 := (kT_1d o h.1 h.2).1
theorem rT_1 {o : Nat} (h : gAt LC o 0 3) : LC.2.2 o 1 = some (o + 2) := (kT_1d o h.1 h.2).2
theorem kT_2d : ∀ o, o < 328 → LC.2.1 o = (0, 3) → (o + 3 < 328 ∧ LC.2.1 (o + 3) = (1, 24)) ∧ LC.2.2 o 2 = some (o + 3) := by decide +kernel
theorem kT_2 {o : Nat} (h : gAt LC o 0 3) : gAt LC (o + 3) 1 24 := (kT_2d o h.1 h.2).1
theorem rT_2 {o : Nat} (h : gAt LC o 0 3) : LC.2.2 o 2 = some (o + 3) := (kT_2d o h.1 h.2).2
noncomputable def fX3_add (t0 : Nat) (x1 : Int32) (x2 : Int32) (x3 : Int32) (I : gI) : Option (gI) :=
  gi ((24 : Int32) ≤ (I t0 7))
 (some I)
 (gd (vp_in (I t0 7) 24) (lz (wI I (t0 + 1) ((I t0 7)).toNatClampNeg x1) (fun (I4 : gI) => gd (vp_in (I4 t0 7) 24) (lz (wI I4 (t0 + 2) ((I4 t0 7)).toNatClampNeg x2) (fun (I7 : gI) => gd (vp_in (I7 t0 7) 24) (lz (wI I7 (t0 + 3) ((I7 t0 7)).toNatClampNeg x3) (fun (I10 : gI) => lz (wI I10 t0 7 ((I10 t0 7) + (1 : Int32))) (fun (I11 : gI) => some I11))))))))
set_option maxHeartbeats 4000000 in
set_option maxRecDepth 100000 in
theorem kX3_add {l : Launch} {G : gG} {ad : Nat → Nat} (hok : gInj LC ad)  (t0 : Nat) (ht0 : gAt LC t0 0 3) (x1 : Int32) (x2 : Int32) (x3 : Int32) (I : gI) (J : gJ) (I' : gI) (h : fX3_add t0 x1 x2 x3 I = some I') : gMv l yX3_add cX3_add 4 none 1 G LC ad [.ref (ad t0), .int x1, .int x2, .int x3] I J I' J := by
  refine gMv_of (lst := [(0, .ref (ad t0)), (1, .int x1), (2, .int x2), (3, .int x3)]) (by decide) hok (Nat.le_of_ble_eq_true rfl) rfl ?_
  intro p e s m args below meth c Q ls K hW hl hfin
  have hn : (some I' : Option (gI)) ≠ none := Option.some_ne_none _
  have hx := K.1; have hb := K.2.1; have hown := K.2.2.2.1; have hts := K.2.2.2.2.1
  unfold fX3_add at h
  refine lv_aload_n hx hb dX3_add_0 rfl (lv_at hl 0 rfl) ?_
  refine g_get K hW (t := 0) (ci := 3) (k := 7) (v := .int (I t0 7)) ht0 rfl rfl i_X3 (by decide) q_325 rfl rfl dX3_add_1 ?_
  refine lv_bipush (v := (24 : Int32)) hx hb dX3_add_4 (by decide) ?_
  refine lv_icmp_ge (tgt := 49) hx hb dX3_add_6 (by decide) (fun c1 => ?_) (fun c1 => ?_)
  · replace h := gi_t h c1
    obtain a1 := so1 h
    replace hW := gWd_nI a1 hW
    exact hfin _ _ _ _ hW dX3_add_49
  · replace h := gi_f h c1
    refine lv_aload_n hx hb dX3_add_9 rfl (lv_at hl 0 rfl) ?_
    refine g_get K hW (t := 2) (ci := 3) (k := 0) (v := .ref (ad (t0 + 1))) ht0 rfl rfl i_X3 (by decide) q_309 rfl (gfv2 (rT_0 ht0)) dX3_add_10 ?_
    refine lv_aload_n hx hb dX3_add_13 rfl (lv_at hl 0 rfl) ?_
    refine g_get K hW (t := 0) (ci := 3) (k := 7) (v := .int (I t0 7)) ht0 rfl rfl i_X3 (by decide) q_325 rfl rfl dX3_add_14 ?_
    refine lv_iload_n hx hb dX3_add_17 rfl (lv_at hl 1 rfl) ?_
    obtain ⟨g2, h⟩ := gd_o h hn
    refine g_iast K hW (kT_0 ht0) g2 rfl dX3_add_18 (fun H locs hW => ?_)
    obtain ⟨I4, e3, h⟩ := lz_o h
    replace hW := gWd_nI e3 hW
    refine lv_aload_n hx hb dX3_add_19 rfl (lv_at hl 0 rfl) ?_
    refine g_get K hW (t := 2) (ci := 3) (k := 1) (v := .ref (ad (t0 + 2))) ht0 rfl rfl i_X3 (by decide) q_311 rfl (gfv2 (rT_1 ht0)) dX3_add_20 ?_
    refine lv_aload_n hx hb dX3_add_23 rfl (lv_at hl 0 rfl) ?_
    refine g_get K hW (t := 0) (ci := 3) (k := 7) (v := .int (I4 t0 7)) ht0 rfl rfl i_X3 (by decide) q_325 rfl rfl dX3_add_24 ?_
    refine lv_iload_n hx hb dX3_add_27 rfl (lv_at hl 2 rfl) ?_
    obtain ⟨g5, h⟩ := gd_o h hn
    refine g_iast K hW (kT_1 ht0) g5 rfl dX3_add_28 (fun H locs hW => ?_)
    obtain ⟨I7, e6, h⟩ := lz_o h
    replace hW := gWd_nI e6 hW
    refine lv_aload_n hx hb dX3_add_29 rfl (lv_at hl 0 rfl) ?_
    refine g_get K hW (t := 2) (ci := 3) (k := 2) (v := .ref (ad (t0 + 3))) ht0 rfl rfl i_X3 (by decide) q_313 rfl (gfv2 (rT_2 ht0)) dX3_add_30 ?_
    refine lv_aload_n hx hb dX3_add_33 rfl (lv_at hl 0 rfl) ?_
    refine g_get K hW (t := 0) (ci := 3) (k := 7) (v := .int (I7 t0 7)) ht0 rfl rfl i_X3 (by decide) q_325 rfl rfl dX3_add_34 ?_
    refine lv_iload_n hx hb dX3_add_37 rfl (lv_at hl 3 rfl) ?_
    obtain ⟨g8, h⟩ := gd_o h hn
    refine g_iast K hW (kT_2 ht0) g8 rfl dX3_add_38 (fun H locs hW => ?_)
    obtain ⟨I10, e9, h⟩ := lz_o h
    replace hW := gWd_nI e9 hW
    refine lv_aload_n hx hb dX3_add_39 rfl (lv_at hl 0 rfl) ?_
    refine lv_dup hx hb dX3_add_40 rfl ?_
    refine g_get K hW (t := 0) (ci := 3) (k := 7) (v := .int (I10 t0 7)) ht0 rfl rfl i_X3 (by decide) q_325 rfl rfl dX3_add_41 ?_
    refine lv_iconst (v := (1 : Int32)) hx hb dX3_add_44 (by decide) ?_
    refine lv_iadd hx hb dX3_add_45 ?_
    refine g_putI K hW (ci := 3) (k := 7) ht0 rfl rfl i_X3 tyX3_ok nmX3 (by decide) q_325 rfl rfl rfl rfl dX3_add_46 (fun H locs hW => ?_)
    obtain ⟨I11, e12, h⟩ := lz_o h
    replace hW := gWd_nI e12 hW
    obtain a1 := so1 h
    replace hW := gWd_nI a1 hW
    exact hfin _ _ _ _ hW dX3_add_49
theorem nm_X1_number : gNm yX1_number 2 := by decide +kernel
theorem nm_X1_takes : gNm yX1_takes 1 := by decide +kernel
theorem nm_X3_add : gNm yX3_add 3 := by decide +kernel
noncomputable def fX1_oneNumber  (x1 : Int32) (x2 : Int32) (x3 : Int32) (I : gI) : Option (Int32 × gI) :=
  bd (fX1_number x2 x3 I) (pr (fun (u1 : Int32) (I2 : gI) => gi (u1 = (-1 : Int32))
 (some ((0 : Int32), I2))
 (bd (fX1_takes (37 : Int32) I2) (pr (fun (u6 : Int32) (I7 : gI) => gi (u6 = 0)
 (some ((0 : Int32), I7))
 (gd (gAt LC (I7 275 6).toNatClampNeg 0 3) (bd (fX3_add ((I7 275 6).toNatClampNeg) x1 u1 (0 : Int32) I7) (fun (I12 : gI) => some ((1 : Int32), I12)))))))))
set_option maxHeartbeats 4000000 in
set_option maxRecDepth 100000 in
theorem kX1_oneNumber {l : Launch} {G : gG} {ad : Nat → Nat} (hok : gInj LC ad)    (x1 : Int32) (x2 : Int32) (x3 : Int32) (I : gI) (J : gJ) (r : Int32) (I' : gI) (h : fX1_oneNumber x1 x2 x3 I = some (r, I')) : gMi l yX1_oneNumber cX1_oneNumber 5 (some .boolean) 3 G LC ad [.ref (ad 275), .int x1, .int x2, .int x3] I J r (r = 0 ∨ r = 1) I' J := by
  refine gMz_of (lst := [(0, .ref (ad 275)), (1, .int x1), (2, .int x2), (3, .int x3)]) (by decide) hok (Nat.le_of_ble_eq_true rfl) rfl ?_
  intro p e s m args below meth c Q ls K hW hl hfin
  have hn : (some (r, I') : Option (Int32 × gI)) ≠ none := Option.some_ne_none _
  have hx := K.1; have hb := K.2.1; have hown := K.2.2.2.1; have hts := K.2.2.2.2.1
  unfold fX1_oneNumber at h
  refine lv_aload_n hx hb dX1_oneNumber_0 rfl (lv_at hl 0 rfl) ?_
  refine lv_iload_n hx hb dX1_oneNumber_1 rfl (lv_at hl 2 rfl) ?_
  refine lv_iload_n hx hb dX1_oneNumber_2 rfl (lv_at hl 3 rfl) ?_
  obtain ⟨⟨u1, I2⟩, e3, h⟩ := bd_o h hn
  replace h := pr_o h
  refine g_callVi (rest := []) K hW hl (kX1_number (l := l) (G := G) (ad := ad) hok x2 x3 I J u1 I2 e3) kLC_275 rfl (gG_V q_599 q_601 q_12 q_136 q_602) nm_X1_number ⟨Nat.le_of_ble_eq_true rfl, Nat.le_of_ble_eq_true rfl⟩ rfl rfl (Nat.le_of_ble_eq_true rfl) ⟨Nat.zero_le _, Nat.zero_le _⟩ dX1_oneNumber_3 (fun z4 H locs hW => ?_)
  refine lv_istore (lv' := [(4, .int u1), (0, .ref (ad 275)), (1, .int x1), (2, .int x2), (3, .int x3)]) hx hb dX1_oneNumber_6 hl (by decide) rfl (fun ls hl => ?_)
  refine lv_iload hx hb dX1_oneNumber_8 (lv_at hl 0 rfl) ?_
  refine lv_iconst (v := (-1 : Int32)) hx hb dX1_oneNumber_10 (by decide) ?_
  refine lv_icmp_eq (tgt := 23) hx hb dX1_oneNumber_11 (by decide) (fun c5 => ?_) (fun c5 => ?_)
  · replace h := gi_t h c5
    refine lv_iconst (v := (0 : Int32)) hx hb dX1_oneNumber_23 (by decide) ?_
    obtain ⟨a1, a2⟩ := so2 h
    replace hW := gWd_nI a2 hW
    exact g_nmi a1 (hfin _ _ _ _ (a1 ▸ (Or.inl rfl)) hW dX1_oneNumber_24)
  · replace h := gi_f h c5
    refine lv_aload_n hx hb dX1_oneNumber_14 rfl (lv_at hl 1 rfl) ?_
    refine lv_bipush (v := (37 : Int32)) hx hb dX1_oneNumber_15 (by decide) ?_
    obtain ⟨⟨u6, I7⟩, e8, h⟩ := bd_o h hn
    replace h := pr_o h
    refine g_callVi (rest := []) K hW hl (kX1_takes (l := l) (G := G) (ad := ad) hok (37 : Int32) I2 J u6 I7 e8) kLC_275 rfl (gG_V q_616 q_618 q_15 q_136 q_619) nm_X1_takes ⟨Nat.le_of_ble_eq_true rfl, Nat.le_of_ble_eq_true rfl⟩ rfl rfl (Nat.le_of_ble_eq_true rfl) ⟨Nat.zero_le _, Nat.zero_le _⟩ dX1_oneNumber_17 (fun z9 H locs hW => ?_)
    refine lv_if_ne (tgt := 25) hx hb dX1_oneNumber_20 (by decide) (fun c10 => ?_) (fun c10 => ?_)
    · replace h := gi_f h c10
      refine lv_aload_n hx hb dX1_oneNumber_25 rfl (lv_at hl 1 rfl) ?_
      obtain ⟨g11, h⟩ := gd_o h hn
      refine g_get K hW (t := 3) (ci := 1) (k := 6) (v := .ref (ad ((I7 275 6).toNatClampNeg))) kLC_275 rfl rfl i_X1 (by decide) q_356 rfl (gfv3 rLC_275_6) dX1_oneNumber_26 ?_
      refine lv_iload_n hx hb dX1_oneNumber_29 rfl (lv_at hl 2 rfl) ?_
      refine lv_iload hx hb dX1_oneNumber_30 (lv_at hl 0 rfl) ?_
      refine lv_iconst (v := (0 : Int32)) hx hb dX1_oneNumber_32 (by decide) ?_
      obtain ⟨I12, e13, h⟩ := bd_o h hn
      refine g_callVv (rest := []) K hW hl (kX3_add (l := l) (G := G) (ad := ad) hok ((I7 275 6).toNatClampNeg) g11 x1 u1 (0 : Int32) I7 J I12 e13) g11 rfl (gG_V q_647 q_648 q_649 q_137 q_650) nm_X3_add ⟨Nat.le_of_ble_eq_true rfl, Nat.le_of_ble_eq_true rfl⟩ rfl rfl (Nat.le_of_ble_eq_true rfl) ⟨Nat.zero_le _, Nat.zero_le _⟩ dX1_oneNumber_33 (fun H locs hW => ?_)
      refine lv_iconst (v := (1 : Int32)) hx hb dX1_oneNumber_36 (by decide) ?_
      obtain ⟨a1, a2⟩ := so2 h
      replace hW := gWd_nI a2 hW
      exact g_nmi a1 (hfin _ _ _ _ (a1 ▸ (Or.inr rfl)) hW dX1_oneNumber_37)
    · replace h := gi_t h c10
      refine lv_iconst (v := (0 : Int32)) hx hb dX1_oneNumber_23 (by decide) ?_
      obtain ⟨a1, a2⟩ := so2 h
      replace hW := gWd_nI a2 hW
      exact g_nmi a1 (hfin _ _ _ _ (a1 ▸ (Or.inl rfl)) hW dX1_oneNumber_24)
noncomputable def fX1_twoNumbers  (x1 : Int32) (x2 : Int32) (x3 : Int32) (x4 : Int32) (I : gI) : Option (Int32 × gI) :=
  bd (fX1_number (0 : Int32) x2 I) (pr (fun (u1 : Int32) (I2 : gI) => gi (u1 = (-1 : Int32))
 (some ((0 : Int32), I2))
 (bd (fX1_takes x3 I2) (pr (fun (u6 : Int32) (I7 : gI) => gi (u6 = 0)
 (some ((0 : Int32), I7))
 (lz (fun (u11 : Int32) => bd (fX1_number u11 x4 I7) (pr (fun (u15 : Int32) (I16 : gI) => gi (u15 = (-1 : Int32))
 (some ((0 : Int32), I16))
 (bd (fX1_takes (37 : Int32) I16) (pr (fun (u20 : Int32) (I21 : gI) => gi (u20 = 0)
 (some ((0 : Int32), I21))
 (gd (gAt LC (I21 275 6).toNatClampNeg 0 3) (bd (fX3_add ((I21 275 6).toNatClampNeg) x1 u1 u15 I21) (fun (I26 : gI) => some ((1 : Int32), I26)))))))))) (fun j12 => gi (x1 = (2 : Int32))
 (j12 u1)
 (j12 (0 : Int32)))))))))
set_option maxHeartbeats 4000000 in
set_option maxRecDepth 100000 in
theorem kX1_twoNumbers {l : Launch} {G : gG} {ad : Nat → Nat} (hok : gInj LC ad)    (x1 : Int32) (x2 : Int32) (x3 : Int32) (x4 : Int32) (I : gI) (J : gJ) (r : Int32) (I' : gI) (h : fX1_twoNumbers x1 x2 x3 x4 I = some (r, I')) : gMi l yX1_twoNumbers cX1_twoNumbers 7 (some .boolean) 3 G LC ad [.ref (ad 275), .int x1, .int x2, .int x3, .int x4] I J r (r = 0 ∨ r = 1) I' J := by
  refine gMz_of (lst := [(0, .ref (ad 275)), (1, .int x1), (2, .int x2), (3, .int x3), (4, .int x4)]) (by decide) hok (Nat.le_of_ble_eq_true rfl) rfl ?_
  intro p e s m args below meth c Q ls K hW hl hfin
  have hn : (some (r, I') : Option (Int32 × gI)) ≠ none := Option.some_ne_none _
  have hx := K.1; have hb := K.2.1; have hown := K.2.2.2.1; have hts := K.2.2.2.2.1
  unfold fX1_twoNumbers at h
  refine lv_aload_n hx hb dX1_twoNumbers_0 rfl (lv_at hl 0 rfl) ?_
  refine lv_iconst (v := (0 : Int32)) hx hb dX1_twoNumbers_1 (by decide) ?_
  refine lv_iload_n hx hb dX1_twoNumbers_2 rfl (lv_at hl 2 rfl) ?_
  obtain ⟨⟨u1, I2⟩, e3, h⟩ := bd_o h hn
  replace h := pr_o h
  refine g_callVi (rest := []) K hW hl (kX1_number (l := l) (G := G) (ad := ad) hok (0 : Int32) x2 I J u1 I2 e3) kLC_275 rfl (gG_V q_599 q_601 q_12 q_136 q_602) nm_X1_number ⟨Nat.le_of_ble_eq_true rfl, Nat.le_of_ble_eq_true rfl⟩ rfl rfl (Nat.le_of_ble_eq_true rfl) ⟨Nat.zero_le _, Nat.zero_le _⟩ dX1_twoNumbers_3 (fun z4 H locs hW => ?_)
  refine lv_istore (lv' := [(5, .int u1), (0, .ref (ad 275)), (1, .int x1), (2, .int x2), (3, .int x3), (4, .int x4)]) hx hb dX1_twoNumbers_6 hl (by decide) rfl (fun ls hl => ?_)
  refine lv_iload hx hb dX1_twoNumbers_8 (lv_at hl 0 rfl) ?_
  refine lv_iconst (v := (-1 : Int32)) hx hb dX1_twoNumbers_10 (by decide) ?_
  refine lv_icmp_eq (tgt := 22) hx hb dX1_twoNumbers_11 (by decide) (fun c5 => ?_) (fun c5 => ?_)
  · replace h := gi_t h c5
    refine lv_iconst (v := (0 : Int32)) hx hb dX1_twoNumbers_22 (by decide) ?_
    obtain ⟨a1, a2⟩ := so2 h
    replace hW := gWd_nI a2 hW
    exact g_nmi a1 (hfin _ _ _ _ (a1 ▸ (Or.inl rfl)) hW dX1_twoNumbers_23)
  · replace h := gi_f h c5
    refine lv_aload_n hx hb dX1_twoNumbers_14 rfl (lv_at hl 1 rfl) ?_
    refine lv_iload_n hx hb dX1_twoNumbers_15 rfl (lv_at hl 4 rfl) ?_
    obtain ⟨⟨u6, I7⟩, e8, h⟩ := bd_o h hn
    replace h := pr_o h
    refine g_callVi (rest := []) K hW hl (kX1_takes (l := l) (G := G) (ad := ad) hok x3 I2 J u6 I7 e8) kLC_275 rfl (gG_V q_616 q_618 q_15 q_136 q_619) nm_X1_takes ⟨Nat.le_of_ble_eq_true rfl, Nat.le_of_ble_eq_true rfl⟩ rfl rfl (Nat.le_of_ble_eq_true rfl) ⟨Nat.zero_le _, Nat.zero_le _⟩ dX1_twoNumbers_16 (fun z9 H locs hW => ?_)
    refine lv_if_ne (tgt := 24) hx hb dX1_twoNumbers_19 (by decide) (fun c10 => ?_) (fun c10 => ?_)
    · replace h := gi_f h c10
      refine lv_aload_n hx hb dX1_twoNumbers_24 rfl (lv_at hl 1 rfl) ?_
      refine lv_iload_n hx hb dX1_twoNumbers_25 rfl (lv_at hl 2 rfl) ?_
      refine lv_iconst (v := (2 : Int32)) hx hb dX1_twoNumbers_26 (by decide) ?_
      obtain ⟨j12, e13, h⟩ := lz_o h
      have hj14 : ∀ (u11 : Int32), j12 u11 = (some (r, I')) → ∀ (H : Heap) (locs : List Loc), gWd G LC ad (gA LC ad) s.heap I7 J H locs → ∀ (ls : Array Slot), lv_has ls 7 [(0, .ref (ad 275)), (1, .int x1), (4, .int x4), (5, .int u1)] → W p l e (gRm 3) s m args below meth c H locs 0 0 Q (F0 m 36 ls [.int u11, .ref (ad 275)]) := by
        intro u11 h H locs hW ls hl
        replace h := jn1 e13 h
        refine lv_iload hx hb dX1_twoNumbers_36 (lv_at hl 2 rfl) ?_
        obtain ⟨⟨u15, I16⟩, e17, h⟩ := bd_o h hn
        replace h := pr_o h
        refine g_callVi (rest := []) K hW hl (kX1_number (l := l) (G := G) (ad := ad) hok u11 x4 I7 J u15 I16 e17) kLC_275 rfl (gG_V q_599 q_601 q_12 q_136 q_602) nm_X1_number ⟨Nat.le_of_ble_eq_true rfl, Nat.le_of_ble_eq_true rfl⟩ rfl rfl (Nat.le_of_ble_eq_true rfl) ⟨Nat.zero_le _, Nat.zero_le _⟩ dX1_twoNumbers_38 (fun z18 H locs hW => ?_)
        refine lv_istore (lv' := [(6, .int u15), (0, .ref (ad 275)), (1, .int x1), (4, .int x4), (5, .int u1)]) hx hb dX1_twoNumbers_41 hl (by decide) rfl (fun ls hl => ?_)
        refine lv_iload hx hb dX1_twoNumbers_43 (lv_at hl 0 rfl) ?_
        refine lv_iconst (v := (-1 : Int32)) hx hb dX1_twoNumbers_45 (by decide) ?_
        refine lv_icmp_eq (tgt := 58) hx hb dX1_twoNumbers_46 (by decide) (fun c19 => ?_) (fun c19 => ?_)
        · replace h := gi_t h c19
          refine lv_iconst (v := (0 : Int32)) hx hb dX1_twoNumbers_58 (by decide) ?_
          obtain ⟨a1, a2⟩ := so2 h
          replace hW := gWd_nI a2 hW
          exact g_nmi a1 (hfin _ _ _ _ (a1 ▸ (Or.inl rfl)) hW dX1_twoNumbers_59)
        · replace h := gi_f h c19
          refine lv_aload_n hx hb dX1_twoNumbers_49 rfl (lv_at hl 1 rfl) ?_
          refine lv_bipush (v := (37 : Int32)) hx hb dX1_twoNumbers_50 (by decide) ?_
          obtain ⟨⟨u20, I21⟩, e22, h⟩ := bd_o h hn
          replace h := pr_o h
          refine g_callVi (rest := []) K hW hl (kX1_takes (l := l) (G := G) (ad := ad) hok (37 : Int32) I16 J u20 I21 e22) kLC_275 rfl (gG_V q_616 q_618 q_15 q_136 q_619) nm_X1_takes ⟨Nat.le_of_ble_eq_true rfl, Nat.le_of_ble_eq_true rfl⟩ rfl rfl (Nat.le_of_ble_eq_true rfl) ⟨Nat.zero_le _, Nat.zero_le _⟩ dX1_twoNumbers_52 (fun z23 H locs hW => ?_)
          refine lv_if_ne (tgt := 60) hx hb dX1_twoNumbers_55 (by decide) (fun c24 => ?_) (fun c24 => ?_)
          · replace h := gi_f h c24
            refine lv_aload_n hx hb dX1_twoNumbers_60 rfl (lv_at hl 1 rfl) ?_
            obtain ⟨g25, h⟩ := gd_o h hn
            refine g_get K hW (t := 3) (ci := 1) (k := 6) (v := .ref (ad ((I21 275 6).toNatClampNeg))) kLC_275 rfl rfl i_X1 (by decide) q_356 rfl (gfv3 rLC_275_6) dX1_twoNumbers_61 ?_
            refine lv_iload_n hx hb dX1_twoNumbers_64 rfl (lv_at hl 2 rfl) ?_
            refine lv_iload hx hb dX1_twoNumbers_65 (lv_at hl 4 rfl) ?_
            refine lv_iload hx hb dX1_twoNumbers_67 (lv_at hl 0 rfl) ?_
            obtain ⟨I26, e27, h⟩ := bd_o h hn
            refine g_callVv (rest := []) K hW hl (kX3_add (l := l) (G := G) (ad := ad) hok ((I21 275 6).toNatClampNeg) g25 x1 u1 u15 I21 J I26 e27) g25 rfl (gG_V q_647 q_648 q_649 q_137 q_650) nm_X3_add ⟨Nat.le_of_ble_eq_true rfl, Nat.le_of_ble_eq_true rfl⟩ rfl rfl (Nat.le_of_ble_eq_true rfl) ⟨Nat.zero_le _, Nat.zero_le _⟩ dX1_twoNumbers_69 (fun H locs hW => ?_)
            refine lv_iconst (v := (1 : Int32)) hx hb dX1_twoNumbers_72 (by decide) ?_
            obtain ⟨a1, a2⟩ := so2 h
            replace hW := gWd_nI a2 hW
            exact g_nmi a1 (hfin _ _ _ _ (a1 ▸ (Or.inr rfl)) hW dX1_twoNumbers_73)
          · replace h := gi_t h c24
            refine lv_iconst (v := (0 : Int32)) hx hb dX1_twoNumbers_58 (by decide) ?_
            obtain ⟨a1, a2⟩ := so2 h
            replace hW := gWd_nI a2 hW
            exact g_nmi a1 (hfin _ _ _ _ (a1 ▸ (Or.inl rfl)) hW dX1_twoNumbers_59)
      refine lv_icmp_ne (tgt := 35) hx hb dX1_twoNumbers_27 (by decide) (fun c29 => ?_) (fun c29 => ?_)
      · replace h := gi_f h c29
        refine lv_iconst (v := (0 : Int32)) hx hb dX1_twoNumbers_35 (by decide) ?_
        exact hj14 (0 : Int32) h _ _ hW _ (lv_sub hl [1, 2, 5, 0] rfl)
      · replace h := gi_t h c29
        refine lv_iload hx hb dX1_twoNumbers_30 (lv_at hl 0 rfl) ?_
        refine lv_goto (tgt := 36) hx hb dX1_twoNumbers_32 (by decide) ?_
        exact hj14 u1 h _ _ hW _ (lv_sub hl [1, 2, 5, 0] rfl)
    · replace h := gi_t h c10
      refine lv_iconst (v := (0 : Int32)) hx hb dX1_twoNumbers_22 (by decide) ?_
      obtain ⟨a1, a2⟩ := so2 h
      replace hW := gWd_nI a2 hW
      exact g_nmi a1 (hfin _ _ _ _ (a1 ▸ (Or.inl rfl)) hW dX1_twoNumbers_23)
theorem kT_6d : ∀ o, o < 328 → LC.2.1 o = (0, 3) → (o + 7 < 328 ∧ LC.2.1 (o + 7) = (1, 2)) ∧ LC.2.2 o 6 = some (o + 7) := by decide +kernel
theorem kT_6 {o : Nat} (h : gAt LC o 0 3) : gAt LC (o + 7) 1 2 := (kT_6d o h.1 h.2).1
theorem rT_6 {o : Nat} (h : gAt LC o 0 3) : LC.2.2 o 6 = some (o + 7) := (kT_6d o h.1 h.2).2
theorem kT_5d : ∀ o, o < 328 → LC.2.1 o = (0, 3) → (o + 6 < 328 ∧ LC.2.1 (o + 6) = (1, 2)) ∧ LC.2.2 o 5 = some (o + 6) := by decide +kernel
theorem kT_5 {o : Nat} (h : gAt LC o 0 3) : gAt LC (o + 6) 1 2 := (kT_5d o h.1 h.2).1
theorem rT_5 {o : Nat} (h : gAt LC o 0 3) : LC.2.2 o 5 = some (o + 6) := (kT_5d o h.1 h.2).2
noncomputable def fX3_rules (t0 : Nat) (x1 : Int32) (I : gI) : Option (Int32) :=
  gd (vp_in x1 2) (gi ((I (t0 + 7) (x1).toNatClampNeg) ≤ (I (t0 + 6) (x1).toNatClampNeg))
 (some (0 : Int32))
 (some (1 : Int32)))
set_option maxHeartbeats 4000000 in
set_option maxRecDepth 100000 in
theorem kX3_rules {l : Launch} {G : gG} {ad : Nat → Nat} (hok : gInj LC ad)  (t0 : Nat) (ht0 : gAt LC t0 0 3) (x1 : Int32) (I : gI) (J : gJ) (r : Int32) (h : fX3_rules t0 x1 I = some r) : gMi l yX3_rules cX3_rules 2 (some .boolean) 1 G LC ad [.ref (ad t0), .int x1] I J r (r = 0 ∨ r = 1) I J := by
  refine gMz_of (lst := [(0, .ref (ad t0)), (1, .int x1)]) (by decide) hok (Nat.le_of_ble_eq_true rfl) rfl ?_
  intro p e s m args below meth c Q ls K hW hl hfin
  have hn : (some r : Option (Int32)) ≠ none := Option.some_ne_none _
  have hx := K.1; have hb := K.2.1; have hown := K.2.2.2.1; have hts := K.2.2.2.2.1
  unfold fX3_rules at h
  refine lv_aload_n hx hb dX3_rules_0 rfl (lv_at hl 0 rfl) ?_
  refine g_get K hW (t := 2) (ci := 3) (k := 6) (v := .ref (ad (t0 + 7))) ht0 rfl rfl i_X3 (by decide) q_322 rfl (gfv2 (rT_6 ht0)) dX3_rules_1 ?_
  refine lv_iload_n hx hb dX3_rules_4 rfl (lv_at hl 1 rfl) ?_
  obtain ⟨g1, h⟩ := gd_o h hn
  refine g_iald K hW (kT_6 ht0) g1 rfl dX3_rules_5 ?_
  refine lv_aload_n hx hb dX3_rules_6 rfl (lv_at hl 0 rfl) ?_
  refine g_get K hW (t := 2) (ci := 3) (k := 5) (v := .ref (ad (t0 + 6))) ht0 rfl rfl i_X3 (by decide) q_319 rfl (gfv2 (rT_5 ht0)) dX3_rules_7 ?_
  refine lv_iload_n hx hb dX3_rules_10 rfl (lv_at hl 1 rfl) ?_
  refine g_iald K hW (kT_5 ht0) g1 rfl dX3_rules_11 ?_
  refine lv_icmp_le (tgt := 19) hx hb dX3_rules_12 (by decide) (fun c2 => ?_) (fun c2 => ?_)
  · replace h := gi_t h c2
    refine lv_iconst (v := (0 : Int32)) hx hb dX3_rules_19 (by decide) ?_
    obtain a1 := so1 h
    exact g_nmi a1 (hfin _ _ _ _ (a1 ▸ (Or.inl rfl)) hW dX3_rules_20)
  · replace h := gi_f h c2
    refine lv_iconst (v := (1 : Int32)) hx hb dX3_rules_15 (by decide) ?_
    refine lv_goto (tgt := 20) hx hb dX3_rules_16 (by decide) ?_
    obtain a1 := so1 h
    exact g_nmi a1 (hfin _ _ _ _ (a1 ▸ (Or.inr rfl)) hW dX3_rules_20)
noncomputable def fX1_put  (x1 : Int32) (x2 : Int32) (x3 : Int32) (I : gI) : Option (gI) :=
  gi ((300 : Int32) < (I 275 3))
 (some I)
 (gd (vp_in (I 275 3) 301) (lz (wI I 276 ((I 275 3)).toNatClampNeg x1) (fun (I4 : gI) => gd (vp_in (I4 275 3) 301) (lz (wI I4 277 ((I4 275 3)).toNatClampNeg x2) (fun (I7 : gI) => gd (vp_in (I7 275 3) 301) (lz (wI I7 278 ((I7 275 3)).toNatClampNeg x3) (fun (I10 : gI) => lz (wI I10 275 3 ((I10 275 3) + (1 : Int32))) (fun (I11 : gI) => some I11))))))))
set_option maxHeartbeats 4000000 in
set_option maxRecDepth 100000 in
theorem kX1_put {l : Launch} {G : gG} {ad : Nat → Nat} (hok : gInj LC ad)    (x1 : Int32) (x2 : Int32) (x3 : Int32) (I : gI) (J : gJ) (I' : gI) (h : fX1_put x1 x2 x3 I = some I') : gMv l yX1_put cX1_put 4 none 1 G LC ad [.ref (ad 275), .int x1, .int x2, .int x3] I J I' J := by
  refine gMv_of (lst := [(0, .ref (ad 275)), (1, .int x1), (2, .int x2), (3, .int x3)]) (by decide) hok (Nat.le_of_ble_eq_true rfl) rfl ?_
  intro p e s m args below meth c Q ls K hW hl hfin
  have hn : (some I' : Option (gI)) ≠ none := Option.some_ne_none _
  have hx := K.1; have hb := K.2.1; have hown := K.2.2.2.1; have hts := K.2.2.2.2.1
  unfold fX1_put at h
  refine lv_aload_n hx hb dX1_put_0 rfl (lv_at hl 0 rfl) ?_
  refine g_get K hW (t := 0) (ci := 1) (k := 3) (v := .int (I 275 3)) kLC_275 rfl rfl i_X1 (by decide) q_353 rfl rfl dX1_put_1 ?_
  refine lv_sipush (v := (300 : Int32)) hx hb dX1_put_4 (by decide) ?_
  refine lv_icmp_gt (tgt := 50) hx hb dX1_put_7 (by decide) (fun c1 => ?_) (fun c1 => ?_)
  · replace h := gi_t h c1
    obtain a1 := so1 h
    replace hW := gWd_nI a1 hW
    exact hfin _ _ _ _ hW dX1_put_50
  · replace h := gi_f h c1
    refine lv_aload_n hx hb dX1_put_10 rfl (lv_at hl 0 rfl) ?_
    refine g_get K hW (t := 2) (ci := 1) (k := 0) (v := .ref (ad 276)) kLC_275 rfl rfl i_X1 (by decide) q_350 rfl (gfv2 rLC_275_0) dX1_put_11 ?_
    refine lv_aload_n hx hb dX1_put_14 rfl (lv_at hl 0 rfl) ?_
    refine g_get K hW (t := 0) (ci := 1) (k := 3) (v := .int (I 275 3)) kLC_275 rfl rfl i_X1 (by decide) q_353 rfl rfl dX1_put_15 ?_
    refine lv_iload_n hx hb dX1_put_18 rfl (lv_at hl 1 rfl) ?_
    obtain ⟨g2, h⟩ := gd_o h hn
    refine g_iast K hW kLC_276 g2 rfl dX1_put_19 (fun H locs hW => ?_)
    obtain ⟨I4, e3, h⟩ := lz_o h
    replace hW := gWd_nI e3 hW
    refine lv_aload_n hx hb dX1_put_20 rfl (lv_at hl 0 rfl) ?_
    refine g_get K hW (t := 2) (ci := 1) (k := 1) (v := .ref (ad 277)) kLC_275 rfl rfl i_X1 (by decide) q_351 rfl (gfv2 rLC_275_1) dX1_put_21 ?_
    refine lv_aload_n hx hb dX1_put_24 rfl (lv_at hl 0 rfl) ?_
    refine g_get K hW (t := 0) (ci := 1) (k := 3) (v := .int (I4 275 3)) kLC_275 rfl rfl i_X1 (by decide) q_353 rfl rfl dX1_put_25 ?_
    refine lv_iload_n hx hb dX1_put_28 rfl (lv_at hl 2 rfl) ?_
    obtain ⟨g5, h⟩ := gd_o h hn
    refine g_iast K hW kLC_277 g5 rfl dX1_put_29 (fun H locs hW => ?_)
    obtain ⟨I7, e6, h⟩ := lz_o h
    replace hW := gWd_nI e6 hW
    refine lv_aload_n hx hb dX1_put_30 rfl (lv_at hl 0 rfl) ?_
    refine g_get K hW (t := 2) (ci := 1) (k := 2) (v := .ref (ad 278)) kLC_275 rfl rfl i_X1 (by decide) q_352 rfl (gfv2 rLC_275_2) dX1_put_31 ?_
    refine lv_aload_n hx hb dX1_put_34 rfl (lv_at hl 0 rfl) ?_
    refine g_get K hW (t := 0) (ci := 1) (k := 3) (v := .int (I7 275 3)) kLC_275 rfl rfl i_X1 (by decide) q_353 rfl rfl dX1_put_35 ?_
    refine lv_iload_n hx hb dX1_put_38 rfl (lv_at hl 3 rfl) ?_
    obtain ⟨g8, h⟩ := gd_o h hn
    refine g_iast K hW kLC_278 g8 rfl dX1_put_39 (fun H locs hW => ?_)
    obtain ⟨I10, e9, h⟩ := lz_o h
    replace hW := gWd_nI e9 hW
    refine lv_aload_n hx hb dX1_put_40 rfl (lv_at hl 0 rfl) ?_
    refine lv_dup hx hb dX1_put_41 rfl ?_
    refine g_get K hW (t := 0) (ci := 1) (k := 3) (v := .int (I10 275 3)) kLC_275 rfl rfl i_X1 (by decide) q_353 rfl rfl dX1_put_42 ?_
    refine lv_iconst (v := (1 : Int32)) hx hb dX1_put_45 (by decide) ?_
    refine lv_iadd hx hb dX1_put_46 ?_
    refine g_putI K hW (ci := 1) (k := 3) kLC_275 rfl rfl i_X1 tyX1_ok nmX1 (by decide) q_353 rfl rfl rfl rfl dX1_put_47 (fun H locs hW => ?_)
    obtain ⟨I11, e12, h⟩ := lz_o h
    replace hW := gWd_nI e12 hW
    obtain a1 := so1 h
    replace hW := gWd_nI a1 hW
    exact hfin _ _ _ _ hW dX1_put_50
noncomputable def fX4_isDigit  (x0 : Int32)  : Int32 :=
  gi (x0 < (48 : Int32))
 ((0 : Int32))
 (gi ((57 : Int32) < x0)
 ((0 : Int32))
 ((1 : Int32)))
set_option maxHeartbeats 4000000 in
set_option maxRecDepth 100000 in
theorem kX4_isDigit {l : Launch} {G : gG} {ad : Nat → Nat} (hok : gInj LC ad)    (x0 : Int32) (I : gI) (J : gJ) (r : Int32) (h : fX4_isDigit x0 = r) : gMi l yX4_isDigit cX4_isDigit 1 (some .boolean) 1 G LC ad [.int x0] I J r (r = 0 ∨ r = 1) I J := by
  refine gMz_of (lst := [(0, .int x0)]) (by decide) hok (Nat.le_of_ble_eq_true rfl) rfl ?_
  intro p e s m args below meth c Q ls K hW hl hfin
  have hx := K.1; have hb := K.2.1; have hown := K.2.2.2.1; have hts := K.2.2.2.2.1
  unfold fX4_isDigit at h
  refine lv_iload_n hx hb dX4_isDigit_0 rfl (lv_at hl 0 rfl) ?_
  refine lv_bipush (v := (48 : Int32)) hx hb dX4_isDigit_1 (by decide) ?_
  refine lv_icmp_lt (tgt := 16) hx hb dX4_isDigit_3 (by decide) (fun c1 => ?_) (fun c1 => ?_)
  · replace h := gi_t h c1
    refine lv_iconst (v := (0 : Int32)) hx hb dX4_isDigit_16 (by decide) ?_
    obtain a1 := h.symm
    exact g_nmi a1 (hfin _ _ _ _ (a1 ▸ (Or.inl rfl)) hW dX4_isDigit_17)
  · replace h := gi_f h c1
    refine lv_iload_n hx hb dX4_isDigit_6 rfl (lv_at hl 0 rfl) ?_
    refine lv_bipush (v := (57 : Int32)) hx hb dX4_isDigit_7 (by decide) ?_
    refine lv_icmp_gt (tgt := 16) hx hb dX4_isDigit_9 (by decide) (fun c2 => ?_) (fun c2 => ?_)
    · replace h := gi_t h c2
      refine lv_iconst (v := (0 : Int32)) hx hb dX4_isDigit_16 (by decide) ?_
      obtain a1 := h.symm
      exact g_nmi a1 (hfin _ _ _ _ (a1 ▸ (Or.inl rfl)) hW dX4_isDigit_17)
    · replace h := gi_f h c2
      refine lv_iconst (v := (1 : Int32)) hx hb dX4_isDigit_12 (by decide) ?_
      refine lv_goto (tgt := 17) hx hb dX4_isDigit_13 (by decide) ?_
      obtain a1 := h.symm
      exact g_nmi a1 (hfin _ _ _ _ (a1 ▸ (Or.inr rfl)) hW dX4_isDigit_17)
theorem kLC_274 : gAt LC 274 4 300 := ⟨by decide, by decide +kernel⟩
theorem nm_X4_isDigit : gNm yX4_isDigit 1 := by decide +kernel
theorem nm_X1_put : gNm yX1_put 3 := by decide +kernel
noncomputable def fX1_splitNumber_6b  (rec : Int32 → Int32 → Int32 → Int32 → gI → Option ((Int32 × Int32))) (u1 : Int32) (u2 : Int32) (u3 : Int32) (u4 : Int32) (I : gI) : Option ((Int32 × Int32)) :=
  gi (u2 ≤ u4)
 (some (u3, u4))
 (gd (vp_in u4 300) (gi ((fX4_isDigit (I 274 (u4).toNatClampNeg)) = 0)
 (some (u3, u4))
 (lz ((jmin (10000 : Int32) ((u3 * (10 : Int32)) + ((I 274 (u4).toNatClampNeg) - (48 : Int32))))) (fun (u11 : Int32) => lz ((u4 + (1 : Int32))) (fun (u13 : Int32) => rec u1 u2 u11 u13 I)))))
noncomputable def fX1_splitNumber_6  : Nat → Int32 → Int32 → Int32 → Int32 → gI → Option ((Int32 × Int32))
  | 0 => fun _ _ _ _ _ => none
  | n + 1 => fX1_splitNumber_6b  (fX1_splitNumber_6  n)
set_option maxHeartbeats 4000000 in
set_option maxRecDepth 100000 in
theorem tX1_splitNumber_6 {l : Launch} {G : gG} {ad : Nat → Nat} {p : Program} {e : Env} {s : State} {m : MethodId} {args : Array Value} {below : List Frame} {meth : Method} {c : Code} {Q : State → Prop} (hok : gInj LC ad) (K : gCx G (gA LC ad) p s m args c cX1_splitNumber 6 RX1)  : ∀ (n : Nat) (u1 : Int32) (u2 : Int32) (u3 : Int32) (u4 : Int32) (I : gI) (J : gJ) (out : Option ((Int32 × Int32))), fX1_splitNumber_6  n u1 u2 u3 u4 I = out → out ≠ none → ∀ (H : Heap) (locs : List Loc), gWd G LC ad (gA LC ad) s.heap I J H locs → ∀ (ls : Array Slot), lv_has ls 6 [(0, .ref (ad 275)), (1, .ref (ad 274)), (2, .int u1), (3, .int u2), (4, .int u3), (5, .int u4)] → (∀ (y5 : Int32) (y6 : Int32), some (y5, y6) = out → ∀ (H : Heap) (locs : List Loc), gWd G LC ad (gA LC ad) s.heap I J H locs → ∀ (ls : Array Slot), lv_has ls 6 [(0, .ref (ad 275)), (2, .int u1), (4, .int y5), (5, .int y6)] → W p l e (gRm 2) s m args below meth c H locs 0 0 Q (F0 m 49 ls [])) → W p l e (gRm 2) s m args below meth c H locs 0 0 Q (F0 m 6 ls []) := by
  have hx := K.1; have hb := K.2.1; have hown := K.2.2.2.1; have hts := K.2.2.2.2.1
  intro n
  induction n with
  | zero => intro u1 u2 u3 u4 I J out h hn; exact absurd h.symm hn
  | succ n ih =>
    intro u1 u2 u3 u4 I J out h hn H locs hW ls hl hx1
    replace h : fX1_splitNumber_6b  (fX1_splitNumber_6  n) u1 u2 u3 u4 I = out := h
    unfold fX1_splitNumber_6b at h
    refine lv_iload hx hb dX1_splitNumber_6 (lv_at hl 5 rfl) ?_
    refine lv_iload_n hx hb dX1_splitNumber_8 rfl (lv_at hl 3 rfl) ?_
    refine lv_icmp_ge (tgt := 49) hx hb dX1_splitNumber_9 (by decide) (fun c7 => ?_) (fun c7 => ?_)
    · replace h := gi_t h c7
      exact hx1 u3 u4 h _ _ hW _ (lv_sub hl [0, 2, 4, 5] rfl)
    · replace h := gi_f h c7
      refine lv_aload_n hx hb dX1_splitNumber_12 rfl (lv_at hl 1 rfl) ?_
      refine lv_iload hx hb dX1_splitNumber_13 (lv_at hl 5 rfl) ?_
      obtain ⟨g8, h⟩ := gd_o h hn
      refine g_cald K hW kLC_274 g8 rfl dX1_splitNumber_15 ?_
      refine g_callSi (rest := []) K hW hl (kX4_isDigit (l := l) (G := G) (ad := ad) hok (I 274 (u4).toNatClampNeg) I J (fX4_isDigit (I 274 (u4).toNatClampNeg)) rfl) q_558 q_559 q_140 q_560 nm_X4_isDigit ⟨Nat.le_of_ble_eq_true rfl, Nat.le_of_ble_eq_true rfl⟩ rfl rfl (Nat.le_of_ble_eq_true rfl) ⟨Nat.zero_le _, Nat.zero_le _⟩ dX1_splitNumber_16 (fun z9 H locs hW => ?_)
      refine lv_if_eq (tgt := 49) hx hb dX1_splitNumber_19 (by decide) (fun c10 => ?_) (fun c10 => ?_)
      · replace h := gi_t h c10
        exact hx1 u3 u4 h _ _ hW _ (lv_sub hl [0, 2, 4, 5] rfl)
      · replace h := gi_f h c10
        refine lv_sipush (v := (10000 : Int32)) hx hb dX1_splitNumber_22 (by decide) ?_
        refine lv_iload hx hb dX1_splitNumber_25 (lv_at hl 4 rfl) ?_
        refine lv_bipush (v := (10 : Int32)) hx hb dX1_splitNumber_27 (by decide) ?_
        refine lv_imul hx hb dX1_splitNumber_29 ?_
        refine lv_aload_n hx hb dX1_splitNumber_30 rfl (lv_at hl 1 rfl) ?_
        refine lv_iload hx hb dX1_splitNumber_31 (lv_at hl 5 rfl) ?_
        refine g_cald K hW kLC_274 g8 rfl dX1_splitNumber_33 ?_
        refine lv_bipush (v := (48 : Int32)) hx hb dX1_splitNumber_34 (by decide) ?_
        refine lv_isub hx hb dX1_splitNumber_36 ?_
        refine lv_iadd hx hb dX1_splitNumber_37 ?_
        refine g_min K hl q_565 (by decide) (Nat.le_of_ble_eq_true rfl) ⟨Nat.zero_le _, Nat.zero_le _⟩ dX1_splitNumber_38 ?_
        obtain ⟨u11, e12, h⟩ := lz_o h
        refine g_nmi e12 ?_
        refine lv_istore (lv' := [(4, .int u11), (0, .ref (ad 275)), (1, .ref (ad 274)), (2, .int u1), (3, .int u2), (5, .int u4)]) hx hb dX1_splitNumber_41 hl (by decide) rfl (fun ls hl => ?_)
        obtain ⟨u13, e14, h⟩ := lz_o h
        refine lv_iinc (v := u13) (lv' := [(5, .int u13), (4, .int u11), (0, .ref (ad 275)), (1, .ref (ad 274)), (2, .int u1), (3, .int u2)]) hx hb dX1_splitNumber_43 hl (k := 5) rfl (by rw [e14]; rfl) (by decide) rfl (fun ls hl => ?_)
        refine lv_goto (tgt := 6) hx hb dX1_splitNumber_46 (by decide) ?_
        exact ih u1 u2 u11 u13 I J _ h hn _ _ hW _ (lv_sub hl [2, 3, 4, 5, 1, 0] rfl) hx1
noncomputable def fX1_splitNumber  (x2 : Int32) (x3 : Int32) (I : gI) : Option (Int32 × gI) :=
  bd (fX1_splitNumber_6 FU x2 x3 (0 : Int32) x2 I) (pr (fun (u17 : Int32) (u18 : Int32) => bd (fX1_put (24 : Int32) u17 x2 I) (fun (I20 : gI) => some (u18, I20))))
set_option maxHeartbeats 4000000 in
set_option maxRecDepth 100000 in
theorem kX1_splitNumber {l : Launch} {G : gG} {ad : Nat → Nat} (hok : gInj LC ad)    (x2 : Int32) (x3 : Int32) (I : gI) (J : gJ) (r : Int32) (I' : gI) (h : fX1_splitNumber x2 x3 I = some (r, I')) : gMi l yX1_splitNumber cX1_splitNumber 6 (some .int) 2 G LC ad [.ref (ad 275), .ref (ad 274), .int x2, .int x3] I J r True I' J := by
  refine gMi_of (lst := [(0, .ref (ad 275)), (1, .ref (ad 274)), (2, .int x2), (3, .int x3)]) (by decide) hok (Nat.le_of_ble_eq_true rfl) rfl ?_
  intro p e s m args below meth c Q ls K hW hl hfin
  have hn : (some (r, I') : Option (Int32 × gI)) ≠ none := Option.some_ne_none _
  have hx := K.1; have hb := K.2.1; have hown := K.2.2.2.1; have hts := K.2.2.2.2.1
  unfold fX1_splitNumber at h
  refine lv_iconst (v := (0 : Int32)) hx hb dX1_splitNumber_0 (by decide) ?_
  refine lv_istore (lv' := [(4, .int (0 : Int32)), (0, .ref (ad 275)), (1, .ref (ad 274)), (2, .int x2), (3, .int x3)]) hx hb dX1_splitNumber_1 hl (by decide) rfl (fun ls hl => ?_)
  refine lv_iload_n hx hb dX1_splitNumber_3 rfl (lv_at hl 3 rfl) ?_
  refine lv_istore (lv' := [(5, .int x2), (4, .int (0 : Int32)), (0, .ref (ad 275)), (1, .ref (ad 274)), (2, .int x2), (3, .int x3)]) hx hb dX1_splitNumber_4 hl (by decide) rfl (fun ls hl => ?_)
  obtain ⟨r15, e16, h⟩ := bd_o h hn
  refine tX1_splitNumber_6 hok K FU x2 x3 (0 : Int32) x2 I J (some r15) e16 (Option.some_ne_none _) _ _ hW _ (lv_sub hl [2, 3, 4, 5, 1, 0] rfl) ?_
  · intro u17 u18 q19 H locs hW ls hl
    replace q19 := Option.some.inj q19
    subst q19
    replace h := pr_o h
    refine lv_aload_n hx hb dX1_splitNumber_49 rfl (lv_at hl 0 rfl) ?_
    refine lv_bipush (v := (24 : Int32)) hx hb dX1_splitNumber_50 (by decide) ?_
    refine lv_iload hx hb dX1_splitNumber_52 (lv_at hl 2 rfl) ?_
    refine lv_iload_n hx hb dX1_splitNumber_54 rfl (lv_at hl 1 rfl) ?_
    obtain ⟨I20, e21, h⟩ := bd_o h hn
    refine g_callVv (rest := []) K hW hl (kX1_put (l := l) (G := G) (ad := ad) hok (24 : Int32) u17 x2 I J I20 e21) kLC_275 rfl (gG_V q_554 q_556 q_4 q_136 q_557) nm_X1_put ⟨Nat.le_of_ble_eq_true rfl, Nat.le_of_ble_eq_true rfl⟩ rfl rfl (Nat.le_of_ble_eq_true rfl) ⟨Nat.zero_le _, Nat.zero_le _⟩ dX1_splitNumber_55 (fun H locs hW => ?_)
    refine lv_iload hx hb dX1_splitNumber_58 (lv_at hl 3 rfl) ?_
    obtain ⟨a1, a2⟩ := so2 h
    replace hW := gWd_nI a2 hW
    exact g_nmi a1 (hfin _ _ _ _ hW dX1_splitNumber_60)
