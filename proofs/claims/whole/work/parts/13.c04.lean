-- 13.c04: the class: X6.giveAway X6.isFree X6.give X6.hasSlices X6.turnAway X6.turn X6.bidsNow X6.pass X6.drawnAnew X6.oddsTogether X6.drawSort X6.earns X6.dawnComes X6.passDays X6.day X6.play X6.played
noncomputable def fX6_giveAway  (x1 : Int32) (I : gI) : Option (gI) :=
  lz (wI I 11 4 ((I 11 4) &&& ((jshl (1 : Int32) x1) ^^^ (-1 : Int32)))) (fun (I1 : gI) => bd (fX5_writeDown 11 (1 : Int32) x1 (0 : Int32) I1) (fun (I3 : gI) => some I3))
set_option maxHeartbeats 4000000 in
set_option maxRecDepth 100000 in
theorem kX6_giveAway {l : Launch} {G : gG} {ad : Nat → Nat} (hok : gInj LC ad)    (x1 : Int32) (I : gI) (J : gJ) (I' : gI) (h : fX6_giveAway x1 I = some I') : gMv l yX6_giveAway cX6_giveAway 2 none 2 G LC ad [.ref (ad 0), .int x1] I J I' J := by
  refine gMv_of (lst := [(0, .ref (ad 0)), (1, .int x1)]) (by decide) hok (Nat.le_of_ble_eq_true rfl) rfl ?_
  intro p e s m args below meth c Q ls K hW hl hfin
  have hn : (some I' : Option (gI)) ≠ none := Option.some_ne_none _
  have hx := K.1; have hb := K.2.1; have hown := K.2.2.2.1; have hts := K.2.2.2.2.1
  unfold fX6_giveAway at h
  refine lv_aload_n hx hb dX6_giveAway_0 rfl (lv_at hl 0 rfl) ?_
  refine g_get K hW (t := 2) (ci := 5) (k := 0) (v := .ref (ad 1)) kLC_0 rfl rfl i_X6 (by decide) q_393 rfl (gfv2 rLC_0_0) dX6_giveAway_1 ?_
  refine g_get K hW (t := 2) (ci := 0) (k := 9) (v := .ref (ad 11)) kLC_1 rfl rfl i_X0 (by decide) q_232 rfl (gfv2 rLC_1_9) dX6_giveAway_4 ?_
  refine lv_dup hx hb dX6_giveAway_7 rfl ?_
  refine g_get K hW (t := 0) (ci := 4) (k := 4) (v := .int (I 11 4)) kLC_11 rfl rfl i_X5 (by decide) q_180 rfl rfl dX6_giveAway_8 ?_
  refine lv_iconst (v := (1 : Int32)) hx hb dX6_giveAway_11 (by decide) ?_
  refine lv_iload_n hx hb dX6_giveAway_12 rfl (lv_at hl 1 rfl) ?_
  refine g_ishl hx hb dX6_giveAway_13 ?_
  refine lv_iconst (v := (-1 : Int32)) hx hb dX6_giveAway_14 (by decide) ?_
  refine lv_ixor hx hb dX6_giveAway_15 ?_
  refine lv_iand hx hb dX6_giveAway_16 ?_
  refine g_putI K hW (ci := 4) (k := 4) kLC_11 rfl rfl i_X5 tyX5_ok nmX5 (by decide) q_180 rfl rfl rfl rfl dX6_giveAway_17 (fun H locs hW => ?_)
  obtain ⟨I1, e2, h⟩ := lz_o h
  replace hW := gWd_nI e2 hW
  refine lv_aload_n hx hb dX6_giveAway_20 rfl (lv_at hl 0 rfl) ?_
  refine g_get K hW (t := 2) (ci := 5) (k := 0) (v := .ref (ad 1)) kLC_0 rfl rfl i_X6 (by decide) q_393 rfl (gfv2 rLC_0_0) dX6_giveAway_21 ?_
  refine g_get K hW (t := 2) (ci := 0) (k := 9) (v := .ref (ad 11)) kLC_1 rfl rfl i_X0 (by decide) q_232 rfl (gfv2 rLC_1_9) dX6_giveAway_24 ?_
  refine lv_iconst (v := (1 : Int32)) hx hb dX6_giveAway_27 (by decide) ?_
  refine lv_iload_n hx hb dX6_giveAway_28 rfl (lv_at hl 1 rfl) ?_
  refine lv_iconst (v := (0 : Int32)) hx hb dX6_giveAway_29 (by decide) ?_
  obtain ⟨I3, e4, h⟩ := bd_o h hn
  refine g_callVv (rest := []) K hW hl (kX5_writeDown (l := l) (G := G) (ad := ad) hok 11 kLC_11 (1 : Int32) x1 (0 : Int32) I1 J I3 e4) kLC_11 rfl (gG_V q_748 q_749 q_750 q_135 q_751) nm_X5_writeDown ⟨Nat.le_of_ble_eq_true rfl, Nat.le_of_ble_eq_true rfl⟩ rfl rfl (Nat.le_of_ble_eq_true rfl) ⟨Nat.zero_le _, Nat.zero_le _⟩ dX6_giveAway_30 (fun H locs hW => ?_)
  obtain a1 := so1 h
  replace hW := gWd_nI a1 hW
  exact hfin _ _ _ _ hW dX6_giveAway_33
noncomputable def fX6_isFree  (x1 : Int32) (I : gI) : Int32 :=
  gi ((fX6_isSlice x1) = 0)
 ((0 : Int32))
 (gi (((jshr (I 11 4) x1) &&& (1 : Int32)) = (1 : Int32))
 ((1 : Int32))
 ((0 : Int32)))
set_option maxHeartbeats 4000000 in
set_option maxRecDepth 100000 in
theorem kX6_isFree {l : Launch} {G : gG} {ad : Nat → Nat} (hok : gInj LC ad)    (x1 : Int32) (I : gI) (J : gJ) (r : Int32) (h : fX6_isFree x1 I = r) : gMi l yX6_isFree cX6_isFree 2 (some .boolean) 2 G LC ad [.ref (ad 0), .int x1] I J r (r = 0 ∨ r = 1) I J := by
  refine gMz_of (lst := [(0, .ref (ad 0)), (1, .int x1)]) (by decide) hok (Nat.le_of_ble_eq_true rfl) rfl ?_
  intro p e s m args below meth c Q ls K hW hl hfin
  have hx := K.1; have hb := K.2.1; have hown := K.2.2.2.1; have hts := K.2.2.2.2.1
  unfold fX6_isFree at h
  refine lv_iload_n hx hb dX6_isFree_0 rfl (lv_at hl 1 rfl) ?_
  refine g_callSi (rest := []) K hW hl (kX6_isSlice (l := l) (G := G) (ad := ad) hok x1 I J (fX6_isSlice x1) rfl) q_454 q_455 q_133 q_456 nm_X6_isSlice ⟨Nat.le_of_ble_eq_true rfl, Nat.le_of_ble_eq_true rfl⟩ rfl rfl (Nat.le_of_ble_eq_true rfl) ⟨Nat.zero_le _, Nat.zero_le _⟩ dX6_isFree_1 (fun z1 H locs hW => ?_)
  refine lv_if_eq (tgt := 29) hx hb dX6_isFree_4 (by decide) (fun c2 => ?_) (fun c2 => ?_)
  · replace h := gi_t h c2
    refine lv_iconst (v := (0 : Int32)) hx hb dX6_isFree_29 (by decide) ?_
    obtain a1 := h.symm
    exact g_nmi a1 (hfin _ _ _ _ (a1 ▸ (Or.inl rfl)) hW dX6_isFree_30)
  · replace h := gi_f h c2
    refine lv_aload_n hx hb dX6_isFree_7 rfl (lv_at hl 0 rfl) ?_
    refine g_get K hW (t := 2) (ci := 5) (k := 0) (v := .ref (ad 1)) kLC_0 rfl rfl i_X6 (by decide) q_393 rfl (gfv2 rLC_0_0) dX6_isFree_8 ?_
    refine g_get K hW (t := 2) (ci := 0) (k := 9) (v := .ref (ad 11)) kLC_1 rfl rfl i_X0 (by decide) q_232 rfl (gfv2 rLC_1_9) dX6_isFree_11 ?_
    refine g_get K hW (t := 0) (ci := 4) (k := 4) (v := .int (I 11 4)) kLC_11 rfl rfl i_X5 (by decide) q_180 rfl rfl dX6_isFree_14 ?_
    refine lv_iload_n hx hb dX6_isFree_17 rfl (lv_at hl 1 rfl) ?_
    refine g_ishr hx hb dX6_isFree_18 ?_
    refine lv_iconst (v := (1 : Int32)) hx hb dX6_isFree_19 (by decide) ?_
    refine lv_iand hx hb dX6_isFree_20 ?_
    refine lv_iconst (v := (1 : Int32)) hx hb dX6_isFree_21 (by decide) ?_
    refine lv_icmp_ne (tgt := 29) hx hb dX6_isFree_22 (by decide) (fun c3 => ?_) (fun c3 => ?_)
    · replace h := gi_f h c3
      refine lv_iconst (v := (0 : Int32)) hx hb dX6_isFree_29 (by decide) ?_
      obtain a1 := h.symm
      exact g_nmi a1 (hfin _ _ _ _ (a1 ▸ (Or.inl rfl)) hW dX6_isFree_30)
    · replace h := gi_t h c3
      refine lv_iconst (v := (1 : Int32)) hx hb dX6_isFree_25 (by decide) ?_
      refine lv_goto (tgt := 30) hx hb dX6_isFree_26 (by decide) ?_
      obtain a1 := h.symm
      exact g_nmi a1 (hfin _ _ _ _ (a1 ▸ (Or.inr rfl)) hW dX6_isFree_30)
theorem nm_X6_isFree : gNm yX6_isFree 1 := by decide +kernel
theorem nm_X6_giveAway : gNm yX6_giveAway 1 := by decide +kernel
noncomputable def fX6_give  (x1 : Int32) (I : gI) : Option (Int32 × gI) :=
  gi ((fX6_isFree x1 I) = 0)
 (some ((0 : Int32), I))
 (bd (fX6_remember I) (fun (I3 : gI) => bd (fX6_giveAway x1 I3) (fun (I6 : gI) => some ((1 : Int32), I6))))
set_option maxHeartbeats 4000000 in
set_option maxRecDepth 100000 in
theorem kX6_give {l : Launch} {G : gG} {ad : Nat → Nat} (hok : gInj LC ad)    (x1 : Int32) (I : gI) (J : gJ) (r : Int32) (I' : gI) (h : fX6_give x1 I = some (r, I')) : gMi l yX6_give cX6_give 2 (some .boolean) 3 G LC ad [.ref (ad 0), .int x1] I J r (r = 0 ∨ r = 1) I' J := by
  refine gMz_of (lst := [(0, .ref (ad 0)), (1, .int x1)]) (by decide) hok (Nat.le_of_ble_eq_true rfl) rfl ?_
  intro p e s m args below meth c Q ls K hW hl hfin
  have hn : (some (r, I') : Option (Int32 × gI)) ≠ none := Option.some_ne_none _
  have hx := K.1; have hb := K.2.1; have hown := K.2.2.2.1; have hts := K.2.2.2.2.1
  unfold fX6_give at h
  refine lv_aload_n hx hb dX6_give_0 rfl (lv_at hl 0 rfl) ?_
  refine lv_iload_n hx hb dX6_give_1 rfl (lv_at hl 1 rfl) ?_
  refine g_callVi (rest := []) K hW hl (kX6_isFree (l := l) (G := G) (ad := ad) hok x1 I J (fX6_isFree x1 I) rfl) kLC_0 rfl (gG_V q_756 q_758 q_29 q_133 q_759) nm_X6_isFree ⟨Nat.le_of_ble_eq_true rfl, Nat.le_of_ble_eq_true rfl⟩ rfl rfl (Nat.le_of_ble_eq_true rfl) ⟨Nat.zero_le _, Nat.zero_le _⟩ dX6_give_2 (fun z1 H locs hW => ?_)
  refine lv_if_ne (tgt := 10) hx hb dX6_give_5 (by decide) (fun c2 => ?_) (fun c2 => ?_)
  · replace h := gi_f h c2
    refine lv_aload_n hx hb dX6_give_10 rfl (lv_at hl 0 rfl) ?_
    obtain ⟨I3, e4, h⟩ := bd_o h hn
    refine g_callVv (rest := []) K hW hl (kX6_remember (l := l) (G := G) (ad := ad) hok I J I3 e4) kLC_0 rfl (gG_V q_731 q_733 q_27 q_133 q_734) nm_X6_remember ⟨Nat.le_of_ble_eq_true rfl, Nat.le_of_ble_eq_true rfl⟩ rfl rfl (Nat.le_of_ble_eq_true rfl) ⟨Nat.zero_le _, Nat.zero_le _⟩ dX6_give_11 (fun H locs hW => ?_)
    refine lv_aload_n hx hb dX6_give_14 rfl (lv_at hl 0 rfl) ?_
    refine lv_iload_n hx hb dX6_give_15 rfl (lv_at hl 1 rfl) ?_
    obtain ⟨I6, e7, h⟩ := bd_o h hn
    refine g_callVv (rest := []) K hW hl (kX6_giveAway (l := l) (G := G) (ad := ad) hok x1 I3 J I6 e7) kLC_0 rfl (gG_V q_760 q_762 q_30 q_133 q_763) nm_X6_giveAway ⟨Nat.le_of_ble_eq_true rfl, Nat.le_of_ble_eq_true rfl⟩ rfl rfl (Nat.le_of_ble_eq_true rfl) ⟨Nat.zero_le _, Nat.zero_le _⟩ dX6_give_16 (fun H locs hW => ?_)
    refine lv_iconst (v := (1 : Int32)) hx hb dX6_give_19 (by decide) ?_
    obtain ⟨a1, a2⟩ := so2 h
    replace hW := gWd_nI a2 hW
    exact g_nmi a1 (hfin _ _ _ _ (a1 ▸ (Or.inr rfl)) hW dX6_give_20)
  · replace h := gi_t h c2
    refine lv_iconst (v := (0 : Int32)) hx hb dX6_give_8 (by decide) ?_
    obtain ⟨a1, a2⟩ := so2 h
    replace hW := gWd_nI a2 hW
    exact g_nmi a1 (hfin _ _ _ _ (a1 ▸ (Or.inl rfl)) hW dX6_give_9)
noncomputable def fX6_hasSlices  (x1 : Int32) (I : gI) : Option (Int32) :=
  gi ((fX6_isBuyer x1 I) = 0)
 (some (0 : Int32))
 (gd (vp_in x1 6) (gi ((I 13 (x1).toNatClampNeg) = 0)
 (some (0 : Int32))
 (some (1 : Int32))))
set_option maxHeartbeats 4000000 in
set_option maxRecDepth 100000 in
theorem kX6_hasSlices {l : Launch} {G : gG} {ad : Nat → Nat} (hok : gInj LC ad)    (x1 : Int32) (I : gI) (J : gJ) (r : Int32) (h : fX6_hasSlices x1 I = some r) : gMi l yX6_hasSlices cX6_hasSlices 2 (some .boolean) 2 G LC ad [.ref (ad 0), .int x1] I J r (r = 0 ∨ r = 1) I J := by
  refine gMz_of (lst := [(0, .ref (ad 0)), (1, .int x1)]) (by decide) hok (Nat.le_of_ble_eq_true rfl) rfl ?_
  intro p e s m args below meth c Q ls K hW hl hfin
  have hn : (some r : Option (Int32)) ≠ none := Option.some_ne_none _
  have hx := K.1; have hb := K.2.1; have hown := K.2.2.2.1; have hts := K.2.2.2.2.1
  unfold fX6_hasSlices at h
  refine lv_aload_n hx hb dX6_hasSlices_0 rfl (lv_at hl 0 rfl) ?_
  refine lv_iload_n hx hb dX6_hasSlices_1 rfl (lv_at hl 1 rfl) ?_
  refine g_callVi (rest := []) K hW hl (kX6_isBuyer (l := l) (G := G) (ad := ad) hok x1 I J (fX6_isBuyer x1 I) rfl) kLC_0 rfl (gG_V q_461 q_463 q_0 q_133 q_464) nm_X6_isBuyer ⟨Nat.le_of_ble_eq_true rfl, Nat.le_of_ble_eq_true rfl⟩ rfl rfl (Nat.le_of_ble_eq_true rfl) ⟨Nat.zero_le _, Nat.zero_le _⟩ dX6_hasSlices_2 (fun z1 H locs hW => ?_)
  refine lv_if_eq (tgt := 27) hx hb dX6_hasSlices_5 (by decide) (fun c2 => ?_) (fun c2 => ?_)
  · replace h := gi_t h c2
    refine lv_iconst (v := (0 : Int32)) hx hb dX6_hasSlices_27 (by decide) ?_
    obtain a1 := so1 h
    exact g_nmi a1 (hfin _ _ _ _ (a1 ▸ (Or.inl rfl)) hW dX6_hasSlices_28)
  · replace h := gi_f h c2
    refine lv_aload_n hx hb dX6_hasSlices_8 rfl (lv_at hl 0 rfl) ?_
    refine g_get K hW (t := 2) (ci := 5) (k := 0) (v := .ref (ad 1)) kLC_0 rfl rfl i_X6 (by decide) q_393 rfl (gfv2 rLC_0_0) dX6_hasSlices_9 ?_
    refine g_get K hW (t := 2) (ci := 0) (k := 9) (v := .ref (ad 11)) kLC_1 rfl rfl i_X0 (by decide) q_232 rfl (gfv2 rLC_1_9) dX6_hasSlices_12 ?_
    refine g_get K hW (t := 2) (ci := 4) (k := 1) (v := .ref (ad 13)) kLC_11 rfl rfl i_X5 (by decide) q_172 rfl (gfv2 rLC_11_1) dX6_hasSlices_15 ?_
    refine lv_iload_n hx hb dX6_hasSlices_18 rfl (lv_at hl 1 rfl) ?_
    obtain ⟨g3, h⟩ := gd_o h hn
    refine g_iald K hW kLC_13 g3 rfl dX6_hasSlices_19 ?_
    refine lv_if_eq (tgt := 27) hx hb dX6_hasSlices_20 (by decide) (fun c4 => ?_) (fun c4 => ?_)
    · replace h := gi_t h c4
      refine lv_iconst (v := (0 : Int32)) hx hb dX6_hasSlices_27 (by decide) ?_
      obtain a1 := so1 h
      exact g_nmi a1 (hfin _ _ _ _ (a1 ▸ (Or.inl rfl)) hW dX6_hasSlices_28)
    · replace h := gi_f h c4
      refine lv_iconst (v := (1 : Int32)) hx hb dX6_hasSlices_23 (by decide) ?_
      refine lv_goto (tgt := 28) hx hb dX6_hasSlices_24 (by decide) ?_
      obtain a1 := so1 h
      exact g_nmi a1 (hfin _ _ _ _ (a1 ▸ (Or.inr rfl)) hW dX6_hasSlices_28)
noncomputable def fX6_turnAway  (x1 : Int32) (I : gI) : Option (gI) :=
  gd (vp_in x1 6) (lz (wI I 11 4 ((I 11 4) ||| (I 13 (x1).toNatClampNeg))) (fun (I2 : gI) => lz (wI I2 13 (x1).toNatClampNeg (0 : Int32)) (fun (I5 : gI) => bd (fX5_writeDown 11 (2 : Int32) x1 (0 : Int32) I5) (fun (I6 : gI) => some I6))))
set_option maxHeartbeats 4000000 in
set_option maxRecDepth 100000 in
theorem kX6_turnAway {l : Launch} {G : gG} {ad : Nat → Nat} (hok : gInj LC ad)    (x1 : Int32) (I : gI) (J : gJ) (I' : gI) (h : fX6_turnAway x1 I = some I') : gMv l yX6_turnAway cX6_turnAway 2 none 2 G LC ad [.ref (ad 0), .int x1] I J I' J := by
  refine gMv_of (lst := [(0, .ref (ad 0)), (1, .int x1)]) (by decide) hok (Nat.le_of_ble_eq_true rfl) rfl ?_
  intro p e s m args below meth c Q ls K hW hl hfin
  have hn : (some I' : Option (gI)) ≠ none := Option.some_ne_none _
  have hx := K.1; have hb := K.2.1; have hown := K.2.2.2.1; have hts := K.2.2.2.2.1
  unfold fX6_turnAway at h
  refine lv_aload_n hx hb dX6_turnAway_0 rfl (lv_at hl 0 rfl) ?_
  refine g_get K hW (t := 2) (ci := 5) (k := 0) (v := .ref (ad 1)) kLC_0 rfl rfl i_X6 (by decide) q_393 rfl (gfv2 rLC_0_0) dX6_turnAway_1 ?_
  refine g_get K hW (t := 2) (ci := 0) (k := 9) (v := .ref (ad 11)) kLC_1 rfl rfl i_X0 (by decide) q_232 rfl (gfv2 rLC_1_9) dX6_turnAway_4 ?_
  refine lv_dup hx hb dX6_turnAway_7 rfl ?_
  refine g_get K hW (t := 0) (ci := 4) (k := 4) (v := .int (I 11 4)) kLC_11 rfl rfl i_X5 (by decide) q_180 rfl rfl dX6_turnAway_8 ?_
  refine lv_aload_n hx hb dX6_turnAway_11 rfl (lv_at hl 0 rfl) ?_
  refine g_get K hW (t := 2) (ci := 5) (k := 0) (v := .ref (ad 1)) kLC_0 rfl rfl i_X6 (by decide) q_393 rfl (gfv2 rLC_0_0) dX6_turnAway_12 ?_
  refine g_get K hW (t := 2) (ci := 0) (k := 9) (v := .ref (ad 11)) kLC_1 rfl rfl i_X0 (by decide) q_232 rfl (gfv2 rLC_1_9) dX6_turnAway_15 ?_
  refine g_get K hW (t := 2) (ci := 4) (k := 1) (v := .ref (ad 13)) kLC_11 rfl rfl i_X5 (by decide) q_172 rfl (gfv2 rLC_11_1) dX6_turnAway_18 ?_
  refine lv_iload_n hx hb dX6_turnAway_21 rfl (lv_at hl 1 rfl) ?_
  obtain ⟨g1, h⟩ := gd_o h hn
  refine g_iald K hW kLC_13 g1 rfl dX6_turnAway_22 ?_
  refine lv_ior hx hb dX6_turnAway_23 ?_
  refine g_putI K hW (ci := 4) (k := 4) kLC_11 rfl rfl i_X5 tyX5_ok nmX5 (by decide) q_180 rfl rfl rfl rfl dX6_turnAway_24 (fun H locs hW => ?_)
  obtain ⟨I2, e3, h⟩ := lz_o h
  replace hW := gWd_nI e3 hW
  refine lv_aload_n hx hb dX6_turnAway_27 rfl (lv_at hl 0 rfl) ?_
  refine g_get K hW (t := 2) (ci := 5) (k := 0) (v := .ref (ad 1)) kLC_0 rfl rfl i_X6 (by decide) q_393 rfl (gfv2 rLC_0_0) dX6_turnAway_28 ?_
  refine g_get K hW (t := 2) (ci := 0) (k := 9) (v := .ref (ad 11)) kLC_1 rfl rfl i_X0 (by decide) q_232 rfl (gfv2 rLC_1_9) dX6_turnAway_31 ?_
  refine g_get K hW (t := 2) (ci := 4) (k := 1) (v := .ref (ad 13)) kLC_11 rfl rfl i_X5 (by decide) q_172 rfl (gfv2 rLC_11_1) dX6_turnAway_34 ?_
  refine lv_iload_n hx hb dX6_turnAway_37 rfl (lv_at hl 1 rfl) ?_
  refine lv_iconst (v := (0 : Int32)) hx hb dX6_turnAway_38 (by decide) ?_
  refine g_iast K hW kLC_13 g1 rfl dX6_turnAway_39 (fun H locs hW => ?_)
  obtain ⟨I5, e4, h⟩ := lz_o h
  replace hW := gWd_nI e4 hW
  refine lv_aload_n hx hb dX6_turnAway_40 rfl (lv_at hl 0 rfl) ?_
  refine g_get K hW (t := 2) (ci := 5) (k := 0) (v := .ref (ad 1)) kLC_0 rfl rfl i_X6 (by decide) q_393 rfl (gfv2 rLC_0_0) dX6_turnAway_41 ?_
  refine g_get K hW (t := 2) (ci := 0) (k := 9) (v := .ref (ad 11)) kLC_1 rfl rfl i_X0 (by decide) q_232 rfl (gfv2 rLC_1_9) dX6_turnAway_44 ?_
  refine lv_iconst (v := (2 : Int32)) hx hb dX6_turnAway_47 (by decide) ?_
  refine lv_iload_n hx hb dX6_turnAway_48 rfl (lv_at hl 1 rfl) ?_
  refine lv_iconst (v := (0 : Int32)) hx hb dX6_turnAway_49 (by decide) ?_
  obtain ⟨I6, e7, h⟩ := bd_o h hn
  refine g_callVv (rest := []) K hW hl (kX5_writeDown (l := l) (G := G) (ad := ad) hok 11 kLC_11 (2 : Int32) x1 (0 : Int32) I5 J I6 e7) kLC_11 rfl (gG_V q_748 q_749 q_750 q_135 q_751) nm_X5_writeDown ⟨Nat.le_of_ble_eq_true rfl, Nat.le_of_ble_eq_true rfl⟩ rfl rfl (Nat.le_of_ble_eq_true rfl) ⟨Nat.zero_le _, Nat.zero_le _⟩ dX6_turnAway_50 (fun H locs hW => ?_)
  obtain a1 := so1 h
  replace hW := gWd_nI a1 hW
  exact hfin _ _ _ _ hW dX6_turnAway_53
theorem nm_X6_hasSlices : gNm yX6_hasSlices 1 := by decide +kernel
theorem nm_X6_turnAway : gNm yX6_turnAway 1 := by decide +kernel
noncomputable def fX6_turn  (x1 : Int32) (I : gI) : Option (Int32 × gI) :=
  bd (fX6_hasSlices x1 I) (fun (u1 : Int32) => gi (u1 = 0)
 (some ((0 : Int32), I))
 (bd (fX6_remember I) (fun (I5 : gI) => bd (fX6_turnAway x1 I5) (fun (I8 : gI) => some ((1 : Int32), I8)))))
set_option maxHeartbeats 4000000 in
set_option maxRecDepth 100000 in
theorem kX6_turn {l : Launch} {G : gG} {ad : Nat → Nat} (hok : gInj LC ad)    (x1 : Int32) (I : gI) (J : gJ) (r : Int32) (I' : gI) (h : fX6_turn x1 I = some (r, I')) : gMi l yX6_turn cX6_turn 2 (some .boolean) 3 G LC ad [.ref (ad 0), .int x1] I J r (r = 0 ∨ r = 1) I' J := by
  refine gMz_of (lst := [(0, .ref (ad 0)), (1, .int x1)]) (by decide) hok (Nat.le_of_ble_eq_true rfl) rfl ?_
  intro p e s m args below meth c Q ls K hW hl hfin
  have hn : (some (r, I') : Option (Int32 × gI)) ≠ none := Option.some_ne_none _
  have hx := K.1; have hb := K.2.1; have hown := K.2.2.2.1; have hts := K.2.2.2.2.1
  unfold fX6_turn at h
  refine lv_aload_n hx hb dX6_turn_0 rfl (lv_at hl 0 rfl) ?_
  refine lv_iload_n hx hb dX6_turn_1 rfl (lv_at hl 1 rfl) ?_
  obtain ⟨u1, e2, h⟩ := bd_o h hn
  refine g_callVi (rest := []) K hW hl (kX6_hasSlices (l := l) (G := G) (ad := ad) hok x1 I J u1 e2) kLC_0 rfl (gG_V q_768 q_770 q_31 q_133 q_771) nm_X6_hasSlices ⟨Nat.le_of_ble_eq_true rfl, Nat.le_of_ble_eq_true rfl⟩ rfl rfl (Nat.le_of_ble_eq_true rfl) ⟨Nat.zero_le _, Nat.zero_le _⟩ dX6_turn_2 (fun z3 H locs hW => ?_)
  refine lv_if_ne (tgt := 10) hx hb dX6_turn_5 (by decide) (fun c4 => ?_) (fun c4 => ?_)
  · replace h := gi_f h c4
    refine lv_aload_n hx hb dX6_turn_10 rfl (lv_at hl 0 rfl) ?_
    obtain ⟨I5, e6, h⟩ := bd_o h hn
    refine g_callVv (rest := []) K hW hl (kX6_remember (l := l) (G := G) (ad := ad) hok I J I5 e6) kLC_0 rfl (gG_V q_731 q_733 q_27 q_133 q_734) nm_X6_remember ⟨Nat.le_of_ble_eq_true rfl, Nat.le_of_ble_eq_true rfl⟩ rfl rfl (Nat.le_of_ble_eq_true rfl) ⟨Nat.zero_le _, Nat.zero_le _⟩ dX6_turn_11 (fun H locs hW => ?_)
    refine lv_aload_n hx hb dX6_turn_14 rfl (lv_at hl 0 rfl) ?_
    refine lv_iload_n hx hb dX6_turn_15 rfl (lv_at hl 1 rfl) ?_
    obtain ⟨I8, e9, h⟩ := bd_o h hn
    refine g_callVv (rest := []) K hW hl (kX6_turnAway (l := l) (G := G) (ad := ad) hok x1 I5 J I8 e9) kLC_0 rfl (gG_V q_772 q_774 q_32 q_133 q_775) nm_X6_turnAway ⟨Nat.le_of_ble_eq_true rfl, Nat.le_of_ble_eq_true rfl⟩ rfl rfl (Nat.le_of_ble_eq_true rfl) ⟨Nat.zero_le _, Nat.zero_le _⟩ dX6_turn_16 (fun H locs hW => ?_)
    refine lv_iconst (v := (1 : Int32)) hx hb dX6_turn_19 (by decide) ?_
    obtain ⟨a1, a2⟩ := so2 h
    replace hW := gWd_nI a2 hW
    exact g_nmi a1 (hfin _ _ _ _ (a1 ▸ (Or.inr rfl)) hW dX6_turn_20)
  · replace h := gi_t h c4
    refine lv_iconst (v := (0 : Int32)) hx hb dX6_turn_8 (by decide) ?_
    obtain ⟨a1, a2⟩ := so2 h
    replace hW := gWd_nI a2 hW
    exact g_nmi a1 (hfin _ _ _ _ (a1 ▸ (Or.inl rfl)) hW dX6_turn_9)
noncomputable def fX6_bidsNow  (x1 : Int32) (I : gI) : Option (Int32 × gI) :=
  bd (fX6_bidsBy (I 1 14) x1 (I 11 5) I) (pr (fun (u1 : Int32) (I2 : gI) => some (u1, I2)))
set_option maxHeartbeats 4000000 in
set_option maxRecDepth 100000 in
theorem kX6_bidsNow {l : Launch} {G : gG} {ad : Nat → Nat} (hok : gInj LC ad)    (x1 : Int32) (I : gI) (J : gJ) (r : Int32) (I' : gI) (h : fX6_bidsNow x1 I = some (r, I')) : gMi l yX6_bidsNow cX6_bidsNow 2 (some .int) 5 G LC ad [.ref (ad 0), .int x1] I J r True I' J := by
  refine gMi_of (lst := [(0, .ref (ad 0)), (1, .int x1)]) (by decide) hok (Nat.le_of_ble_eq_true rfl) rfl ?_
  intro p e s m args below meth c Q ls K hW hl hfin
  have hn : (some (r, I') : Option (Int32 × gI)) ≠ none := Option.some_ne_none _
  have hx := K.1; have hb := K.2.1; have hown := K.2.2.2.1; have hts := K.2.2.2.2.1
  unfold fX6_bidsNow at h
  refine lv_aload_n hx hb dX6_bidsNow_0 rfl (lv_at hl 0 rfl) ?_
  refine lv_aload_n hx hb dX6_bidsNow_1 rfl (lv_at hl 0 rfl) ?_
  refine g_get K hW (t := 2) (ci := 5) (k := 0) (v := .ref (ad 1)) kLC_0 rfl rfl i_X6 (by decide) q_393 rfl (gfv2 rLC_0_0) dX6_bidsNow_2 ?_
  refine g_get K hW (t := 0) (ci := 0) (k := 14) (v := .int (I 1 14)) kLC_1 rfl rfl i_X0 (by decide) q_243 rfl rfl dX6_bidsNow_5 ?_
  refine lv_iload_n hx hb dX6_bidsNow_8 rfl (lv_at hl 1 rfl) ?_
  refine lv_aload_n hx hb dX6_bidsNow_9 rfl (lv_at hl 0 rfl) ?_
  refine g_get K hW (t := 2) (ci := 5) (k := 0) (v := .ref (ad 1)) kLC_0 rfl rfl i_X6 (by decide) q_393 rfl (gfv2 rLC_0_0) dX6_bidsNow_10 ?_
  refine g_get K hW (t := 2) (ci := 0) (k := 9) (v := .ref (ad 11)) kLC_1 rfl rfl i_X0 (by decide) q_232 rfl (gfv2 rLC_1_9) dX6_bidsNow_13 ?_
  refine g_get K hW (t := 0) (ci := 4) (k := 5) (v := .int (I 11 5)) kLC_11 rfl rfl i_X5 (by decide) q_182 rfl rfl dX6_bidsNow_16 ?_
  obtain ⟨⟨u1, I2⟩, e3, h⟩ := bd_o h hn
  replace h := pr_o h
  refine g_callVi (rest := []) K hW hl (kX6_bidsBy (l := l) (G := G) (ad := ad) hok (I 1 14) x1 (I 11 5) I J u1 I2 e3) kLC_0 rfl (gG_V q_688 q_690 q_26 q_133 q_691) nm_X6_bidsBy ⟨Nat.le_of_ble_eq_true rfl, Nat.le_of_ble_eq_true rfl⟩ rfl rfl (Nat.le_of_ble_eq_true rfl) ⟨Nat.zero_le _, Nat.zero_le _⟩ dX6_bidsNow_19 (fun z4 H locs hW => ?_)
  obtain ⟨a1, a2⟩ := so2 h
  replace hW := gWd_nI a2 hW
  exact g_nmi a1 (hfin _ _ _ _ hW dX6_bidsNow_22)
theorem nm_X6_bidsNow : gNm yX6_bidsNow 1 := by decide +kernel
noncomputable def fX6_pass  (x1 : Int32) (x2 : Int32) (I : gI) : Option (Int32 × gI) :=
  bd (fX6_hasSlices x1 I) (fun (u1 : Int32) => gi (u1 = 0)
 (some ((-1 : Int32), I))
 (gi ((fX6_isBuyer x2 I) = 0)
 (some ((-1 : Int32), I))
 (bd (fX6_hasSlices x2 I) (fun (u7 : Int32) => gi (u7 = 0)
 (gd (vp_in x1 6) (lz ((I 13 (x1).toNatClampNeg)) (fun (u12 : Int32) => bd (fX6_wantsSort x2 (I 11 5) I) (fun (u14 : Int32) => gi (u14 = 0)
 (some ((-1 : Int32), I))
 (bd (fX0_slicesOf x2 I) (fun (u18 : Int32) => gi ((u12 &&& (u18 ^^^ (-1 : Int32))) = 0)
 (bd (fX6_bidsNow x1 I) (pr (fun (u22 : Int32) (I23 : gI) => bd (fX6_bidsNow x2 I23) (pr (fun (u26 : Int32) (I27 : gI) => lz (((u22 + u26) / (2 : Int32))) (fun (u30 : Int32) => gi (u26 ≤ u22)
 (some ((-1 : Int32), I27))
 (gd (vp_in x2 6) (gi (u30 ≤ (I27 12 (x2).toNatClampNeg))
 (bd (fX6_remember I27) (fun (I35 : gI) => lz (wI I35 13 (x2).toNatClampNeg u12) (fun (I39 : gI) => lz (wI I39 13 (x1).toNatClampNeg (0 : Int32)) (fun (I41 : gI) => lz (wI I41 12 (x2).toNatClampNeg ((I41 12 (x2).toNatClampNeg) - u30)) (fun (I43 : gI) => lz (wI I43 12 (x1).toNatClampNeg (jmin (999 : Int32) ((I43 12 (x1).toNatClampNeg) + u30))) (fun (I45 : gI) => bd (fX5_writeDown 11 (4 : Int32) x2 u30 I45) (fun (I46 : gI) => some (u30, I46))))))))
 (some ((-1 : Int32), I27))))))))))
 (some ((-1 : Int32), I))))))))
 (some ((-1 : Int32), I))))))
set_option maxHeartbeats 4000000 in
set_option maxRecDepth 100000 in
theorem kX6_pass {l : Launch} {G : gG} {ad : Nat → Nat} (hok : gInj LC ad)    (x1 : Int32) (x2 : Int32) (I : gI) (J : gJ) (r : Int32) (I' : gI) (h : fX6_pass x1 x2 I = some (r, I')) : gMi l yX6_pass cX6_pass 8 (some .int) 6 G LC ad [.ref (ad 0), .int x1, .int x2] I J r True I' J := by
  refine gMi_of (lst := [(0, .ref (ad 0)), (1, .int x1), (2, .int x2)]) (by decide) hok (Nat.le_of_ble_eq_true rfl) rfl ?_
  intro p e s m args below meth c Q ls K hW hl hfin
  have hn : (some (r, I') : Option (Int32 × gI)) ≠ none := Option.some_ne_none _
  have hx := K.1; have hb := K.2.1; have hown := K.2.2.2.1; have hts := K.2.2.2.2.1
  unfold fX6_pass at h
  refine lv_aload_n hx hb dX6_pass_0 rfl (lv_at hl 0 rfl) ?_
  refine lv_iload_n hx hb dX6_pass_1 rfl (lv_at hl 1 rfl) ?_
  obtain ⟨u1, e2, h⟩ := bd_o h hn
  refine g_callVi (rest := []) K hW hl (kX6_hasSlices (l := l) (G := G) (ad := ad) hok x1 I J u1 e2) kLC_0 rfl (gG_V q_768 q_770 q_31 q_133 q_771) nm_X6_hasSlices ⟨Nat.le_of_ble_eq_true rfl, Nat.le_of_ble_eq_true rfl⟩ rfl rfl (Nat.le_of_ble_eq_true rfl) ⟨Nat.zero_le _, Nat.zero_le _⟩ dX6_pass_2 (fun z3 H locs hW => ?_)
  refine lv_if_eq (tgt := 24) hx hb dX6_pass_5 (by decide) (fun c4 => ?_) (fun c4 => ?_)
  · replace h := gi_t h c4
    refine lv_iconst (v := (-1 : Int32)) hx hb dX6_pass_24 (by decide) ?_
    obtain ⟨a1, a2⟩ := so2 h
    replace hW := gWd_nI a2 hW
    exact g_nmi a1 (hfin _ _ _ _ hW dX6_pass_25)
  · replace h := gi_f h c4
    refine lv_aload_n hx hb dX6_pass_8 rfl (lv_at hl 0 rfl) ?_
    refine lv_iload_n hx hb dX6_pass_9 rfl (lv_at hl 2 rfl) ?_
    refine g_callVi (rest := []) K hW hl (kX6_isBuyer (l := l) (G := G) (ad := ad) hok x2 I J (fX6_isBuyer x2 I) rfl) kLC_0 rfl (gG_V q_461 q_463 q_0 q_133 q_464) nm_X6_isBuyer ⟨Nat.le_of_ble_eq_true rfl, Nat.le_of_ble_eq_true rfl⟩ rfl rfl (Nat.le_of_ble_eq_true rfl) ⟨Nat.zero_le _, Nat.zero_le _⟩ dX6_pass_10 (fun z5 H locs hW => ?_)
    refine lv_if_eq (tgt := 24) hx hb dX6_pass_13 (by decide) (fun c6 => ?_) (fun c6 => ?_)
    · replace h := gi_t h c6
      refine lv_iconst (v := (-1 : Int32)) hx hb dX6_pass_24 (by decide) ?_
      obtain ⟨a1, a2⟩ := so2 h
      replace hW := gWd_nI a2 hW
      exact g_nmi a1 (hfin _ _ _ _ hW dX6_pass_25)
    · replace h := gi_f h c6
      refine lv_aload_n hx hb dX6_pass_16 rfl (lv_at hl 0 rfl) ?_
      refine lv_iload_n hx hb dX6_pass_17 rfl (lv_at hl 2 rfl) ?_
      obtain ⟨u7, e8, h⟩ := bd_o h hn
      refine g_callVi (rest := []) K hW hl (kX6_hasSlices (l := l) (G := G) (ad := ad) hok x2 I J u7 e8) kLC_0 rfl (gG_V q_768 q_770 q_31 q_133 q_771) nm_X6_hasSlices ⟨Nat.le_of_ble_eq_true rfl, Nat.le_of_ble_eq_true rfl⟩ rfl rfl (Nat.le_of_ble_eq_true rfl) ⟨Nat.zero_le _, Nat.zero_le _⟩ dX6_pass_18 (fun z9 H locs hW => ?_)
      refine lv_if_eq (tgt := 26) hx hb dX6_pass_21 (by decide) (fun c10 => ?_) (fun c10 => ?_)
      · replace h := gi_t h c10
        refine lv_aload_n hx hb dX6_pass_26 rfl (lv_at hl 0 rfl) ?_
        refine g_get K hW (t := 2) (ci := 5) (k := 0) (v := .ref (ad 1)) kLC_0 rfl rfl i_X6 (by decide) q_393 rfl (gfv2 rLC_0_0) dX6_pass_27 ?_
        refine g_get K hW (t := 2) (ci := 0) (k := 9) (v := .ref (ad 11)) kLC_1 rfl rfl i_X0 (by decide) q_232 rfl (gfv2 rLC_1_9) dX6_pass_30 ?_
        refine lv_astore_n (lv' := [(3, .ref (ad 11)), (0, .ref (ad 0)), (1, .int x1), (2, .int x2)]) hx hb dX6_pass_33 rfl hl (by decide) rfl (fun ls hl => ?_)
        refine lv_aload_n hx hb dX6_pass_34 rfl (lv_at hl 0 rfl) ?_
        refine g_get K hW (t := 2) (ci := 4) (k := 1) (v := .ref (ad 13)) kLC_11 rfl rfl i_X5 (by decide) q_172 rfl (gfv2 rLC_11_1) dX6_pass_35 ?_
        refine lv_iload_n hx hb dX6_pass_38 rfl (lv_at hl 2 rfl) ?_
        obtain ⟨g11, h⟩ := gd_o h hn
        refine g_iald K hW kLC_13 g11 rfl dX6_pass_39 ?_
        obtain ⟨u12, e13, h⟩ := lz_o h
        refine g_nmi e13 ?_
        refine lv_istore (lv' := [(4, .int u12), (3, .ref (ad 11)), (0, .ref (ad 0)), (1, .int x1), (2, .int x2)]) hx hb dX6_pass_40 hl (by decide) rfl (fun ls hl => ?_)
        refine lv_aload_n hx hb dX6_pass_42 rfl (lv_at hl 2 rfl) ?_
        refine lv_iload_n hx hb dX6_pass_43 rfl (lv_at hl 4 rfl) ?_
        refine lv_aload_n hx hb dX6_pass_44 rfl (lv_at hl 1 rfl) ?_
        refine g_get K hW (t := 0) (ci := 4) (k := 5) (v := .int (I 11 5)) kLC_11 rfl rfl i_X5 (by decide) q_182 rfl rfl dX6_pass_45 ?_
        obtain ⟨u14, e15, h⟩ := bd_o h hn
        refine g_callVi (rest := []) K hW hl (kX6_wantsSort (l := l) (G := G) (ad := ad) hok x2 (I 11 5) I J u14 e15) kLC_0 rfl (gG_V q_680 q_682 q_25 q_133 q_683) nm_X6_wantsSort ⟨Nat.le_of_ble_eq_true rfl, Nat.le_of_ble_eq_true rfl⟩ rfl rfl (Nat.le_of_ble_eq_true rfl) ⟨Nat.zero_le _, Nat.zero_le _⟩ dX6_pass_48 (fun z16 H locs hW => ?_)
        refine lv_if_eq (tgt := 70) hx hb dX6_pass_51 (by decide) (fun c17 => ?_) (fun c17 => ?_)
        · replace h := gi_t h c17
          refine lv_iconst (v := (-1 : Int32)) hx hb dX6_pass_70 (by decide) ?_
          obtain ⟨a1, a2⟩ := so2 h
          replace hW := gWd_nI a2 hW
          exact g_nmi a1 (hfin _ _ _ _ hW dX6_pass_71)
        · replace h := gi_f h c17
          refine lv_iload hx hb dX6_pass_54 (lv_at hl 0 rfl) ?_
          refine lv_aload_n hx hb dX6_pass_56 rfl (lv_at hl 2 rfl) ?_
          refine g_get K hW (t := 2) (ci := 5) (k := 0) (v := .ref (ad 1)) kLC_0 rfl rfl i_X6 (by decide) q_393 rfl (gfv2 rLC_0_0) dX6_pass_57 ?_
          refine lv_iload_n hx hb dX6_pass_60 rfl (lv_at hl 4 rfl) ?_
          obtain ⟨u18, e19, h⟩ := bd_o h hn
          refine g_callVi (rest := [.int u12]) K hW hl (kX0_slicesOf (l := l) (G := G) (ad := ad) hok x2 I J u18 e19) kLC_1 rfl (gG_V q_684 q_685 q_686 q_134 q_687) nm_X0_slicesOf ⟨Nat.le_of_ble_eq_true rfl, Nat.le_of_ble_eq_true rfl⟩ rfl rfl (Nat.le_of_ble_eq_true rfl) ⟨Nat.zero_le _, Nat.zero_le _⟩ dX6_pass_61 (fun z20 H locs hW => ?_)
          refine lv_iconst (v := (-1 : Int32)) hx hb dX6_pass_64 (by decide) ?_
          refine lv_ixor hx hb dX6_pass_65 ?_
          refine lv_iand hx hb dX6_pass_66 ?_
          refine lv_if_eq (tgt := 72) hx hb dX6_pass_67 (by decide) (fun c21 => ?_) (fun c21 => ?_)
          · replace h := gi_t h c21
            refine lv_aload_n hx hb dX6_pass_72 rfl (lv_at hl 2 rfl) ?_
            refine lv_iload_n hx hb dX6_pass_73 rfl (lv_at hl 3 rfl) ?_
            obtain ⟨⟨u22, I23⟩, e24, h⟩ := bd_o h hn
            replace h := pr_o h
            refine g_callVi (rest := []) K hW hl (kX6_bidsNow (l := l) (G := G) (ad := ad) hok x1 I J u22 I23 e24) kLC_0 rfl (gG_V q_780 q_782 q_33 q_133 q_783) nm_X6_bidsNow ⟨Nat.le_of_ble_eq_true rfl, Nat.le_of_ble_eq_true rfl⟩ rfl rfl (Nat.le_of_ble_eq_true rfl) ⟨Nat.zero_le _, Nat.zero_le _⟩ dX6_pass_74 (fun z25 H locs hW => ?_)
            refine lv_istore (lv' := [(5, .int u22), (4, .int u12), (3, .ref (ad 11)), (0, .ref (ad 0)), (1, .int x1), (2, .int x2)]) hx hb dX6_pass_77 hl (by decide) rfl (fun ls hl => ?_)
            refine lv_aload_n hx hb dX6_pass_79 rfl (lv_at hl 3 rfl) ?_
            refine lv_iload_n hx hb dX6_pass_80 rfl (lv_at hl 5 rfl) ?_
            obtain ⟨⟨u26, I27⟩, e28, h⟩ := bd_o h hn
            replace h := pr_o h
            refine g_callVi (rest := []) K hW hl (kX6_bidsNow (l := l) (G := G) (ad := ad) hok x2 I23 J u26 I27 e28) kLC_0 rfl (gG_V q_780 q_782 q_33 q_133 q_783) nm_X6_bidsNow ⟨Nat.le_of_ble_eq_true rfl, Nat.le_of_ble_eq_true rfl⟩ rfl rfl (Nat.le_of_ble_eq_true rfl) ⟨Nat.zero_le _, Nat.zero_le _⟩ dX6_pass_81 (fun z29 H locs hW => ?_)
            refine lv_istore (lv' := [(6, .int u26), (5, .int u22), (4, .int u12), (3, .ref (ad 11)), (0, .ref (ad 0)), (1, .int x1), (2, .int x2)]) hx hb dX6_pass_84 hl (by decide) rfl (fun ls hl => ?_)
            refine lv_iload hx hb dX6_pass_86 (lv_at hl 1 rfl) ?_
            refine lv_iload hx hb dX6_pass_88 (lv_at hl 0 rfl) ?_
            refine lv_iadd hx hb dX6_pass_90 ?_
            refine lv_iconst (v := (2 : Int32)) hx hb dX6_pass_91 (by decide) ?_
            refine lv_idiv hx hb dX6_pass_92 (by decide) ?_
            obtain ⟨u30, e31, h⟩ := lz_o h
            refine g_nmi e31 ?_
            refine lv_istore (lv' := [(7, .int u30), (6, .int u26), (5, .int u22), (4, .int u12), (3, .ref (ad 11)), (0, .ref (ad 0)), (1, .int x1), (2, .int x2)]) hx hb dX6_pass_93 hl (by decide) rfl (fun ls hl => ?_)
            refine lv_iload hx hb dX6_pass_95 (lv_at hl 1 rfl) ?_
            refine lv_iload hx hb dX6_pass_97 (lv_at hl 2 rfl) ?_
            refine lv_icmp_le (tgt := 113) hx hb dX6_pass_99 (by decide) (fun c32 => ?_) (fun c32 => ?_)
            · replace h := gi_t h c32
              refine lv_iconst (v := (-1 : Int32)) hx hb dX6_pass_113 (by decide) ?_
              obtain ⟨a1, a2⟩ := so2 h
              replace hW := gWd_nI a2 hW
              exact g_nmi a1 (hfin _ _ _ _ hW dX6_pass_114)
            · replace h := gi_f h c32
              refine lv_aload_n hx hb dX6_pass_102 rfl (lv_at hl 4 rfl) ?_
              refine g_get K hW (t := 2) (ci := 4) (k := 0) (v := .ref (ad 12)) kLC_11 rfl rfl i_X5 (by decide) q_169 rfl (gfv2 rLC_11_0) dX6_pass_103 ?_
              refine lv_iload_n hx hb dX6_pass_106 rfl (lv_at hl 7 rfl) ?_
              obtain ⟨g33, h⟩ := gd_o h hn
              refine g_iald K hW kLC_12 g33 rfl dX6_pass_107 ?_
              refine lv_iload hx hb dX6_pass_108 (lv_at hl 0 rfl) ?_
              refine lv_icmp_ge (tgt := 115) hx hb dX6_pass_110 (by decide) (fun c34 => ?_) (fun c34 => ?_)
              · replace h := gi_t h c34
                refine lv_aload_n hx hb dX6_pass_115 rfl (lv_at hl 5 rfl) ?_
                obtain ⟨I35, e36, h⟩ := bd_o h hn
                refine g_callVv (rest := []) K hW hl (kX6_remember (l := l) (G := G) (ad := ad) hok I27 J I35 e36) kLC_0 rfl (gG_V q_731 q_733 q_27 q_133 q_734) nm_X6_remember ⟨Nat.le_of_ble_eq_true rfl, Nat.le_of_ble_eq_true rfl⟩ rfl rfl (Nat.le_of_ble_eq_true rfl) ⟨Nat.zero_le _, Nat.zero_le _⟩ dX6_pass_116 (fun H locs hW => ?_)
                refine lv_aload_n hx hb dX6_pass_119 rfl (lv_at hl 4 rfl) ?_
                refine g_get K hW (t := 2) (ci := 4) (k := 1) (v := .ref (ad 13)) kLC_11 rfl rfl i_X5 (by decide) q_172 rfl (gfv2 rLC_11_1) dX6_pass_120 ?_
                refine lv_iload_n hx hb dX6_pass_123 rfl (lv_at hl 7 rfl) ?_
                refine lv_iload hx hb dX6_pass_124 (lv_at hl 3 rfl) ?_
                refine g_iast K hW kLC_13 g33 rfl dX6_pass_126 (fun H locs hW => ?_)
                obtain ⟨I39, e38, h⟩ := lz_o h
                replace hW := gWd_nI e38 hW
                refine lv_aload_n hx hb dX6_pass_127 rfl (lv_at hl 4 rfl) ?_
                refine g_get K hW (t := 2) (ci := 4) (k := 1) (v := .ref (ad 13)) kLC_11 rfl rfl i_X5 (by decide) q_172 rfl (gfv2 rLC_11_1) dX6_pass_128 ?_
                refine lv_iload_n hx hb dX6_pass_131 rfl (lv_at hl 6 rfl) ?_
                refine lv_iconst (v := (0 : Int32)) hx hb dX6_pass_132 (by decide) ?_
                refine g_iast K hW kLC_13 g11 rfl dX6_pass_133 (fun H locs hW => ?_)
                obtain ⟨I41, e40, h⟩ := lz_o h
                replace hW := gWd_nI e40 hW
                refine lv_aload_n hx hb dX6_pass_134 rfl (lv_at hl 4 rfl) ?_
                refine g_get K hW (t := 2) (ci := 4) (k := 0) (v := .ref (ad 12)) kLC_11 rfl rfl i_X5 (by decide) q_169 rfl (gfv2 rLC_11_0) dX6_pass_135 ?_
                refine lv_iload_n hx hb dX6_pass_138 rfl (lv_at hl 7 rfl) ?_
                refine lv_dup2_11 hx hb dX6_pass_139 rfl rfl ?_
                refine g_iald K hW kLC_12 g33 rfl dX6_pass_140 ?_
                refine lv_iload hx hb dX6_pass_141 (lv_at hl 0 rfl) ?_
                refine lv_isub hx hb dX6_pass_143 ?_
                refine g_iast K hW kLC_12 g33 rfl dX6_pass_144 (fun H locs hW => ?_)
                obtain ⟨I43, e42, h⟩ := lz_o h
                replace hW := gWd_nI e42 hW
                refine lv_aload_n hx hb dX6_pass_145 rfl (lv_at hl 4 rfl) ?_
                refine g_get K hW (t := 2) (ci := 4) (k := 0) (v := .ref (ad 12)) kLC_11 rfl rfl i_X5 (by decide) q_169 rfl (gfv2 rLC_11_0) dX6_pass_146 ?_
                refine lv_iload_n hx hb dX6_pass_149 rfl (lv_at hl 6 rfl) ?_
                refine lv_sipush (v := (999 : Int32)) hx hb dX6_pass_150 (by decide) ?_
                refine lv_aload_n hx hb dX6_pass_153 rfl (lv_at hl 4 rfl) ?_
                refine g_get K hW (t := 2) (ci := 4) (k := 0) (v := .ref (ad 12)) kLC_11 rfl rfl i_X5 (by decide) q_169 rfl (gfv2 rLC_11_0) dX6_pass_154 ?_
                refine lv_iload_n hx hb dX6_pass_157 rfl (lv_at hl 6 rfl) ?_
                refine g_iald K hW kLC_12 g11 rfl dX6_pass_158 ?_
                refine lv_iload hx hb dX6_pass_159 (lv_at hl 0 rfl) ?_
                refine lv_iadd hx hb dX6_pass_161 ?_
                refine g_min K hl q_747 (by decide) (Nat.le_of_ble_eq_true rfl) ⟨Nat.zero_le _, Nat.zero_le _⟩ dX6_pass_162 ?_
                refine g_iast K hW kLC_12 g11 rfl dX6_pass_165 (fun H locs hW => ?_)
                obtain ⟨I45, e44, h⟩ := lz_o h
                replace hW := gWd_nI e44 hW
                refine lv_aload_n hx hb dX6_pass_166 rfl (lv_at hl 4 rfl) ?_
                refine lv_iconst (v := (4 : Int32)) hx hb dX6_pass_167 (by decide) ?_
                refine lv_iload_n hx hb dX6_pass_168 rfl (lv_at hl 7 rfl) ?_
                refine lv_iload hx hb dX6_pass_169 (lv_at hl 0 rfl) ?_
                obtain ⟨I46, e47, h⟩ := bd_o h hn
                refine g_callVv (rest := []) K hW hl (kX5_writeDown (l := l) (G := G) (ad := ad) hok 11 kLC_11 (4 : Int32) x2 u30 I45 J I46 e47) kLC_11 rfl (gG_V q_748 q_749 q_750 q_135 q_751) nm_X5_writeDown ⟨Nat.le_of_ble_eq_true rfl, Nat.le_of_ble_eq_true rfl⟩ rfl rfl (Nat.le_of_ble_eq_true rfl) ⟨Nat.zero_le _, Nat.zero_le _⟩ dX6_pass_171 (fun H locs hW => ?_)
                refine lv_iload hx hb dX6_pass_174 (lv_at hl 0 rfl) ?_
                obtain ⟨a1, a2⟩ := so2 h
                replace hW := gWd_nI a2 hW
                exact g_nmi a1 (hfin _ _ _ _ hW dX6_pass_176)
              · replace h := gi_f h c34
                refine lv_iconst (v := (-1 : Int32)) hx hb dX6_pass_113 (by decide) ?_
                obtain ⟨a1, a2⟩ := so2 h
                replace hW := gWd_nI a2 hW
                exact g_nmi a1 (hfin _ _ _ _ hW dX6_pass_114)
          · replace h := gi_f h c21
            refine lv_iconst (v := (-1 : Int32)) hx hb dX6_pass_70 (by decide) ?_
            obtain ⟨a1, a2⟩ := so2 h
            replace hW := gWd_nI a2 hW
            exact g_nmi a1 (hfin _ _ _ _ hW dX6_pass_71)
      · replace h := gi_f h c10
        refine lv_iconst (v := (-1 : Int32)) hx hb dX6_pass_24 (by decide) ?_
        obtain ⟨a1, a2⟩ := so2 h
        replace hW := gWd_nI a2 hW
        exact g_nmi a1 (hfin _ _ _ _ hW dX6_pass_25)
noncomputable def fX6_drawnAnew  (x0 : Int32)  : Int32 :=
  (jrem ((x0 * (719 : Int32)) + (587 : Int32)) (31039 : Int32))
set_option maxHeartbeats 4000000 in
set_option maxRecDepth 100000 in
theorem kX6_drawnAnew {l : Launch} {G : gG} {ad : Nat → Nat} (hok : gInj LC ad)    (x0 : Int32) (I : gI) (J : gJ) (r : Int32) (h : fX6_drawnAnew x0 = r) : gMi l yX6_drawnAnew cX6_drawnAnew 1 (some .int) 1 G LC ad [.int x0] I J r True I J := by
  refine gMi_of (lst := [(0, .int x0)]) (by decide) hok (Nat.le_of_ble_eq_true rfl) rfl ?_
  intro p e s m args below meth c Q ls K hW hl hfin
  have hx := K.1; have hb := K.2.1; have hown := K.2.2.2.1; have hts := K.2.2.2.2.1
  unfold fX6_drawnAnew at h
  refine lv_iload_n hx hb dX6_drawnAnew_0 rfl (lv_at hl 0 rfl) ?_
  refine lv_sipush (v := (719 : Int32)) hx hb dX6_drawnAnew_1 (by decide) ?_
  refine lv_imul hx hb dX6_drawnAnew_4 ?_
  refine lv_sipush (v := (587 : Int32)) hx hb dX6_drawnAnew_5 (by decide) ?_
  refine lv_iadd hx hb dX6_drawnAnew_8 ?_
  refine lv_sipush (v := (31039 : Int32)) hx hb dX6_drawnAnew_9 (by decide) ?_
  refine g_irem hx hb dX6_drawnAnew_12 (by decide) ?_
  obtain a1 := h.symm
  exact g_nmi a1 (hfin _ _ _ _ hW dX6_drawnAnew_13)
noncomputable def fX6_oddsTogether_4b  (rec : Int32 → Int32 → gI → Option ((Int32))) (u1 : Int32) (u2 : Int32) (I : gI) : Option ((Int32)) :=
  gi ((5 : Int32) ≤ u2)
 (some u1)
 (gd (vp_in u2 5) (lz ((u1 + (I 2 (u2).toNatClampNeg))) (fun (u6 : Int32) => lz ((u2 + (1 : Int32))) (fun (u8 : Int32) => rec u6 u8 I))))
noncomputable def fX6_oddsTogether_4  : Nat → Int32 → Int32 → gI → Option ((Int32))
  | 0 => fun _ _ _ => none
  | n + 1 => fX6_oddsTogether_4b  (fX6_oddsTogether_4  n)
set_option maxHeartbeats 4000000 in
set_option maxRecDepth 100000 in
theorem tX6_oddsTogether_4 {l : Launch} {G : gG} {ad : Nat → Nat} {p : Program} {e : Env} {s : State} {m : MethodId} {args : Array Value} {below : List Frame} {meth : Method} {c : Code} {Q : State → Prop} (hok : gInj LC ad) (K : gCx G (gA LC ad) p s m args c cX6_oddsTogether 3 RX6)  : ∀ (n : Nat) (u1 : Int32) (u2 : Int32) (I : gI) (J : gJ) (out : Option ((Int32))), fX6_oddsTogether_4  n u1 u2 I = out → out ≠ none → ∀ (H : Heap) (locs : List Loc), gWd G LC ad (gA LC ad) s.heap I J H locs → ∀ (ls : Array Slot), lv_has ls 3 [(0, .ref (ad 0)), (1, .int u1), (2, .int u2)] → (∀ (y3 : Int32), some y3 = out → ∀ (H : Heap) (locs : List Loc), gWd G LC ad (gA LC ad) s.heap I J H locs → ∀ (ls : Array Slot), lv_has ls 3 [(1, .int y3)] → W p l e (gRm 1) s m args below meth c H locs 0 0 Q (F0 m 27 ls [])) → W p l e (gRm 1) s m args below meth c H locs 0 0 Q (F0 m 4 ls []) := by
  have hx := K.1; have hb := K.2.1; have hown := K.2.2.2.1; have hts := K.2.2.2.2.1
  intro n
  induction n with
  | zero => intro u1 u2 I J out h hn; exact absurd h.symm hn
  | succ n ih =>
    intro u1 u2 I J out h hn H locs hW ls hl hx1
    replace h : fX6_oddsTogether_4b  (fX6_oddsTogether_4  n) u1 u2 I = out := h
    unfold fX6_oddsTogether_4b at h
    refine lv_iload_n hx hb dX6_oddsTogether_4 rfl (lv_at hl 2 rfl) ?_
    refine lv_iconst (v := (5 : Int32)) hx hb dX6_oddsTogether_5 (by decide) ?_
    refine lv_icmp_ge (tgt := 27) hx hb dX6_oddsTogether_6 (by decide) (fun c4 => ?_) (fun c4 => ?_)
    · replace h := gi_t h c4
      exact hx1 u1 h _ _ hW _ (lv_sub hl [1] rfl)
    · replace h := gi_f h c4
      refine lv_iload_n hx hb dX6_oddsTogether_9 rfl (lv_at hl 1 rfl) ?_
      refine lv_aload_n hx hb dX6_oddsTogether_10 rfl (lv_at hl 0 rfl) ?_
      refine g_get K hW (t := 2) (ci := 5) (k := 0) (v := .ref (ad 1)) kLC_0 rfl rfl i_X6 (by decide) q_393 rfl (gfv2 rLC_0_0) dX6_oddsTogether_11 ?_
      refine g_get K hW (t := 2) (ci := 0) (k := 0) (v := .ref (ad 2)) kLC_1 rfl rfl i_X0 (by decide) q_212 rfl (gfv2 rLC_1_0) dX6_oddsTogether_14 ?_
      refine lv_iload_n hx hb dX6_oddsTogether_17 rfl (lv_at hl 2 rfl) ?_
      obtain ⟨g5, h⟩ := gd_o h hn
      refine g_iald K hW kLC_2 g5 rfl dX6_oddsTogether_18 ?_
      refine lv_iadd hx hb dX6_oddsTogether_19 ?_
      obtain ⟨u6, e7, h⟩ := lz_o h
      refine g_nmi e7 ?_
      refine lv_istore_n (lv' := [(1, .int u6), (0, .ref (ad 0)), (2, .int u2)]) hx hb dX6_oddsTogether_20 rfl hl (by decide) rfl (fun ls hl => ?_)
      obtain ⟨u8, e9, h⟩ := lz_o h
      refine lv_iinc (v := u8) (lv' := [(2, .int u8), (1, .int u6), (0, .ref (ad 0))]) hx hb dX6_oddsTogether_21 hl (k := 2) rfl (by rw [e9]; rfl) (by decide) rfl (fun ls hl => ?_)
      refine lv_goto (tgt := 4) hx hb dX6_oddsTogether_24 (by decide) ?_
      exact ih u6 u8 I J _ h hn _ _ hW _ (lv_sub hl [2, 1, 0] rfl) hx1
noncomputable def fX6_oddsTogether   (I : gI) : Option (Int32) :=
  bd (fX6_oddsTogether_4 FU (0 : Int32) (0 : Int32) I) (fun (u12 : Int32) => some u12)
set_option maxHeartbeats 4000000 in
set_option maxRecDepth 100000 in
theorem kX6_oddsTogether {l : Launch} {G : gG} {ad : Nat → Nat} (hok : gInj LC ad)     (I : gI) (J : gJ) (r : Int32) (h : fX6_oddsTogether I = some r) : gMi l yX6_oddsTogether cX6_oddsTogether 3 (some .int) 1 G LC ad [.ref (ad 0)] I J r True I J := by
  refine gMi_of (lst := [(0, .ref (ad 0))]) (by decide) hok (Nat.le_of_ble_eq_true rfl) rfl ?_
  intro p e s m args below meth c Q ls K hW hl hfin
  have hn : (some r : Option (Int32)) ≠ none := Option.some_ne_none _
  have hx := K.1; have hb := K.2.1; have hown := K.2.2.2.1; have hts := K.2.2.2.2.1
  unfold fX6_oddsTogether at h
  refine lv_iconst (v := (0 : Int32)) hx hb dX6_oddsTogether_0 (by decide) ?_
  refine lv_istore_n (lv' := [(1, .int (0 : Int32)), (0, .ref (ad 0))]) hx hb dX6_oddsTogether_1 rfl hl (by decide) rfl (fun ls hl => ?_)
  refine lv_iconst (v := (0 : Int32)) hx hb dX6_oddsTogether_2 (by decide) ?_
  refine lv_istore_n (lv' := [(2, .int (0 : Int32)), (1, .int (0 : Int32)), (0, .ref (ad 0))]) hx hb dX6_oddsTogether_3 rfl hl (by decide) rfl (fun ls hl => ?_)
  obtain ⟨r10, e11, h⟩ := bd_o h hn
  refine tX6_oddsTogether_4 hok K FU (0 : Int32) (0 : Int32) I J (some r10) e11 (Option.some_ne_none _) _ _ hW _ (lv_sub hl [2, 1, 0] rfl) ?_
  · intro u12 q13 H locs hW ls hl
    replace q13 := Option.some.inj q13
    subst q13
    refine lv_iload_n hx hb dX6_oddsTogether_27 rfl (lv_at hl 0 rfl) ?_
    obtain a1 := so1 h
    exact g_nmi a1 (hfin _ _ _ _ hW dX6_oddsTogether_28)
theorem nm_X6_oddsTogether : gNm yX6_oddsTogether 0 := by decide +kernel
theorem nm_X6_drawnAnew : gNm yX6_drawnAnew 1 := by decide +kernel
noncomputable def fX6_drawSort_39b (w0 : Nat) (rec : Int32 → Int32 → Int32 → gI → Option ((Int32) ⊕ (Unit))) (u13 : Int32) (u14 : Int32) (u15 : Int32) (I : gI) : Option ((Int32) ⊕ (Unit)) :=
  gi ((5 : Int32) ≤ u15)
 (some (Sum.inr ()))
 (gd (vp_in u15 5) (lz ((u14 + (I 2 (u15).toNatClampNeg))) (fun (u19 : Int32) => gi (u19 ≤ u13)
 (lz ((u15 + (1 : Int32))) (fun (u22 : Int32) => rec u13 u19 u22 I))
 (some (Sum.inl u15)))))
noncomputable def fX6_drawSort_39 (w0 : Nat) : Nat → Int32 → Int32 → Int32 → gI → Option ((Int32) ⊕ (Unit))
  | 0 => fun _ _ _ _ => none
  | n + 1 => fX6_drawSort_39b w0 (fX6_drawSort_39 w0 n)
set_option maxHeartbeats 4000000 in
set_option maxRecDepth 100000 in
theorem tX6_drawSort_39 {l : Launch} {G : gG} {ad : Nat → Nat} {p : Program} {e : Env} {s : State} {m : MethodId} {args : Array Value} {below : List Frame} {meth : Method} {c : Code} {Q : State → Prop} (hok : gInj LC ad) (K : gCx G (gA LC ad) p s m args c cX6_drawSort 6 RX6) (w0 : Nat) (hw0 : gAt LC w0 0 4) : ∀ (n : Nat) (u13 : Int32) (u14 : Int32) (u15 : Int32) (I : gI) (J : gJ) (out : Option ((Int32) ⊕ (Unit))), fX6_drawSort_39 w0 n u13 u14 u15 I = out → out ≠ none → ∀ (H : Heap) (locs : List Loc), gWd G LC ad (gA LC ad) s.heap I J H locs → ∀ (ls : Array Slot), lv_has ls 6 [(0, .ref (ad 0)), (1, .ref (ad w0)), (3, .int u13), (4, .int u14), (5, .int u15)] → (∀ (y16 : Int32), some (Sum.inl y16) = out → ∀ (H : Heap) (locs : List Loc), gWd G LC ad (gA LC ad) s.heap I J H locs → ∀ (ls : Array Slot), lv_has ls 6 [(1, .ref (ad w0)), (5, .int y16)] → W p l e (gRm 2) s m args below meth c H locs 0 0 Q (F0 m 66 ls [])) → (some (Sum.inr ()) = out → ∀ (H : Heap) (locs : List Loc), gWd G LC ad (gA LC ad) s.heap I J H locs → ∀ (ls : Array Slot), lv_has ls 6 [] → W p l e (gRm 2) s m args below meth c H locs 0 0 Q (F0 m 79 ls [])) → W p l e (gRm 2) s m args below meth c H locs 0 0 Q (F0 m 39 ls []) := by
  have hx := K.1; have hb := K.2.1; have hown := K.2.2.2.1; have hts := K.2.2.2.2.1
  intro n
  induction n with
  | zero => intro u13 u14 u15 I J out h hn; exact absurd h.symm hn
  | succ n ih =>
    intro u13 u14 u15 I J out h hn H locs hW ls hl hx1 hx2
    replace h : fX6_drawSort_39b w0 (fX6_drawSort_39 w0 n) u13 u14 u15 I = out := h
    unfold fX6_drawSort_39b at h
    refine lv_iload hx hb dX6_drawSort_39 (lv_at hl 4 rfl) ?_
    refine lv_iconst (v := (5 : Int32)) hx hb dX6_drawSort_41 (by decide) ?_
    refine lv_icmp_ge (tgt := 79) hx hb dX6_drawSort_42 (by decide) (fun c17 => ?_) (fun c17 => ?_)
    · replace h := gi_t h c17
      exact hx2 h _ _ hW _ (lv_sub hl [] rfl)
    · replace h := gi_f h c17
      refine lv_iload hx hb dX6_drawSort_45 (lv_at hl 3 rfl) ?_
      refine lv_aload_n hx hb dX6_drawSort_47 rfl (lv_at hl 0 rfl) ?_
      refine g_get K hW (t := 2) (ci := 5) (k := 0) (v := .ref (ad 1)) kLC_0 rfl rfl i_X6 (by decide) q_393 rfl (gfv2 rLC_0_0) dX6_drawSort_48 ?_
      refine g_get K hW (t := 2) (ci := 0) (k := 0) (v := .ref (ad 2)) kLC_1 rfl rfl i_X0 (by decide) q_212 rfl (gfv2 rLC_1_0) dX6_drawSort_51 ?_
      refine lv_iload hx hb dX6_drawSort_54 (lv_at hl 4 rfl) ?_
      obtain ⟨g18, h⟩ := gd_o h hn
      refine g_iald K hW kLC_2 g18 rfl dX6_drawSort_56 ?_
      refine lv_iadd hx hb dX6_drawSort_57 ?_
      obtain ⟨u19, e20, h⟩ := lz_o h
      refine g_nmi e20 ?_
      refine lv_istore (lv' := [(4, .int u19), (0, .ref (ad 0)), (1, .ref (ad w0)), (3, .int u13), (5, .int u15)]) hx hb dX6_drawSort_58 hl (by decide) rfl (fun ls hl => ?_)
      refine lv_iload hx hb dX6_drawSort_60 (lv_at hl 0 rfl) ?_
      refine lv_iload_n hx hb dX6_drawSort_62 rfl (lv_at hl 3 rfl) ?_
      refine lv_icmp_le (tgt := 73) hx hb dX6_drawSort_63 (by decide) (fun c21 => ?_) (fun c21 => ?_)
      · replace h := gi_t h c21
        obtain ⟨u22, e23, h⟩ := lz_o h
        refine lv_iinc (v := u22) (lv' := [(5, .int u22), (4, .int u19), (0, .ref (ad 0)), (1, .ref (ad w0)), (3, .int u13)]) hx hb dX6_drawSort_73 hl (k := 4) rfl (by rw [e23]; rfl) (by decide) rfl (fun ls hl => ?_)
        refine lv_goto (tgt := 39) hx hb dX6_drawSort_76 (by decide) ?_
        exact ih u13 u19 u22 I J _ h hn _ _ hW _ (lv_sub hl [2, 3, 4, 1, 0] rfl) hx1 hx2
      · replace h := gi_f h c21
        exact hx1 u15 h _ _ hW _ (lv_sub hl [2, 4] rfl)
noncomputable def fX6_drawSort (w0 : Nat)  (I : gI) : Option (gI) :=
  bd (fX6_oddsTogether I) (fun (u1 : Int32) => lz (wI I w0 5 (0 : Int32)) (fun (I4 : gI) => gi (0 < u1)
 (gd (¬ u1 = 0) (lz ((jrem (I4 w0 8) u1)) (fun (u8 : Int32) => lz (wI I4 w0 8 (fX6_drawnAnew (I4 w0 8))) (fun (I11 : gI) => bd (fX6_drawSort_39 w0 FU u8 (0 : Int32) (0 : Int32) I11) (sm (fun (u26 : Int32) => lz (wI I11 w0 5 u26) (fun (I28 : gI) => some I28)) (fun _ => some I11))))))
 (some I4)))
set_option maxHeartbeats 4000000 in
set_option maxRecDepth 100000 in
theorem kX6_drawSort {l : Launch} {G : gG} {ad : Nat → Nat} (hok : gInj LC ad)  (w0 : Nat) (hw0 : gAt LC w0 0 4)  (I : gI) (J : gJ) (I' : gI) (h : fX6_drawSort w0 I = some I') : gMv l yX6_drawSort cX6_drawSort 6 none 2 G LC ad [.ref (ad 0), .ref (ad w0)] I J I' J := by
  refine gMv_of (lst := [(0, .ref (ad 0)), (1, .ref (ad w0))]) (by decide) hok (Nat.le_of_ble_eq_true rfl) rfl ?_
  intro p e s m args below meth c Q ls K hW hl hfin
  have hn : (some I' : Option (gI)) ≠ none := Option.some_ne_none _
  have hx := K.1; have hb := K.2.1; have hown := K.2.2.2.1; have hts := K.2.2.2.2.1
  unfold fX6_drawSort at h
  refine lv_aload_n hx hb dX6_drawSort_0 rfl (lv_at hl 0 rfl) ?_
  obtain ⟨u1, e2, h⟩ := bd_o h hn
  refine g_callVi (rest := []) K hW hl (kX6_oddsTogether (l := l) (G := G) (ad := ad) hok I J u1 e2) kLC_0 rfl (gG_V q_804 q_806 q_38 q_133 q_807) nm_X6_oddsTogether ⟨Nat.le_of_ble_eq_true rfl, Nat.le_of_ble_eq_true rfl⟩ rfl rfl (Nat.le_of_ble_eq_true rfl) ⟨Nat.zero_le _, Nat.zero_le _⟩ dX6_drawSort_1 (fun z3 H locs hW => ?_)
  refine lv_istore_n (lv' := [(2, .int u1), (0, .ref (ad 0)), (1, .ref (ad w0))]) hx hb dX6_drawSort_4 rfl hl (by decide) rfl (fun ls hl => ?_)
  refine lv_aload_n hx hb dX6_drawSort_5 rfl (lv_at hl 2 rfl) ?_
  refine lv_iconst (v := (0 : Int32)) hx hb dX6_drawSort_6 (by decide) ?_
  refine g_putI K hW (ci := 4) (k := 5) hw0 rfl rfl i_X5 tyX5_ok nmX5 (by decide) q_182 rfl rfl rfl rfl dX6_drawSort_7 (fun H locs hW => ?_)
  obtain ⟨I4, e5, h⟩ := lz_o h
  replace hW := gWd_nI e5 hW
  refine lv_iload_n hx hb dX6_drawSort_10 rfl (lv_at hl 0 rfl) ?_
  refine lv_if_gt (tgt := 15) hx hb dX6_drawSort_11 (by decide) (fun c6 => ?_) (fun c6 => ?_)
  · replace h := gi_t h c6
    refine lv_aload_n hx hb dX6_drawSort_15 rfl (lv_at hl 2 rfl) ?_
    refine g_get K hW (t := 0) (ci := 4) (k := 8) (v := .int (I4 w0 8)) hw0 rfl rfl i_X5 (by decide) q_189 rfl rfl dX6_drawSort_16 ?_
    refine lv_iload_n hx hb dX6_drawSort_19 rfl (lv_at hl 0 rfl) ?_
    obtain ⟨g7, h⟩ := gd_o h hn
    refine g_irem hx hb dX6_drawSort_20 g7 ?_
    obtain ⟨u8, e9, h⟩ := lz_o h
    refine g_nmi e9 ?_
    refine lv_istore_n (lv' := [(3, .int u8), (2, .int u1), (0, .ref (ad 0)), (1, .ref (ad w0))]) hx hb dX6_drawSort_21 rfl hl (by decide) rfl (fun ls hl => ?_)
    refine lv_aload_n hx hb dX6_drawSort_22 rfl (lv_at hl 3 rfl) ?_
    refine lv_aload_n hx hb dX6_drawSort_23 rfl (lv_at hl 3 rfl) ?_
    refine g_get K hW (t := 0) (ci := 4) (k := 8) (v := .int (I4 w0 8)) hw0 rfl rfl i_X5 (by decide) q_189 rfl rfl dX6_drawSort_24 ?_
    refine g_callSi (rest := [.ref (ad w0)]) K hW hl (kX6_drawnAnew (l := l) (G := G) (ad := ad) hok (I4 w0 8) I4 J (fX6_drawnAnew (I4 w0 8)) rfl) q_808 q_809 q_133 q_810 nm_X6_drawnAnew ⟨Nat.le_of_ble_eq_true rfl, Nat.le_of_ble_eq_true rfl⟩ rfl rfl (Nat.le_of_ble_eq_true rfl) ⟨Nat.zero_le _, Nat.zero_le _⟩ dX6_drawSort_27 (fun z10 H locs hW => ?_)
    refine g_putI K hW (ci := 4) (k := 8) hw0 rfl rfl i_X5 tyX5_ok nmX5 (by decide) q_189 rfl rfl rfl rfl dX6_drawSort_30 (fun H locs hW => ?_)
    obtain ⟨I11, e12, h⟩ := lz_o h
    replace hW := gWd_nI e12 hW
    refine lv_iconst (v := (0 : Int32)) hx hb dX6_drawSort_33 (by decide) ?_
    refine lv_istore (lv' := [(4, .int (0 : Int32)), (3, .int u8), (2, .int u1), (0, .ref (ad 0)), (1, .ref (ad w0))]) hx hb dX6_drawSort_34 hl (by decide) rfl (fun ls hl => ?_)
    refine lv_iconst (v := (0 : Int32)) hx hb dX6_drawSort_36 (by decide) ?_
    refine lv_istore (lv' := [(5, .int (0 : Int32)), (4, .int (0 : Int32)), (3, .int u8), (2, .int u1), (0, .ref (ad 0)), (1, .ref (ad w0))]) hx hb dX6_drawSort_37 hl (by decide) rfl (fun ls hl => ?_)
    obtain ⟨r24, e25, h⟩ := bd_o h hn
    refine tX6_drawSort_39 hok K w0 hw0 FU u8 (0 : Int32) (0 : Int32) I11 J (some r24) e25 (Option.some_ne_none _) _ _ hW _ (lv_sub hl [4, 5, 2, 1, 0] rfl) ?_ ?_
    · intro u26 q27 H locs hW ls hl
      replace q27 := Option.some.inj q27
      subst q27
      replace h := sm_l h
      refine lv_aload_n hx hb dX6_drawSort_66 rfl (lv_at hl 0 rfl) ?_
      refine lv_iload hx hb dX6_drawSort_67 (lv_at hl 1 rfl) ?_
      refine g_putI K hW (ci := 4) (k := 5) hw0 rfl rfl i_X5 tyX5_ok nmX5 (by decide) q_182 rfl rfl rfl rfl dX6_drawSort_69 (fun H locs hW => ?_)
      obtain ⟨I28, e29, h⟩ := lz_o h
      replace hW := gWd_nI e29 hW
      obtain a1 := so1 h
      replace hW := gWd_nI a1 hW
      exact hfin _ _ _ _ hW dX6_drawSort_72
    · intro q30 H locs hW ls hl
      replace q30 := Option.some.inj q30
      subst q30
      replace h := sm_r h
      obtain a1 := so1 h
      replace hW := gWd_nI a1 hW
      exact hfin _ _ _ _ hW dX6_drawSort_79
  · replace h := gi_f h c6
    obtain a1 := so1 h
    replace hW := gWd_nI a1 hW
    exact hfin _ _ _ _ hW dX6_drawSort_14
noncomputable def fX6_earns (w0 : Nat) (x2 : Int32) (I : gI) : Option (Int32 × gI) :=
  gi ((fX6_isText (I 1 14) I) = 0)
 (some ((1 : Int32), I))
 (gd (vp_in (I 1 14) 4) (bd (fX3_rules (296 + 8 * ((I 1 14)).toNatClampNeg) (1 : Int32) I) (fun (u4 : Int32) => gi (u4 = 0)
 (some ((1 : Int32), I))
 (bd (fX2_worked (296 + 8 * ((I 1 14)).toNatClampNeg) w0 (1 : Int32) x2 (I w0 5) I) (pr (fun (u8 : Int32) (I9 : gI) => some ((fX6_held u8 (-9 : Int32) (9 : Int32)), I9)))))))
set_option maxHeartbeats 4000000 in
set_option maxRecDepth 100000 in
theorem kX6_earns {l : Launch} {G : gG} {ad : Nat → Nat} (hok : gInj LC ad)  (w0 : Nat) (hw0 : gAt LC w0 0 4) (x2 : Int32) (I : gI) (J : gJ) (r : Int32) (I' : gI) (h : fX6_earns w0 x2 I = some (r, I')) : gMi l yX6_earns cX6_earns 4 (some .int) 4 G LC ad [.ref (ad 0), .ref (ad w0), .int x2] I J r True I' J := by
  refine gMi_of (lst := [(0, .ref (ad 0)), (1, .ref (ad w0)), (2, .int x2)]) (by decide) hok (Nat.le_of_ble_eq_true rfl) rfl ?_
  intro p e s m args below meth c Q ls K hW hl hfin
  have hn : (some (r, I') : Option (Int32 × gI)) ≠ none := Option.some_ne_none _
  have hx := K.1; have hb := K.2.1; have hown := K.2.2.2.1; have hts := K.2.2.2.2.1
  unfold fX6_earns at h
  refine lv_aload_n hx hb dX6_earns_0 rfl (lv_at hl 0 rfl) ?_
  refine lv_aload_n hx hb dX6_earns_1 rfl (lv_at hl 0 rfl) ?_
  refine g_get K hW (t := 2) (ci := 5) (k := 0) (v := .ref (ad 1)) kLC_0 rfl rfl i_X6 (by decide) q_393 rfl (gfv2 rLC_0_0) dX6_earns_2 ?_
  refine g_get K hW (t := 0) (ci := 0) (k := 14) (v := .int (I 1 14)) kLC_1 rfl rfl i_X0 (by decide) q_243 rfl rfl dX6_earns_5 ?_
  refine g_callVi (rest := []) K hW hl (kX6_isText (l := l) (G := G) (ad := ad) hok (I 1 14) I J (fX6_isText (I 1 14) I) rfl) kLC_0 rfl (gG_V q_668 q_670 q_23 q_133 q_671) nm_X6_isText ⟨Nat.le_of_ble_eq_true rfl, Nat.le_of_ble_eq_true rfl⟩ rfl rfl (Nat.le_of_ble_eq_true rfl) ⟨Nat.zero_le _, Nat.zero_le _⟩ dX6_earns_8 (fun z1 H locs hW => ?_)
  refine lv_if_eq (tgt := 33) hx hb dX6_earns_11 (by decide) (fun c2 => ?_) (fun c2 => ?_)
  · replace h := gi_t h c2
    refine lv_iconst (v := (1 : Int32)) hx hb dX6_earns_33 (by decide) ?_
    obtain ⟨a1, a2⟩ := so2 h
    replace hW := gWd_nI a2 hW
    exact g_nmi a1 (hfin _ _ _ _ hW dX6_earns_34)
  · replace h := gi_f h c2
    refine lv_aload_n hx hb dX6_earns_14 rfl (lv_at hl 0 rfl) ?_
    refine g_get K hW (t := 2) (ci := 5) (k := 2) (v := .ref (ad 273)) kLC_0 rfl rfl i_X6 (by decide) q_395 rfl (gfv2 rLC_0_2) dX6_earns_15 ?_
    refine lv_aload_n hx hb dX6_earns_18 rfl (lv_at hl 0 rfl) ?_
    refine g_get K hW (t := 2) (ci := 5) (k := 0) (v := .ref (ad 1)) kLC_0 rfl rfl i_X6 (by decide) q_393 rfl (gfv2 rLC_0_0) dX6_earns_19 ?_
    refine g_get K hW (t := 0) (ci := 0) (k := 14) (v := .int (I 1 14)) kLC_1 rfl rfl i_X0 (by decide) q_243 rfl rfl dX6_earns_22 ?_
    obtain ⟨g3, h⟩ := gd_o h hn
    refine g_aald6 K hW kLC_273 g3 (rTa _) dX6_earns_25 ?_
    refine lv_iconst (v := (1 : Int32)) hx hb dX6_earns_26 (by decide) ?_
    obtain ⟨u4, e5, h⟩ := bd_o h hn
    refine g_callVi (rest := []) K hW hl (kX3_rules (l := l) (G := G) (ad := ad) hok (296 + 8 * ((I 1 14)).toNatClampNeg) (kTa g3) (1 : Int32) I J u4 e5) (kTa g3) rfl (gG_V q_692 q_580 q_581 q_137 q_582) nm_X3_rules ⟨Nat.le_of_ble_eq_true rfl, Nat.le_of_ble_eq_true rfl⟩ rfl rfl (Nat.le_of_ble_eq_true rfl) ⟨Nat.zero_le _, Nat.zero_le _⟩ dX6_earns_27 (fun z6 H locs hW => ?_)
    refine lv_if_ne (tgt := 35) hx hb dX6_earns_30 (by decide) (fun c7 => ?_) (fun c7 => ?_)
    · replace h := gi_f h c7
      refine lv_aload_n hx hb dX6_earns_35 rfl (lv_at hl 0 rfl) ?_
      refine g_get K hW (t := 2) (ci := 5) (k := 5) (v := .ref (ad 287)) kLC_0 rfl rfl i_X6 (by decide) q_398 rfl (gfv2 rLC_0_5) dX6_earns_36 ?_
      refine lv_aload_n hx hb dX6_earns_39 rfl (lv_at hl 0 rfl) ?_
      refine g_get K hW (t := 2) (ci := 5) (k := 2) (v := .ref (ad 273)) kLC_0 rfl rfl i_X6 (by decide) q_395 rfl (gfv2 rLC_0_2) dX6_earns_40 ?_
      refine lv_aload_n hx hb dX6_earns_43 rfl (lv_at hl 0 rfl) ?_
      refine g_get K hW (t := 2) (ci := 5) (k := 0) (v := .ref (ad 1)) kLC_0 rfl rfl i_X6 (by decide) q_393 rfl (gfv2 rLC_0_0) dX6_earns_44 ?_
      refine g_get K hW (t := 0) (ci := 0) (k := 14) (v := .int (I 1 14)) kLC_1 rfl rfl i_X0 (by decide) q_243 rfl rfl dX6_earns_47 ?_
      refine g_aald6 K hW kLC_273 g3 (rTa _) dX6_earns_50 ?_
      refine lv_iconst (v := (1 : Int32)) hx hb dX6_earns_51 (by decide) ?_
      refine lv_aload_n hx hb dX6_earns_52 rfl (lv_at hl 0 rfl) ?_
      refine g_get K hW (t := 2) (ci := 5) (k := 0) (v := .ref (ad 1)) kLC_0 rfl rfl i_X6 (by decide) q_393 rfl (gfv2 rLC_0_0) dX6_earns_53 ?_
      refine lv_aload_n hx hb dX6_earns_56 rfl (lv_at hl 1 rfl) ?_
      refine lv_iload_n hx hb dX6_earns_57 rfl (lv_at hl 2 rfl) ?_
      refine lv_aload_n hx hb dX6_earns_58 rfl (lv_at hl 1 rfl) ?_
      refine g_get K hW (t := 0) (ci := 4) (k := 5) (v := .int (I w0 5)) hw0 rfl rfl i_X5 (by decide) q_182 rfl rfl dX6_earns_59 ?_
      obtain ⟨⟨u8, I9⟩, e10, h⟩ := bd_o h hn
      replace h := pr_o h
      refine g_callVi (rest := []) K hW hl (kX2_worked (l := l) (G := G) (ad := ad) hok (296 + 8 * ((I 1 14)).toNatClampNeg) w0 (kTa g3) hw0 (1 : Int32) x2 (I w0 5) I J u8 I9 e10) kLC_287 rfl (gG_V q_697 q_698 q_699 q_138 q_700) nm_X2_worked ⟨Nat.le_of_ble_eq_true rfl, Nat.le_of_ble_eq_true rfl⟩ rfl rfl (Nat.le_of_ble_eq_true rfl) ⟨Nat.zero_le _, Nat.zero_le _⟩ dX6_earns_62 (fun z11 H locs hW => ?_)
      refine lv_istore_n (lv' := [(3, .int u8), (0, .ref (ad 0)), (1, .ref (ad w0)), (2, .int x2)]) hx hb dX6_earns_65 rfl hl (by decide) rfl (fun ls hl => ?_)
      refine lv_iload_n hx hb dX6_earns_66 rfl (lv_at hl 0 rfl) ?_
      refine lv_bipush (v := (-9 : Int32)) hx hb dX6_earns_67 (by decide) ?_
      refine lv_bipush (v := (9 : Int32)) hx hb dX6_earns_69 (by decide) ?_
      refine g_callSi (rest := []) K hW hl (kX6_held (l := l) (G := G) (ad := ad) hok u8 (-9 : Int32) (9 : Int32) I9 J (fX6_held u8 (-9 : Int32) (9 : Int32)) rfl) q_728 q_729 q_133 q_730 nm_X6_held ⟨Nat.le_of_ble_eq_true rfl, Nat.le_of_ble_eq_true rfl⟩ rfl rfl (Nat.le_of_ble_eq_true rfl) ⟨Nat.zero_le _, Nat.zero_le _⟩ dX6_earns_71 (fun z12 H locs hW => ?_)
      obtain ⟨a1, a2⟩ := so2 h
      replace hW := gWd_nI a2 hW
      exact g_nmi a1 (hfin _ _ _ _ hW dX6_earns_74)
    · replace h := gi_t h c7
      refine lv_iconst (v := (1 : Int32)) hx hb dX6_earns_33 (by decide) ?_
      obtain ⟨a1, a2⟩ := so2 h
      replace hW := gWd_nI a2 hW
      exact g_nmi a1 (hfin _ _ _ _ hW dX6_earns_34)
theorem nm_X6_earns : gNm yX6_earns 2 := by decide +kernel
theorem nm_X6_drawSort : gNm yX6_drawSort 1 := by decide +kernel
noncomputable def fX6_dawnComes_2b (w0 : Nat) (rec : Int32 → gI → Option ((gI))) (u1 : Int32) (I : gI) : Option ((gI)) :=
  gi ((I 1 12) ≤ u1)
 (some I)
 (gd (vp_in u1 6) (bd (fX6_earns w0 u1 I) (pr (fun (u5 : Int32) (I6 : gI) => lz ((fX6_held ((I (w0 + 1) (u1).toNatClampNeg) + u5) (0 : Int32) (999 : Int32))) (fun (u10 : Int32) => lz (wI I6 (w0 + 1) (u1).toNatClampNeg u10) (fun (I13 : gI) => lz ((u1 + (1 : Int32))) (fun (u14 : Int32) => rec u14 I13)))))))
noncomputable def fX6_dawnComes_2 (w0 : Nat) : Nat → Int32 → gI → Option ((gI))
  | 0 => fun _ _ => none
  | n + 1 => fX6_dawnComes_2b w0 (fX6_dawnComes_2 w0 n)
set_option maxHeartbeats 4000000 in
set_option maxRecDepth 100000 in
theorem tX6_dawnComes_2 {l : Launch} {G : gG} {ad : Nat → Nat} {p : Program} {e : Env} {s : State} {m : MethodId} {args : Array Value} {below : List Frame} {meth : Method} {c : Code} {Q : State → Prop} (hok : gInj LC ad) (K : gCx G (gA LC ad) p s m args c cX6_dawnComes 3 RX6) (w0 : Nat) (hw0 : gAt LC w0 0 4) : ∀ (n : Nat) (u1 : Int32) (I : gI) (J : gJ) (out : Option ((gI))), fX6_dawnComes_2 w0 n u1 I = out → out ≠ none → ∀ (H : Heap) (locs : List Loc), gWd G LC ad (gA LC ad) s.heap I J H locs → ∀ (ls : Array Slot), lv_has ls 3 [(0, .ref (ad 0)), (1, .ref (ad w0)), (2, .int u1)] → (∀ (I2 : gI), some I2 = out → ∀ (H : Heap) (locs : List Loc), gWd G LC ad (gA LC ad) s.heap I2 J H locs → ∀ (ls : Array Slot), lv_has ls 3 [(0, .ref (ad 0)), (1, .ref (ad w0))] → W p l e (gRm 5) s m args below meth c H locs 0 0 Q (F0 m 45 ls [])) → W p l e (gRm 5) s m args below meth c H locs 0 0 Q (F0 m 2 ls []) := by
  have hx := K.1; have hb := K.2.1; have hown := K.2.2.2.1; have hts := K.2.2.2.2.1
  intro n
  induction n with
  | zero => intro u1 I J out h hn; exact absurd h.symm hn
  | succ n ih =>
    intro u1 I J out h hn H locs hW ls hl hx1
    replace h : fX6_dawnComes_2b w0 (fX6_dawnComes_2 w0 n) u1 I = out := h
    unfold fX6_dawnComes_2b at h
    refine lv_iload_n hx hb dX6_dawnComes_2 rfl (lv_at hl 2 rfl) ?_
    refine lv_aload_n hx hb dX6_dawnComes_3 rfl (lv_at hl 0 rfl) ?_
    refine g_get K hW (t := 2) (ci := 5) (k := 0) (v := .ref (ad 1)) kLC_0 rfl rfl i_X6 (by decide) q_393 rfl (gfv2 rLC_0_0) dX6_dawnComes_4 ?_
    refine g_get K hW (t := 0) (ci := 0) (k := 12) (v := .int (I 1 12)) kLC_1 rfl rfl i_X0 (by decide) q_238 rfl rfl dX6_dawnComes_7 ?_
    refine lv_icmp_ge (tgt := 45) hx hb dX6_dawnComes_10 (by decide) (fun c3 => ?_) (fun c3 => ?_)
    · replace h := gi_t h c3
      exact hx1 I h _ _ hW _ (lv_sub hl [0, 1] rfl)
    · replace h := gi_f h c3
      refine lv_aload_n hx hb dX6_dawnComes_13 rfl (lv_at hl 1 rfl) ?_
      refine g_get K hW (t := 2) (ci := 4) (k := 0) (v := .ref (ad (w0 + 1))) hw0 rfl rfl i_X5 (by decide) q_169 rfl (gfv2 (rW_0 hw0)) dX6_dawnComes_14 ?_
      refine lv_iload_n hx hb dX6_dawnComes_17 rfl (lv_at hl 2 rfl) ?_
      refine lv_aload_n hx hb dX6_dawnComes_18 rfl (lv_at hl 1 rfl) ?_
      refine g_get K hW (t := 2) (ci := 4) (k := 0) (v := .ref (ad (w0 + 1))) hw0 rfl rfl i_X5 (by decide) q_169 rfl (gfv2 (rW_0 hw0)) dX6_dawnComes_19 ?_
      refine lv_iload_n hx hb dX6_dawnComes_22 rfl (lv_at hl 2 rfl) ?_
      obtain ⟨g4, h⟩ := gd_o h hn
      refine g_iald K hW (kW_0 hw0) g4 rfl dX6_dawnComes_23 ?_
      refine lv_aload_n hx hb dX6_dawnComes_24 rfl (lv_at hl 0 rfl) ?_
      refine lv_aload_n hx hb dX6_dawnComes_25 rfl (lv_at hl 1 rfl) ?_
      refine lv_iload_n hx hb dX6_dawnComes_26 rfl (lv_at hl 2 rfl) ?_
      obtain ⟨⟨u5, I6⟩, e7, h⟩ := bd_o h hn
      replace h := pr_o h
      refine g_callVi (rest := [.int (I (w0 + 1) (u1).toNatClampNeg), .int u1, .ref (ad (w0 + 1))]) K hW hl (kX6_earns (l := l) (G := G) (ad := ad) hok w0 hw0 u1 I J u5 I6 e7) kLC_0 rfl (gG_V q_796 q_798 q_36 q_133 q_799) nm_X6_earns ⟨Nat.le_of_ble_eq_true rfl, Nat.le_of_ble_eq_true rfl⟩ rfl rfl (Nat.le_of_ble_eq_true rfl) ⟨Nat.zero_le _, Nat.zero_le _⟩ dX6_dawnComes_27 (fun z8 H locs hW => ?_)
      refine lv_iadd hx hb dX6_dawnComes_30 ?_
      refine lv_iconst (v := (0 : Int32)) hx hb dX6_dawnComes_31 (by decide) ?_
      refine lv_sipush (v := (999 : Int32)) hx hb dX6_dawnComes_32 (by decide) ?_
      refine g_callSi (rest := [.int u1, .ref (ad (w0 + 1))]) K hW hl (kX6_held (l := l) (G := G) (ad := ad) hok ((I (w0 + 1) (u1).toNatClampNeg) + u5) (0 : Int32) (999 : Int32) I6 J (fX6_held ((I (w0 + 1) (u1).toNatClampNeg) + u5) (0 : Int32) (999 : Int32)) rfl) q_728 q_729 q_133 q_730 nm_X6_held ⟨Nat.le_of_ble_eq_true rfl, Nat.le_of_ble_eq_true rfl⟩ rfl rfl (Nat.le_of_ble_eq_true rfl) ⟨Nat.zero_le _, Nat.zero_le _⟩ dX6_dawnComes_35 (fun z9 H locs hW => ?_)
      obtain ⟨u10, e11, h⟩ := lz_o h
      refine g_nmi e11 ?_
      refine g_iast K hW (kW_0 hw0) g4 rfl dX6_dawnComes_38 (fun H locs hW => ?_)
      obtain ⟨I13, e12, h⟩ := lz_o h
      replace hW := gWd_nI e12 hW
      obtain ⟨u14, e15, h⟩ := lz_o h
      refine lv_iinc (v := u14) (lv' := [(2, .int u14), (0, .ref (ad 0)), (1, .ref (ad w0))]) hx hb dX6_dawnComes_39 hl (k := 2) rfl (by rw [e15]; rfl) (by decide) rfl (fun ls hl => ?_)
      refine lv_goto (tgt := 2) hx hb dX6_dawnComes_42 (by decide) ?_
      exact ih u14 I13 J _ h hn _ _ hW _ (lv_sub hl [1, 2, 0] rfl) hx1
noncomputable def fX6_dawnComes_54b (w0 : Nat) (rec : Int32 → gI → Option ((gI))) (u22 : Int32) (I : gI) : Option ((gI)) :=
  gi ((6 : Int32) ≤ u22)
 (some I)
 (gd (vp_in u22 6) (lz (wI I (w0 + 2) (u22).toNatClampNeg (0 : Int32)) (fun (I27 : gI) => lz ((u22 + (1 : Int32))) (fun (u28 : Int32) => rec u28 I27))))
noncomputable def fX6_dawnComes_54 (w0 : Nat) : Nat → Int32 → gI → Option ((gI))
  | 0 => fun _ _ => none
  | n + 1 => fX6_dawnComes_54b w0 (fX6_dawnComes_54 w0 n)
set_option maxHeartbeats 4000000 in
set_option maxRecDepth 100000 in
theorem tX6_dawnComes_54 {l : Launch} {G : gG} {ad : Nat → Nat} {p : Program} {e : Env} {s : State} {m : MethodId} {args : Array Value} {below : List Frame} {meth : Method} {c : Code} {Q : State → Prop} (hok : gInj LC ad) (K : gCx G (gA LC ad) p s m args c cX6_dawnComes 3 RX6) (w0 : Nat) (hw0 : gAt LC w0 0 4) : ∀ (n : Nat) (u22 : Int32) (I : gI) (J : gJ) (out : Option ((gI))), fX6_dawnComes_54 w0 n u22 I = out → out ≠ none → ∀ (H : Heap) (locs : List Loc), gWd G LC ad (gA LC ad) s.heap I J H locs → ∀ (ls : Array Slot), lv_has ls 3 [(0, .ref (ad 0)), (1, .ref (ad w0)), (2, .int u22)] → (∀ (I23 : gI), some I23 = out → ∀ (H : Heap) (locs : List Loc), gWd G LC ad (gA LC ad) s.heap I23 J H locs → ∀ (ls : Array Slot), lv_has ls 3 [(0, .ref (ad 0)), (1, .ref (ad w0))] → W p l e (gRm 5) s m args below meth c H locs 0 0 Q (F0 m 73 ls [])) → W p l e (gRm 5) s m args below meth c H locs 0 0 Q (F0 m 54 ls []) := by
  have hx := K.1; have hb := K.2.1; have hown := K.2.2.2.1; have hts := K.2.2.2.2.1
  intro n
  induction n with
  | zero => intro u22 I J out h hn; exact absurd h.symm hn
  | succ n ih =>
    intro u22 I J out h hn H locs hW ls hl hx1
    replace h : fX6_dawnComes_54b w0 (fX6_dawnComes_54 w0 n) u22 I = out := h
    unfold fX6_dawnComes_54b at h
    refine lv_iload_n hx hb dX6_dawnComes_54 rfl (lv_at hl 2 rfl) ?_
    refine lv_bipush (v := (6 : Int32)) hx hb dX6_dawnComes_55 (by decide) ?_
    refine lv_icmp_ge (tgt := 73) hx hb dX6_dawnComes_57 (by decide) (fun c24 => ?_) (fun c24 => ?_)
    · replace h := gi_t h c24
      exact hx1 I h _ _ hW _ (lv_sub hl [0, 1] rfl)
    · replace h := gi_f h c24
      refine lv_aload_n hx hb dX6_dawnComes_60 rfl (lv_at hl 1 rfl) ?_
      refine g_get K hW (t := 2) (ci := 4) (k := 1) (v := .ref (ad (w0 + 2))) hw0 rfl rfl i_X5 (by decide) q_172 rfl (gfv2 (rW_1 hw0)) dX6_dawnComes_61 ?_
      refine lv_iload_n hx hb dX6_dawnComes_64 rfl (lv_at hl 2 rfl) ?_
      refine lv_iconst (v := (0 : Int32)) hx hb dX6_dawnComes_65 (by decide) ?_
      obtain ⟨g25, h⟩ := gd_o h hn
      refine g_iast K hW (kW_1 hw0) g25 rfl dX6_dawnComes_66 (fun H locs hW => ?_)
      obtain ⟨I27, e26, h⟩ := lz_o h
      replace hW := gWd_nI e26 hW
      obtain ⟨u28, e29, h⟩ := lz_o h
      refine lv_iinc (v := u28) (lv' := [(2, .int u28), (0, .ref (ad 0)), (1, .ref (ad w0))]) hx hb dX6_dawnComes_67 hl (k := 2) rfl (by rw [e29]; rfl) (by decide) rfl (fun ls hl => ?_)
      refine lv_goto (tgt := 54) hx hb dX6_dawnComes_70 (by decide) ?_
      exact ih u28 I27 J _ h hn _ _ hW _ (lv_sub hl [1, 2, 0] rfl) hx1
noncomputable def fX6_dawnComes (w0 : Nat)  (I : gI) : Option (gI) :=
  bd (fX6_dawnComes_2 w0 FU (0 : Int32) I) (fun (I18 : gI) => lz (wI I18 w0 4 (4095 : Int32)) (fun (I20 : gI) => bd (fX6_dawnComes_54 w0 FU (0 : Int32) I20) (fun (I32 : gI) => bd (fX6_drawSort w0 I32) (fun (I34 : gI) => lz (wI I34 w0 7 ((I34 w0 7) + (1 : Int32))) (fun (I37 : gI) => bd (fX5_writeDown w0 (3 : Int32) (I37 w0 5) (0 : Int32) I37) (fun (I39 : gI) => some I39))))))
set_option maxHeartbeats 4000000 in
set_option maxRecDepth 100000 in
theorem kX6_dawnComes {l : Launch} {G : gG} {ad : Nat → Nat} (hok : gInj LC ad)  (w0 : Nat) (hw0 : gAt LC w0 0 4)  (I : gI) (J : gJ) (I' : gI) (h : fX6_dawnComes w0 I = some I') : gMv l yX6_dawnComes cX6_dawnComes 3 none 5 G LC ad [.ref (ad 0), .ref (ad w0)] I J I' J := by
  refine gMv_of (lst := [(0, .ref (ad 0)), (1, .ref (ad w0))]) (by decide) hok (Nat.le_of_ble_eq_true rfl) rfl ?_
  intro p e s m args below meth c Q ls K hW hl hfin
  have hn : (some I' : Option (gI)) ≠ none := Option.some_ne_none _
  have hx := K.1; have hb := K.2.1; have hown := K.2.2.2.1; have hts := K.2.2.2.2.1
  unfold fX6_dawnComes at h
  refine lv_iconst (v := (0 : Int32)) hx hb dX6_dawnComes_0 (by decide) ?_
  refine lv_istore_n (lv' := [(2, .int (0 : Int32)), (0, .ref (ad 0)), (1, .ref (ad w0))]) hx hb dX6_dawnComes_1 rfl hl (by decide) rfl (fun ls hl => ?_)
  obtain ⟨r16, e17, h⟩ := bd_o h hn
  refine tX6_dawnComes_2 hok K w0 hw0 FU (0 : Int32) I J (some r16) e17 (Option.some_ne_none _) _ _ hW _ (lv_sub hl [1, 2, 0] rfl) ?_
  · intro I18 q19 H locs hW ls hl
    replace q19 := Option.some.inj q19
    subst q19
    refine lv_aload_n hx hb dX6_dawnComes_45 rfl (lv_at hl 1 rfl) ?_
    refine lv_sipush (v := (4095 : Int32)) hx hb dX6_dawnComes_46 (by decide) ?_
    refine g_putI K hW (ci := 4) (k := 4) hw0 rfl rfl i_X5 tyX5_ok nmX5 (by decide) q_180 rfl rfl rfl rfl dX6_dawnComes_49 (fun H locs hW => ?_)
    obtain ⟨I20, e21, h⟩ := lz_o h
    replace hW := gWd_nI e21 hW
    refine lv_iconst (v := (0 : Int32)) hx hb dX6_dawnComes_52 (by decide) ?_
    refine lv_istore_n (lv' := [(2, .int (0 : Int32)), (0, .ref (ad 0)), (1, .ref (ad w0))]) hx hb dX6_dawnComes_53 rfl hl (by decide) rfl (fun ls hl => ?_)
    obtain ⟨r30, e31, h⟩ := bd_o h hn
    refine tX6_dawnComes_54 hok K w0 hw0 FU (0 : Int32) I20 J (some r30) e31 (Option.some_ne_none _) _ _ hW _ (lv_sub hl [1, 2, 0] rfl) ?_
    · intro I32 q33 H locs hW ls hl
      replace q33 := Option.some.inj q33
      subst q33
      refine lv_aload_n hx hb dX6_dawnComes_73 rfl (lv_at hl 0 rfl) ?_
      refine lv_aload_n hx hb dX6_dawnComes_74 rfl (lv_at hl 1 rfl) ?_
      obtain ⟨I34, e35, h⟩ := bd_o h hn
      refine g_callVv (rest := []) K hW hl (kX6_drawSort (l := l) (G := G) (ad := ad) hok w0 hw0 I32 J I34 e35) kLC_0 rfl (gG_V q_800 q_802 q_37 q_133 q_803) nm_X6_drawSort ⟨Nat.le_of_ble_eq_true rfl, Nat.le_of_ble_eq_true rfl⟩ rfl rfl (Nat.le_of_ble_eq_true rfl) ⟨Nat.zero_le _, Nat.zero_le _⟩ dX6_dawnComes_75 (fun H locs hW => ?_)
      refine lv_aload_n hx hb dX6_dawnComes_78 rfl (lv_at hl 1 rfl) ?_
      refine lv_dup hx hb dX6_dawnComes_79 rfl ?_
      refine g_get K hW (t := 0) (ci := 4) (k := 7) (v := .int (I34 w0 7)) hw0 rfl rfl i_X5 (by decide) q_187 rfl rfl dX6_dawnComes_80 ?_
      refine lv_iconst (v := (1 : Int32)) hx hb dX6_dawnComes_83 (by decide) ?_
      refine lv_iadd hx hb dX6_dawnComes_84 ?_
      refine g_putI K hW (ci := 4) (k := 7) hw0 rfl rfl i_X5 tyX5_ok nmX5 (by decide) q_187 rfl rfl rfl rfl dX6_dawnComes_85 (fun H locs hW => ?_)
      obtain ⟨I37, e38, h⟩ := lz_o h
      replace hW := gWd_nI e38 hW
      refine lv_aload_n hx hb dX6_dawnComes_88 rfl (lv_at hl 1 rfl) ?_
      refine lv_iconst (v := (3 : Int32)) hx hb dX6_dawnComes_89 (by decide) ?_
      refine lv_aload_n hx hb dX6_dawnComes_90 rfl (lv_at hl 1 rfl) ?_
      refine g_get K hW (t := 0) (ci := 4) (k := 5) (v := .int (I37 w0 5)) hw0 rfl rfl i_X5 (by decide) q_182 rfl rfl dX6_dawnComes_91 ?_
      refine lv_iconst (v := (0 : Int32)) hx hb dX6_dawnComes_94 (by decide) ?_
      obtain ⟨I39, e40, h⟩ := bd_o h hn
      refine g_callVv (rest := []) K hW hl (kX5_writeDown (l := l) (G := G) (ad := ad) hok w0 hw0 (3 : Int32) (I37 w0 5) (0 : Int32) I37 J I39 e40) hw0 rfl (gG_V q_748 q_749 q_750 q_135 q_751) nm_X5_writeDown ⟨Nat.le_of_ble_eq_true rfl, Nat.le_of_ble_eq_true rfl⟩ rfl rfl (Nat.le_of_ble_eq_true rfl) ⟨Nat.zero_le _, Nat.zero_le _⟩ dX6_dawnComes_95 (fun H locs hW => ?_)
      obtain a1 := so1 h
      replace hW := gWd_nI a1 hW
      exact hfin _ _ _ _ hW dX6_dawnComes_98
theorem nm_X6_dawnComes : gNm yX6_dawnComes 1 := by decide +kernel
noncomputable def fX6_passDays_2b  (rec : Int32 → Int32 → gI → Option ((gI) ⊕ (gI))) (u1 : Int32) (u2 : Int32) (I : gI) : Option ((gI) ⊕ (gI)) :=
  gi (u1 ≤ u2)
 (some (Sum.inr I))
 (gi ((I 11 7) < (9999 : Int32))
 (bd (fX6_remember I) (fun (I7 : gI) => bd (fX6_dawnComes 11 I7) (fun (I10 : gI) => lz ((u2 + (1 : Int32))) (fun (u13 : Int32) => rec u1 u13 I10))))
 (some (Sum.inl I)))
noncomputable def fX6_passDays_2  : Nat → Int32 → Int32 → gI → Option ((gI) ⊕ (gI))
  | 0 => fun _ _ _ => none
  | n + 1 => fX6_passDays_2b  (fX6_passDays_2  n)
set_option maxHeartbeats 4000000 in
set_option maxRecDepth 100000 in
theorem tX6_passDays_2 {l : Launch} {G : gG} {ad : Nat → Nat} {p : Program} {e : Env} {s : State} {m : MethodId} {args : Array Value} {below : List Frame} {meth : Method} {c : Code} {Q : State → Prop} (hok : gInj LC ad) (K : gCx G (gA LC ad) p s m args c cX6_passDays 3 RX6)  : ∀ (n : Nat) (u1 : Int32) (u2 : Int32) (I : gI) (J : gJ) (out : Option ((gI) ⊕ (gI))), fX6_passDays_2  n u1 u2 I = out → out ≠ none → ∀ (H : Heap) (locs : List Loc), gWd G LC ad (gA LC ad) s.heap I J H locs → ∀ (ls : Array Slot), lv_has ls 3 [(0, .ref (ad 0)), (1, .int u1), (2, .int u2)] → (∀ (I3 : gI), some (Sum.inl I3) = out → ∀ (H : Heap) (locs : List Loc), gWd G LC ad (gA LC ad) s.heap I3 J H locs → ∀ (ls : Array Slot), lv_has ls 3 [] → W p l e (gRm 6) s m args below meth c H locs 0 0 Q (F0 m 23 ls [])) → (∀ (I4 : gI), some (Sum.inr I4) = out → ∀ (H : Heap) (locs : List Loc), gWd G LC ad (gA LC ad) s.heap I4 J H locs → ∀ (ls : Array Slot), lv_has ls 3 [] → W p l e (gRm 6) s m args below meth c H locs 0 0 Q (F0 m 46 ls [])) → W p l e (gRm 6) s m args below meth c H locs 0 0 Q (F0 m 2 ls []) := by
  have hx := K.1; have hb := K.2.1; have hown := K.2.2.2.1; have hts := K.2.2.2.2.1
  intro n
  induction n with
  | zero => intro u1 u2 I J out h hn; exact absurd h.symm hn
  | succ n ih =>
    intro u1 u2 I J out h hn H locs hW ls hl hx1 hx2
    replace h : fX6_passDays_2b  (fX6_passDays_2  n) u1 u2 I = out := h
    unfold fX6_passDays_2b at h
    refine lv_iload_n hx hb dX6_passDays_2 rfl (lv_at hl 2 rfl) ?_
    refine lv_iload_n hx hb dX6_passDays_3 rfl (lv_at hl 1 rfl) ?_
    refine lv_icmp_ge (tgt := 46) hx hb dX6_passDays_4 (by decide) (fun c5 => ?_) (fun c5 => ?_)
    · replace h := gi_t h c5
      exact hx2 I h _ _ hW _ (lv_sub hl [] rfl)
    · replace h := gi_f h c5
      refine lv_aload_n hx hb dX6_passDays_7 rfl (lv_at hl 0 rfl) ?_
      refine g_get K hW (t := 2) (ci := 5) (k := 0) (v := .ref (ad 1)) kLC_0 rfl rfl i_X6 (by decide) q_393 rfl (gfv2 rLC_0_0) dX6_passDays_8 ?_
      refine g_get K hW (t := 2) (ci := 0) (k := 9) (v := .ref (ad 11)) kLC_1 rfl rfl i_X0 (by decide) q_232 rfl (gfv2 rLC_1_9) dX6_passDays_11 ?_
      refine g_get K hW (t := 0) (ci := 4) (k := 7) (v := .int (I 11 7)) kLC_11 rfl rfl i_X5 (by decide) q_187 rfl rfl dX6_passDays_14 ?_
      refine lv_sipush (v := (9999 : Int32)) hx hb dX6_passDays_17 (by decide) ?_
      refine lv_icmp_lt (tgt := 25) hx hb dX6_passDays_20 (by decide) (fun c6 => ?_) (fun c6 => ?_)
      · replace h := gi_t h c6
        refine lv_aload_n hx hb dX6_passDays_25 rfl (lv_at hl 0 rfl) ?_
        obtain ⟨I7, e8, h⟩ := bd_o h hn
        refine g_callVv (rest := []) K hW hl (kX6_remember (l := l) (G := G) (ad := ad) hok I J I7 e8) kLC_0 rfl (gG_V q_731 q_733 q_27 q_133 q_734) nm_X6_remember ⟨Nat.le_of_ble_eq_true rfl, Nat.le_of_ble_eq_true rfl⟩ rfl rfl (Nat.le_of_ble_eq_true rfl) ⟨Nat.zero_le _, Nat.zero_le _⟩ dX6_passDays_26 (fun H locs hW => ?_)
        refine lv_aload_n hx hb dX6_passDays_29 rfl (lv_at hl 0 rfl) ?_
        refine lv_aload_n hx hb dX6_passDays_30 rfl (lv_at hl 0 rfl) ?_
        refine g_get K hW (t := 2) (ci := 5) (k := 0) (v := .ref (ad 1)) kLC_0 rfl rfl i_X6 (by decide) q_393 rfl (gfv2 rLC_0_0) dX6_passDays_31 ?_
        refine g_get K hW (t := 2) (ci := 0) (k := 9) (v := .ref (ad 11)) kLC_1 rfl rfl i_X0 (by decide) q_232 rfl (gfv2 rLC_1_9) dX6_passDays_34 ?_
        obtain ⟨I10, e11, h⟩ := bd_o h hn
        refine g_callVv (rest := []) K hW hl (kX6_dawnComes (l := l) (G := G) (ad := ad) hok 11 kLC_11 I7 J I10 e11) kLC_0 rfl (gG_V q_792 q_794 q_35 q_133 q_795) nm_X6_dawnComes ⟨Nat.le_of_ble_eq_true rfl, Nat.le_of_ble_eq_true rfl⟩ rfl rfl (Nat.le_of_ble_eq_true rfl) ⟨Nat.zero_le _, Nat.zero_le _⟩ dX6_passDays_37 (fun H locs hW => ?_)
        obtain ⟨u13, e14, h⟩ := lz_o h
        refine lv_iinc (v := u13) (lv' := [(2, .int u13), (0, .ref (ad 0)), (1, .int u1)]) hx hb dX6_passDays_40 hl (k := 2) rfl (by rw [e14]; rfl) (by decide) rfl (fun ls hl => ?_)
        refine lv_goto (tgt := 2) hx hb dX6_passDays_43 (by decide) ?_
        exact ih u1 u13 I10 J _ h hn _ _ hW _ (lv_sub hl [1, 2, 0] rfl) hx1 hx2
      · replace h := gi_f h c6
        exact hx1 I h _ _ hW _ (lv_sub hl [] rfl)
noncomputable def fX6_passDays  (x1 : Int32) (I : gI) : Option (Int32 × gI) :=
  bd (fX6_passDays_2 FU x1 (0 : Int32) I) (sm (fun (I17 : gI) => some ((0 : Int32), I17)) (fun (I19 : gI) => some ((1 : Int32), I19)))
set_option maxHeartbeats 4000000 in
set_option maxRecDepth 100000 in
theorem kX6_passDays {l : Launch} {G : gG} {ad : Nat → Nat} (hok : gInj LC ad)    (x1 : Int32) (I : gI) (J : gJ) (r : Int32) (I' : gI) (h : fX6_passDays x1 I = some (r, I')) : gMi l yX6_passDays cX6_passDays 3 (some .boolean) 6 G LC ad [.ref (ad 0), .int x1] I J r (r = 0 ∨ r = 1) I' J := by
  refine gMz_of (lst := [(0, .ref (ad 0)), (1, .int x1)]) (by decide) hok (Nat.le_of_ble_eq_true rfl) rfl ?_
  intro p e s m args below meth c Q ls K hW hl hfin
  have hn : (some (r, I') : Option (Int32 × gI)) ≠ none := Option.some_ne_none _
  have hx := K.1; have hb := K.2.1; have hown := K.2.2.2.1; have hts := K.2.2.2.2.1
  unfold fX6_passDays at h
  refine lv_iconst (v := (0 : Int32)) hx hb dX6_passDays_0 (by decide) ?_
  refine lv_istore_n (lv' := [(2, .int (0 : Int32)), (0, .ref (ad 0)), (1, .int x1)]) hx hb dX6_passDays_1 rfl hl (by decide) rfl (fun ls hl => ?_)
  obtain ⟨r15, e16, h⟩ := bd_o h hn
  refine tX6_passDays_2 hok K FU x1 (0 : Int32) I J (some r15) e16 (Option.some_ne_none _) _ _ hW _ (lv_sub hl [1, 2, 0] rfl) ?_ ?_
  · intro I17 q18 H locs hW ls hl
    replace q18 := Option.some.inj q18
    subst q18
    replace h := sm_l h
    refine lv_iconst (v := (0 : Int32)) hx hb dX6_passDays_23 (by decide) ?_
    obtain ⟨a1, a2⟩ := so2 h
    replace hW := gWd_nI a2 hW
    exact g_nmi a1 (hfin _ _ _ _ (a1 ▸ (Or.inl rfl)) hW dX6_passDays_24)
  · intro I19 q20 H locs hW ls hl
    replace q20 := Option.some.inj q20
    subst q20
    replace h := sm_r h
    refine lv_iconst (v := (1 : Int32)) hx hb dX6_passDays_46 (by decide) ?_
    obtain ⟨a1, a2⟩ := so2 h
    replace hW := gWd_nI a2 hW
    exact g_nmi a1 (hfin _ _ _ _ (a1 ▸ (Or.inr rfl)) hW dX6_passDays_47)
theorem nm_X6_passDays : gNm yX6_passDays 1 := by decide +kernel
noncomputable def fX6_day  (x1 : Int32) (I : gI) : Option (Int32 × gI) :=
  gi ((fX6_within x1 (1 : Int32) (60 : Int32)) = 0)
 (some ((-1 : Int32), I))
 (gi (((I 11 7) + x1) ≤ (9999 : Int32))
 (bd (fX6_passDays x1 I) (pr (fun (u4 : Int32) (I5 : gI) => some ((I5 11 5), I5))))
 (some ((-1 : Int32), I)))
set_option maxHeartbeats 4000000 in
set_option maxRecDepth 100000 in
theorem kX6_day {l : Launch} {G : gG} {ad : Nat → Nat} (hok : gInj LC ad)    (x1 : Int32) (I : gI) (J : gJ) (r : Int32) (I' : gI) (h : fX6_day x1 I = some (r, I')) : gMi l yX6_day cX6_day 2 (some .int) 7 G LC ad [.ref (ad 0), .int x1] I J r True I' J := by
  refine gMi_of (lst := [(0, .ref (ad 0)), (1, .int x1)]) (by decide) hok (Nat.le_of_ble_eq_true rfl) rfl ?_
  intro p e s m args below meth c Q ls K hW hl hfin
  have hn : (some (r, I') : Option (Int32 × gI)) ≠ none := Option.some_ne_none _
  have hx := K.1; have hb := K.2.1; have hown := K.2.2.2.1; have hts := K.2.2.2.2.1
  unfold fX6_day at h
  refine lv_iload_n hx hb dX6_day_0 rfl (lv_at hl 1 rfl) ?_
  refine lv_iconst (v := (1 : Int32)) hx hb dX6_day_1 (by decide) ?_
  refine lv_bipush (v := (60 : Int32)) hx hb dX6_day_2 (by decide) ?_
  refine g_callSi (rest := []) K hW hl (kX6_within (l := l) (G := G) (ad := ad) hok x1 (1 : Int32) (60 : Int32) I J (fX6_within x1 (1 : Int32) (60 : Int32)) rfl) q_440 q_441 q_133 q_442 nm_X6_within ⟨Nat.le_of_ble_eq_true rfl, Nat.le_of_ble_eq_true rfl⟩ rfl rfl (Nat.le_of_ble_eq_true rfl) ⟨Nat.zero_le _, Nat.zero_le _⟩ dX6_day_4 (fun z1 H locs hW => ?_)
  refine lv_if_eq (tgt := 28) hx hb dX6_day_7 (by decide) (fun c2 => ?_) (fun c2 => ?_)
  · replace h := gi_t h c2
    refine lv_iconst (v := (-1 : Int32)) hx hb dX6_day_28 (by decide) ?_
    obtain ⟨a1, a2⟩ := so2 h
    replace hW := gWd_nI a2 hW
    exact g_nmi a1 (hfin _ _ _ _ hW dX6_day_29)
  · replace h := gi_f h c2
    refine lv_aload_n hx hb dX6_day_10 rfl (lv_at hl 0 rfl) ?_
    refine g_get K hW (t := 2) (ci := 5) (k := 0) (v := .ref (ad 1)) kLC_0 rfl rfl i_X6 (by decide) q_393 rfl (gfv2 rLC_0_0) dX6_day_11 ?_
    refine g_get K hW (t := 2) (ci := 0) (k := 9) (v := .ref (ad 11)) kLC_1 rfl rfl i_X0 (by decide) q_232 rfl (gfv2 rLC_1_9) dX6_day_14 ?_
    refine g_get K hW (t := 0) (ci := 4) (k := 7) (v := .int (I 11 7)) kLC_11 rfl rfl i_X5 (by decide) q_187 rfl rfl dX6_day_17 ?_
    refine lv_iload_n hx hb dX6_day_20 rfl (lv_at hl 1 rfl) ?_
    refine lv_iadd hx hb dX6_day_21 ?_
    refine lv_sipush (v := (9999 : Int32)) hx hb dX6_day_22 (by decide) ?_
    refine lv_icmp_le (tgt := 30) hx hb dX6_day_25 (by decide) (fun c3 => ?_) (fun c3 => ?_)
    · replace h := gi_t h c3
      refine lv_aload_n hx hb dX6_day_30 rfl (lv_at hl 0 rfl) ?_
      refine lv_iload_n hx hb dX6_day_31 rfl (lv_at hl 1 rfl) ?_
      obtain ⟨⟨u4, I5⟩, e6, h⟩ := bd_o h hn
      replace h := pr_o h
      refine g_callVi (rest := []) K hW hl (kX6_passDays (l := l) (G := G) (ad := ad) hok x1 I J u4 I5 e6) kLC_0 rfl (gG_V q_788 q_790 q_34 q_133 q_791) nm_X6_passDays ⟨Nat.le_of_ble_eq_true rfl, Nat.le_of_ble_eq_true rfl⟩ rfl rfl (Nat.le_of_ble_eq_true rfl) ⟨Nat.zero_le _, Nat.zero_le _⟩ dX6_day_32 (fun z7 H locs hW => ?_)
      refine lv_pop hx hb dX6_day_35 rfl ?_
      refine lv_aload_n hx hb dX6_day_36 rfl (lv_at hl 0 rfl) ?_
      refine g_get K hW (t := 2) (ci := 5) (k := 0) (v := .ref (ad 1)) kLC_0 rfl rfl i_X6 (by decide) q_393 rfl (gfv2 rLC_0_0) dX6_day_37 ?_
      refine g_get K hW (t := 2) (ci := 0) (k := 9) (v := .ref (ad 11)) kLC_1 rfl rfl i_X0 (by decide) q_232 rfl (gfv2 rLC_1_9) dX6_day_40 ?_
      refine g_get K hW (t := 0) (ci := 4) (k := 5) (v := .int (I5 11 5)) kLC_11 rfl rfl i_X5 (by decide) q_182 rfl rfl dX6_day_43 ?_
      obtain ⟨a1, a2⟩ := so2 h
      replace hW := gWd_nI a2 hW
      exact g_nmi a1 (hfin _ _ _ _ hW dX6_day_46)
    · replace h := gi_f h c3
      refine lv_iconst (v := (-1 : Int32)) hx hb dX6_day_28 (by decide) ?_
      obtain ⟨a1, a2⟩ := so2 h
      replace hW := gWd_nI a2 hW
      exact g_nmi a1 (hfin _ _ _ _ hW dX6_day_29)
theorem nm_X6_buyer : gNm yX6_buyer 4 := by decide +kernel
theorem nm_X6_sort : gNm yX6_sort 3 := by decide +kernel
theorem nm_X6_sell : gNm yX6_sell 1 := by decide +kernel
theorem nm_X6_give : gNm yX6_give 1 := by decide +kernel
theorem nm_X6_turn : gNm yX6_turn 1 := by decide +kernel
noncomputable def fX6_play  (x1 : Int32) (x2 : Int32) (x3 : Int32) (I : gI) : Option (Int32 × gI) :=
  gi (x1 = (2 : Int32))
 (bd (fX6_buyer (31 : Int32) x2 x3 (50 : Int32) I) (pr (fun (u2 : Int32) (I3 : gI) => gi (u2 = (-1 : Int32))
 (some ((0 : Int32), I3))
 (some ((1 : Int32), I3)))))
 (gi (x1 = (3 : Int32))
 (some ((1 : Int32), I))
 (gi (x1 = (4 : Int32))
 (gi ((fX6_isSort x2) = 0)
 (some ((0 : Int32), I))
 (gd (vp_in x2 5) (bd (fX6_sort x2 x3 (I 3 (x2).toNatClampNeg) I) (pr (fun (u12 : Int32) (I13 : gI) => gi (u12 = 0)
 (some ((0 : Int32), I13))
 (some ((1 : Int32), I13)))))))
 (gi (x1 = (5 : Int32))
 (some ((1 : Int32), I))
 (gi (x1 = (6 : Int32))
 (bd (fX6_sell x2 I) (pr (fun (u19 : Int32) (I20 : gI) => gi (u19 = (-1 : Int32))
 (some ((0 : Int32), I20))
 (some ((1 : Int32), I20)))))
 (gi (x1 = (7 : Int32))
 (bd (fX6_give x2 I) (pr (fun (u25 : Int32) (I26 : gI) => some (u25, I26))))
 (gi (x1 = (8 : Int32))
 (bd (fX6_turn x2 I) (pr (fun (u30 : Int32) (I31 : gI) => some (u30, I31))))
 (gi (x1 = (9 : Int32))
 (bd (fX6_passDays x2 I) (pr (fun (u35 : Int32) (I36 : gI) => some (u35, I36))))
 (some ((1 : Int32), I)))))))))
set_option maxHeartbeats 4000000 in
set_option maxRecDepth 100000 in
theorem kX6_play {l : Launch} {G : gG} {ad : Nat → Nat} (hok : gInj LC ad)    (x1 : Int32) (x2 : Int32) (x3 : Int32) (I : gI) (J : gJ) (r : Int32) (I' : gI) (h : fX6_play x1 x2 x3 I = some (r, I')) : gMi l yX6_play cX6_play 4 (some .boolean) 7 G LC ad [.ref (ad 0), .int x1, .int x2, .int x3] I J r (r = 0 ∨ r = 1) I' J := by
  refine gMz_of (lst := [(0, .ref (ad 0)), (1, .int x1), (2, .int x2), (3, .int x3)]) (by decide) hok (Nat.le_of_ble_eq_true rfl) rfl ?_
  intro p e s m args below meth c Q ls K hW hl hfin
  have hn : (some (r, I') : Option (Int32 × gI)) ≠ none := Option.some_ne_none _
  have hx := K.1; have hb := K.2.1; have hown := K.2.2.2.1; have hts := K.2.2.2.2.1
  unfold fX6_play at h
  refine lv_iload_n hx hb dX6_play_0 rfl (lv_at hl 1 rfl) ?_
  rcases Classical.em (x1 = (2 : Int32)) with c1 | c1
  · replace h := gi_t h c1
    refine g_tabIn (k := (2 : Int32)) (tgt := 48) (off := 47) hx hb c1 dX6_play_1 (by decide) (by decide) (by decide) (by decide) ?_
    refine lv_aload_n hx hb dX6_play_48 rfl (lv_at hl 0 rfl) ?_
    refine lv_bipush (v := (31 : Int32)) hx hb dX6_play_49 (by decide) ?_
    refine lv_iload_n hx hb dX6_play_51 rfl (lv_at hl 2 rfl) ?_
    refine lv_iload_n hx hb dX6_play_52 rfl (lv_at hl 3 rfl) ?_
    refine lv_bipush (v := (50 : Int32)) hx hb dX6_play_53 (by decide) ?_
    obtain ⟨⟨u2, I3⟩, e4, h⟩ := bd_o h hn
    replace h := pr_o h
    refine g_callVi (rest := []) K hW hl (kX6_buyer (l := l) (G := G) (ad := ad) hok (31 : Int32) x2 x3 (50 : Int32) I J u2 I3 e4) kLC_0 rfl (gG_V q_819 q_444 q_445 q_133 q_446) nm_X6_buyer ⟨Nat.le_of_ble_eq_true rfl, Nat.le_of_ble_eq_true rfl⟩ rfl rfl (Nat.le_of_ble_eq_true rfl) ⟨Nat.zero_le _, Nat.zero_le _⟩ dX6_play_55 (fun z5 H locs hW => ?_)
    refine lv_iconst (v := (-1 : Int32)) hx hb dX6_play_58 (by decide) ?_
    refine lv_icmp_eq (tgt := 66) hx hb dX6_play_59 (by decide) (fun c6 => ?_) (fun c6 => ?_)
    · replace h := gi_t h c6
      refine lv_iconst (v := (0 : Int32)) hx hb dX6_play_66 (by decide) ?_
      obtain ⟨a1, a2⟩ := so2 h
      replace hW := gWd_nI a2 hW
      exact g_nmi a1 (hfin _ _ _ _ (a1 ▸ (Or.inl rfl)) hW dX6_play_67)
    · replace h := gi_f h c6
      refine lv_iconst (v := (1 : Int32)) hx hb dX6_play_62 (by decide) ?_
      refine lv_goto (tgt := 67) hx hb dX6_play_63 (by decide) ?_
      obtain ⟨a1, a2⟩ := so2 h
      replace hW := gWd_nI a2 hW
      exact g_nmi a1 (hfin _ _ _ _ (a1 ▸ (Or.inr rfl)) hW dX6_play_67)
  · replace h := gi_f h c1
    rcases Classical.em (x1 = (3 : Int32)) with c7 | c7
    · replace h := gi_t h c7
      refine g_tabIn (k := (3 : Int32)) (tgt := 132) (off := 131) hx hb c7 dX6_play_1 (by decide) (by decide) (by decide) (by decide) ?_
      refine lv_iconst (v := (1 : Int32)) hx hb dX6_play_132 (by decide) ?_
      obtain ⟨a1, a2⟩ := so2 h
      replace hW := gWd_nI a2 hW
      exact g_nmi a1 (hfin _ _ _ _ (a1 ▸ (Or.inr rfl)) hW dX6_play_133)
    · replace h := gi_f h c7
      rcases Classical.em (x1 = (4 : Int32)) with c8 | c8
      · replace h := gi_t h c8
        refine g_tabIn (k := (4 : Int32)) (tgt := 68) (off := 67) hx hb c8 dX6_play_1 (by decide) (by decide) (by decide) (by decide) ?_
        refine lv_iload_n hx hb dX6_play_68 rfl (lv_at hl 2 rfl) ?_
        refine g_callSi (rest := []) K hW hl (kX6_isSort (l := l) (G := G) (ad := ad) hok x2 I J (fX6_isSort x2) rfl) q_437 q_438 q_133 q_439 nm_X6_isSort ⟨Nat.le_of_ble_eq_true rfl, Nat.le_of_ble_eq_true rfl⟩ rfl rfl (Nat.le_of_ble_eq_true rfl) ⟨Nat.zero_le _, Nat.zero_le _⟩ dX6_play_69 (fun z9 H locs hW => ?_)
        refine lv_if_eq (tgt := 97) hx hb dX6_play_72 (by decide) (fun c10 => ?_) (fun c10 => ?_)
        · replace h := gi_t h c10
          refine lv_iconst (v := (0 : Int32)) hx hb dX6_play_97 (by decide) ?_
          obtain ⟨a1, a2⟩ := so2 h
          replace hW := gWd_nI a2 hW
          exact g_nmi a1 (hfin _ _ _ _ (a1 ▸ (Or.inl rfl)) hW dX6_play_98)
        · replace h := gi_f h c10
          refine lv_aload_n hx hb dX6_play_75 rfl (lv_at hl 0 rfl) ?_
          refine lv_iload_n hx hb dX6_play_76 rfl (lv_at hl 2 rfl) ?_
          refine lv_iload_n hx hb dX6_play_77 rfl (lv_at hl 3 rfl) ?_
          refine lv_aload_n hx hb dX6_play_78 rfl (lv_at hl 0 rfl) ?_
          refine g_get K hW (t := 2) (ci := 5) (k := 0) (v := .ref (ad 1)) kLC_0 rfl rfl i_X6 (by decide) q_393 rfl (gfv2 rLC_0_0) dX6_play_79 ?_
          refine g_get K hW (t := 2) (ci := 0) (k := 1) (v := .ref (ad 3)) kLC_1 rfl rfl i_X0 (by decide) q_214 rfl (gfv2 rLC_1_1) dX6_play_82 ?_
          refine lv_iload_n hx hb dX6_play_85 rfl (lv_at hl 2 rfl) ?_
          obtain ⟨g11, h⟩ := gd_o h hn
          refine g_iald K hW kLC_3 g11 rfl dX6_play_86 ?_
          obtain ⟨⟨u12, I13⟩, e14, h⟩ := bd_o h hn
          replace h := pr_o h
          refine g_callVi (rest := []) K hW hl (kX6_sort (l := l) (G := G) (ad := ad) hok x2 x3 (I 3 (x2).toNatClampNeg) I J u12 I13 e14) kLC_0 rfl (gG_V q_820 q_434 q_435 q_133 q_436) nm_X6_sort ⟨Nat.le_of_ble_eq_true rfl, Nat.le_of_ble_eq_true rfl⟩ rfl rfl (Nat.le_of_ble_eq_true rfl) ⟨Nat.zero_le _, Nat.zero_le _⟩ dX6_play_87 (fun z15 H locs hW => ?_)
          refine lv_if_eq (tgt := 97) hx hb dX6_play_90 (by decide) (fun c16 => ?_) (fun c16 => ?_)
          · replace h := gi_t h c16
            refine lv_iconst (v := (0 : Int32)) hx hb dX6_play_97 (by decide) ?_
            obtain ⟨a1, a2⟩ := so2 h
            replace hW := gWd_nI a2 hW
            exact g_nmi a1 (hfin _ _ _ _ (a1 ▸ (Or.inl rfl)) hW dX6_play_98)
          · replace h := gi_f h c16
            refine lv_iconst (v := (1 : Int32)) hx hb dX6_play_93 (by decide) ?_
            refine lv_goto (tgt := 98) hx hb dX6_play_94 (by decide) ?_
            obtain ⟨a1, a2⟩ := so2 h
            replace hW := gWd_nI a2 hW
            exact g_nmi a1 (hfin _ _ _ _ (a1 ▸ (Or.inr rfl)) hW dX6_play_98)
      · replace h := gi_f h c8
        rcases Classical.em (x1 = (5 : Int32)) with c17 | c17
        · replace h := gi_t h c17
          refine g_tabIn (k := (5 : Int32)) (tgt := 132) (off := 131) hx hb c17 dX6_play_1 (by decide) (by decide) (by decide) (by decide) ?_
          refine lv_iconst (v := (1 : Int32)) hx hb dX6_play_132 (by decide) ?_
          obtain ⟨a1, a2⟩ := so2 h
          replace hW := gWd_nI a2 hW
          exact g_nmi a1 (hfin _ _ _ _ (a1 ▸ (Or.inr rfl)) hW dX6_play_133)
        · replace h := gi_f h c17
          rcases Classical.em (x1 = (6 : Int32)) with c18 | c18
          · replace h := gi_t h c18
            refine g_tabIn (k := (6 : Int32)) (tgt := 99) (off := 98) hx hb c18 dX6_play_1 (by decide) (by decide) (by decide) (by decide) ?_
            refine lv_aload_n hx hb dX6_play_99 rfl (lv_at hl 0 rfl) ?_
            refine lv_iload_n hx hb dX6_play_100 rfl (lv_at hl 2 rfl) ?_
            obtain ⟨⟨u19, I20⟩, e21, h⟩ := bd_o h hn
            replace h := pr_o h
            refine g_callVi (rest := []) K hW hl (kX6_sell (l := l) (G := G) (ad := ad) hok x2 I J u19 I20 e21) kLC_0 rfl (gG_V q_821 q_673 q_674 q_133 q_675) nm_X6_sell ⟨Nat.le_of_ble_eq_true rfl, Nat.le_of_ble_eq_true rfl⟩ rfl rfl (Nat.le_of_ble_eq_true rfl) ⟨Nat.zero_le _, Nat.zero_le _⟩ dX6_play_101 (fun z22 H locs hW => ?_)
            refine lv_iconst (v := (-1 : Int32)) hx hb dX6_play_104 (by decide) ?_
            refine lv_icmp_eq (tgt := 112) hx hb dX6_play_105 (by decide) (fun c23 => ?_) (fun c23 => ?_)
            · replace h := gi_t h c23
              refine lv_iconst (v := (0 : Int32)) hx hb dX6_play_112 (by decide) ?_
              obtain ⟨a1, a2⟩ := so2 h
              replace hW := gWd_nI a2 hW
              exact g_nmi a1 (hfin _ _ _ _ (a1 ▸ (Or.inl rfl)) hW dX6_play_113)
            · replace h := gi_f h c23
              refine lv_iconst (v := (1 : Int32)) hx hb dX6_play_108 (by decide) ?_
              refine lv_goto (tgt := 113) hx hb dX6_play_109 (by decide) ?_
              obtain ⟨a1, a2⟩ := so2 h
              replace hW := gWd_nI a2 hW
              exact g_nmi a1 (hfin _ _ _ _ (a1 ▸ (Or.inr rfl)) hW dX6_play_113)
          · replace h := gi_f h c18
            rcases Classical.em (x1 = (7 : Int32)) with c24 | c24
            · replace h := gi_t h c24
              refine g_tabIn (k := (7 : Int32)) (tgt := 114) (off := 113) hx hb c24 dX6_play_1 (by decide) (by decide) (by decide) (by decide) ?_
              refine lv_aload_n hx hb dX6_play_114 rfl (lv_at hl 0 rfl) ?_
              refine lv_iload_n hx hb dX6_play_115 rfl (lv_at hl 2 rfl) ?_
              obtain ⟨⟨u25, I26⟩, e27, h⟩ := bd_o h hn
              replace h := pr_o h
              refine g_callVi (rest := []) K hW hl (kX6_give (l := l) (G := G) (ad := ad) hok x2 I J u25 I26 e27) kLC_0 rfl (gG_V q_822 q_753 q_754 q_133 q_755) nm_X6_give ⟨Nat.le_of_ble_eq_true rfl, Nat.le_of_ble_eq_true rfl⟩ rfl rfl (Nat.le_of_ble_eq_true rfl) ⟨Nat.zero_le _, Nat.zero_le _⟩ dX6_play_116 (fun z28 H locs hW => ?_)
              obtain ⟨a1, a2⟩ := so2 h
              replace hW := gWd_nI a2 hW
              exact g_nmi a1 (hfin _ _ _ _ (a1 ▸ z28) hW dX6_play_119)
            · replace h := gi_f h c24
              rcases Classical.em (x1 = (8 : Int32)) with c29 | c29
              · replace h := gi_t h c29
                refine g_tabIn (k := (8 : Int32)) (tgt := 120) (off := 119) hx hb c29 dX6_play_1 (by decide) (by decide) (by decide) (by decide) ?_
                refine lv_aload_n hx hb dX6_play_120 rfl (lv_at hl 0 rfl) ?_
                refine lv_iload_n hx hb dX6_play_121 rfl (lv_at hl 2 rfl) ?_
                obtain ⟨⟨u30, I31⟩, e32, h⟩ := bd_o h hn
                replace h := pr_o h
                refine g_callVi (rest := []) K hW hl (kX6_turn (l := l) (G := G) (ad := ad) hok x2 I J u30 I31 e32) kLC_0 rfl (gG_V q_823 q_765 q_766 q_133 q_767) nm_X6_turn ⟨Nat.le_of_ble_eq_true rfl, Nat.le_of_ble_eq_true rfl⟩ rfl rfl (Nat.le_of_ble_eq_true rfl) ⟨Nat.zero_le _, Nat.zero_le _⟩ dX6_play_122 (fun z33 H locs hW => ?_)
                obtain ⟨a1, a2⟩ := so2 h
                replace hW := gWd_nI a2 hW
                exact g_nmi a1 (hfin _ _ _ _ (a1 ▸ z33) hW dX6_play_125)
              · replace h := gi_f h c29
                rcases Classical.em (x1 = (9 : Int32)) with c34 | c34
                · replace h := gi_t h c34
                  refine g_tabIn (k := (9 : Int32)) (tgt := 126) (off := 125) hx hb c34 dX6_play_1 (by decide) (by decide) (by decide) (by decide) ?_
                  refine lv_aload_n hx hb dX6_play_126 rfl (lv_at hl 0 rfl) ?_
                  refine lv_iload_n hx hb dX6_play_127 rfl (lv_at hl 2 rfl) ?_
                  obtain ⟨⟨u35, I36⟩, e37, h⟩ := bd_o h hn
                  replace h := pr_o h
                  refine g_callVi (rest := []) K hW hl (kX6_passDays (l := l) (G := G) (ad := ad) hok x2 I J u35 I36 e37) kLC_0 rfl (gG_V q_788 q_790 q_34 q_133 q_791) nm_X6_passDays ⟨Nat.le_of_ble_eq_true rfl, Nat.le_of_ble_eq_true rfl⟩ rfl rfl (Nat.le_of_ble_eq_true rfl) ⟨Nat.zero_le _, Nat.zero_le _⟩ dX6_play_128 (fun z38 H locs hW => ?_)
                  obtain ⟨a1, a2⟩ := so2 h
                  replace hW := gWd_nI a2 hW
                  exact g_nmi a1 (hfin _ _ _ _ (a1 ▸ z38) hW dX6_play_131)
                · replace h := gi_f h c34
                  refine lv_tableOut (tgt := 132) hx hb dX6_play_1 (by have := lv_neT (a := 2) c1 (by decide); have := lv_neT (a := 3) c7 (by decide); have := lv_neT (a := 4) c8 (by decide); have := lv_neT (a := 5) c17 (by decide); have := lv_neT (a := 6) c18 (by decide); have := lv_neT (a := 7) c24 (by decide); have := lv_neT (a := 8) c29 (by decide); have := lv_neT (a := 9) c34 (by decide); omega) (by decide) ?_
                  refine lv_iconst (v := (1 : Int32)) hx hb dX6_play_132 (by decide) ?_
                  obtain ⟨a1, a2⟩ := so2 h
                  replace hW := gWd_nI a2 hW
                  exact g_nmi a1 (hfin _ _ _ _ (a1 ▸ (Or.inr rfl)) hW dX6_play_133)
theorem nm_X6_play : gNm yX6_play 3 := by decide +kernel
noncomputable def fX6_played_20b (tt8 : Nat) (rec : Int32 → gI → Option ((Int32 × gI) ⊕ (gI))) (u4 : Int32) (I : gI) : Option ((Int32 × gI) ⊕ (gI)) :=
  gi ((I tt8 7) ≤ u4)
 (some (Sum.inr I))
 (gi ((24 : Int32) ≤ u4)
 (some (Sum.inr I))
 (gd (vp_in u4 24) (bd (fX6_play (I (tt8 + 1) (u4).toNatClampNeg) (I (tt8 + 2) (u4).toNatClampNeg) (I (tt8 + 3) (u4).toNatClampNeg) I) (pr (fun (u12 : Int32) (I13 : gI) => gi (u12 = 0)
 (some (Sum.inl (u4, I13)))
 (lz ((u4 + (1 : Int32))) (fun (u17 : Int32) => rec u17 I13)))))))
noncomputable def fX6_played_20 (tt8 : Nat) : Nat → Int32 → gI → Option ((Int32 × gI) ⊕ (gI))
  | 0 => fun _ _ => none
  | n + 1 => fX6_played_20b tt8 (fX6_played_20 tt8 n)
set_option maxHeartbeats 4000000 in
set_option maxRecDepth 100000 in
theorem tX6_played_20 {l : Launch} {G : gG} {ad : Nat → Nat} {p : Program} {e : Env} {s : State} {m : MethodId} {args : Array Value} {below : List Frame} {meth : Method} {c : Code} {Q : State → Prop} (hok : gInj LC ad) (K : gCx G (gA LC ad) p s m args c cX6_played 4 RX6) (tt8 : Nat) (htt8 : gAt LC tt8 0 3) : ∀ (n : Nat) (u4 : Int32) (I : gI) (J : gJ) (out : Option ((Int32 × gI) ⊕ (gI))), fX6_played_20 tt8 n u4 I = out → out ≠ none → ∀ (H : Heap) (locs : List Loc), gWd G LC ad (gA LC ad) s.heap I J H locs → ∀ (ls : Array Slot), lv_has ls 4 [(0, .ref (ad 0)), (2, .ref (ad tt8)), (3, .int u4)] → (∀ (y5 : Int32) (I6 : gI), some (Sum.inl (y5, I6)) = out → ∀ (H : Heap) (locs : List Loc), gWd G LC ad (gA LC ad) s.heap I6 J H locs → ∀ (ls : Array Slot), lv_has ls 4 [(3, .int y5)] → W p l e (gRm 8) s m args below meth c H locs 0 0 Q (F0 m 59 ls [])) → (∀ (I7 : gI), some (Sum.inr I7) = out → ∀ (H : Heap) (locs : List Loc), gWd G LC ad (gA LC ad) s.heap I7 J H locs → ∀ (ls : Array Slot), lv_has ls 4 [] → W p l e (gRm 8) s m args below meth c H locs 0 0 Q (F0 m 67 ls [])) → W p l e (gRm 8) s m args below meth c H locs 0 0 Q (F0 m 20 ls []) := by
  have hx := K.1; have hb := K.2.1; have hown := K.2.2.2.1; have hts := K.2.2.2.2.1
  intro n
  induction n with
  | zero => intro u4 I J out h hn; exact absurd h.symm hn
  | succ n ih =>
    intro u4 I J out h hn H locs hW ls hl hx1 hx2
    replace h : fX6_played_20b tt8 (fX6_played_20 tt8 n) u4 I = out := h
    unfold fX6_played_20b at h
    refine lv_iload_n hx hb dX6_played_20 rfl (lv_at hl 2 rfl) ?_
    refine lv_aload_n hx hb dX6_played_21 rfl (lv_at hl 1 rfl) ?_
    refine g_get K hW (t := 0) (ci := 3) (k := 7) (v := .int (I tt8 7)) htt8 rfl rfl i_X3 (by decide) q_327 rfl rfl dX6_played_22 ?_
    refine lv_icmp_ge (tgt := 67) hx hb dX6_played_25 (by decide) (fun c9 => ?_) (fun c9 => ?_)
    · replace h := gi_t h c9
      exact hx2 I h _ _ hW _ (lv_sub hl [] rfl)
    · replace h := gi_f h c9
      refine lv_iload_n hx hb dX6_played_28 rfl (lv_at hl 2 rfl) ?_
      refine lv_bipush (v := (24 : Int32)) hx hb dX6_played_29 (by decide) ?_
      refine lv_icmp_ge (tgt := 67) hx hb dX6_played_31 (by decide) (fun c10 => ?_) (fun c10 => ?_)
      · replace h := gi_t h c10
        exact hx2 I h _ _ hW _ (lv_sub hl [] rfl)
      · replace h := gi_f h c10
        refine lv_aload_n hx hb dX6_played_34 rfl (lv_at hl 0 rfl) ?_
        refine lv_aload_n hx hb dX6_played_35 rfl (lv_at hl 1 rfl) ?_
        refine g_get K hW (t := 2) (ci := 3) (k := 0) (v := .ref (ad (tt8 + 1))) htt8 rfl rfl i_X3 (by decide) q_310 rfl (gfv2 (rT_0 htt8)) dX6_played_36 ?_
        refine lv_iload_n hx hb dX6_played_39 rfl (lv_at hl 2 rfl) ?_
        obtain ⟨g11, h⟩ := gd_o h hn
        refine g_iald K hW (kT_0 htt8) g11 rfl dX6_played_40 ?_
        refine lv_aload_n hx hb dX6_played_41 rfl (lv_at hl 1 rfl) ?_
        refine g_get K hW (t := 2) (ci := 3) (k := 1) (v := .ref (ad (tt8 + 2))) htt8 rfl rfl i_X3 (by decide) q_312 rfl (gfv2 (rT_1 htt8)) dX6_played_42 ?_
        refine lv_iload_n hx hb dX6_played_45 rfl (lv_at hl 2 rfl) ?_
        refine g_iald K hW (kT_1 htt8) g11 rfl dX6_played_46 ?_
        refine lv_aload_n hx hb dX6_played_47 rfl (lv_at hl 1 rfl) ?_
        refine g_get K hW (t := 2) (ci := 3) (k := 2) (v := .ref (ad (tt8 + 3))) htt8 rfl rfl i_X3 (by decide) q_314 rfl (gfv2 (rT_2 htt8)) dX6_played_48 ?_
        refine lv_iload_n hx hb dX6_played_51 rfl (lv_at hl 2 rfl) ?_
        refine g_iald K hW (kT_2 htt8) g11 rfl dX6_played_52 ?_
        obtain ⟨⟨u12, I13⟩, e14, h⟩ := bd_o h hn
        replace h := pr_o h
        refine g_callVi (rest := []) K hW hl (kX6_play (l := l) (G := G) (ad := ad) hok (I (tt8 + 1) (u4).toNatClampNeg) (I (tt8 + 2) (u4).toNatClampNeg) (I (tt8 + 3) (u4).toNatClampNeg) I J u12 I13 e14) kLC_0 rfl (gG_V q_815 q_817 q_39 q_133 q_818) nm_X6_play ⟨Nat.le_of_ble_eq_true rfl, Nat.le_of_ble_eq_true rfl⟩ rfl rfl (Nat.le_of_ble_eq_true rfl) ⟨Nat.zero_le _, Nat.zero_le _⟩ dX6_played_53 (fun z15 H locs hW => ?_)
        refine lv_if_ne (tgt := 61) hx hb dX6_played_56 (by decide) (fun c16 => ?_) (fun c16 => ?_)
        · replace h := gi_f h c16
          obtain ⟨u17, e18, h⟩ := lz_o h
          refine lv_iinc (v := u17) (lv' := [(3, .int u17), (0, .ref (ad 0)), (2, .ref (ad tt8))]) hx hb dX6_played_61 hl (k := 2) rfl (by rw [e18]; rfl) (by decide) rfl (fun ls hl => ?_)
          refine lv_goto (tgt := 20) hx hb dX6_played_64 (by decide) ?_
          exact ih u17 I13 J _ h hn _ _ hW _ (lv_sub hl [1, 2, 0] rfl) hx1 hx2
        · replace h := gi_t h c16
          exact hx1 u4 I13 h _ _ hW _ (lv_sub hl [2] rfl)
noncomputable def fX6_played  (x1 : Int32) (I : gI) : Option (Int32 × gI) :=
  gi ((fX6_isText x1 I) = 0)
 (some ((-2 : Int32), I))
 (gd (vp_in x1 4) (bd (fX6_played_20 (296 + 8 * (x1).toNatClampNeg) FU (0 : Int32) I) (sm (pr (fun (u21 : Int32) (I22 : gI) => some (u21, I22))) (fun (I24 : gI) => some ((-1 : Int32), I24)))))
set_option maxHeartbeats 4000000 in
set_option maxRecDepth 100000 in
theorem kX6_played {l : Launch} {G : gG} {ad : Nat → Nat} (hok : gInj LC ad)    (x1 : Int32) (I : gI) (J : gJ) (r : Int32) (I' : gI) (h : fX6_played x1 I = some (r, I')) : gMi l yX6_played cX6_played 4 (some .int) 8 G LC ad [.ref (ad 0), .int x1] I J r True I' J := by
  refine gMi_of (lst := [(0, .ref (ad 0)), (1, .int x1)]) (by decide) hok (Nat.le_of_ble_eq_true rfl) rfl ?_
  intro p e s m args below meth c Q ls K hW hl hfin
  have hn : (some (r, I') : Option (Int32 × gI)) ≠ none := Option.some_ne_none _
  have hx := K.1; have hb := K.2.1; have hown := K.2.2.2.1; have hts := K.2.2.2.2.1
  unfold fX6_played at h
  refine lv_aload_n hx hb dX6_played_0 rfl (lv_at hl 0 rfl) ?_
  refine lv_iload_n hx hb dX6_played_1 rfl (lv_at hl 1 rfl) ?_
  refine g_callVi (rest := []) K hW hl (kX6_isText (l := l) (G := G) (ad := ad) hok x1 I J (fX6_isText x1 I) rfl) kLC_0 rfl (gG_V q_668 q_670 q_23 q_133 q_671) nm_X6_isText ⟨Nat.le_of_ble_eq_true rfl, Nat.le_of_ble_eq_true rfl⟩ rfl rfl (Nat.le_of_ble_eq_true rfl) ⟨Nat.zero_le _, Nat.zero_le _⟩ dX6_played_2 (fun z1 H locs hW => ?_)
  refine lv_if_ne (tgt := 11) hx hb dX6_played_5 (by decide) (fun c2 => ?_) (fun c2 => ?_)
  · replace h := gi_f h c2
    refine lv_aload_n hx hb dX6_played_11 rfl (lv_at hl 0 rfl) ?_
    refine g_get K hW (t := 2) (ci := 5) (k := 2) (v := .ref (ad 273)) kLC_0 rfl rfl i_X6 (by decide) q_395 rfl (gfv2 rLC_0_2) dX6_played_12 ?_
    refine lv_iload_n hx hb dX6_played_15 rfl (lv_at hl 1 rfl) ?_
    obtain ⟨g3, h⟩ := gd_o h hn
    refine g_aald6 K hW kLC_273 g3 (rTa _) dX6_played_16 ?_
    refine lv_astore_n (lv' := [(2, .ref (ad (296 + 8 * (x1).toNatClampNeg))), (0, .ref (ad 0)), (1, .int x1)]) hx hb dX6_played_17 rfl hl (by decide) rfl (fun ls hl => ?_)
    refine lv_iconst (v := (0 : Int32)) hx hb dX6_played_18 (by decide) ?_
    refine lv_istore_n (lv' := [(3, .int (0 : Int32)), (2, .ref (ad (296 + 8 * (x1).toNatClampNeg))), (0, .ref (ad 0)), (1, .int x1)]) hx hb dX6_played_19 rfl hl (by decide) rfl (fun ls hl => ?_)
    obtain ⟨r19, e20, h⟩ := bd_o h hn
    refine tX6_played_20 hok K (296 + 8 * (x1).toNatClampNeg) (kTa g3) FU (0 : Int32) I J (some r19) e20 (Option.some_ne_none _) _ _ hW _ (lv_sub hl [2, 1, 0] rfl) ?_ ?_
    · intro u21 I22 q23 H locs hW ls hl
      replace q23 := Option.some.inj q23
      subst q23
      replace h := sm_l h
      replace h := pr_o h
      refine lv_iload_n hx hb dX6_played_59 rfl (lv_at hl 0 rfl) ?_
      obtain ⟨a1, a2⟩ := so2 h
      replace hW := gWd_nI a2 hW
      exact g_nmi a1 (hfin _ _ _ _ hW dX6_played_60)
    · intro I24 q25 H locs hW ls hl
      replace q25 := Option.some.inj q25
      subst q25
      replace h := sm_r h
      refine lv_iconst (v := (-1 : Int32)) hx hb dX6_played_67 (by decide) ?_
      obtain ⟨a1, a2⟩ := so2 h
      replace hW := gWd_nI a2 hW
      exact g_nmi a1 (hfin _ _ _ _ hW dX6_played_68)
  · replace h := gi_t h c2
    refine lv_bipush (v := (-2 : Int32)) hx hb dX6_played_8 (by decide) ?_
    obtain ⟨a1, a2⟩ := so2 h
    replace hW := gWd_nI a2 hW
    exact g_nmi a1 (hfin _ _ _ _ hW dX6_played_10)
