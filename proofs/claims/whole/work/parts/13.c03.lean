-- 13.c03: the class: X6.buyer X6.isSlice X6.value X6.isBuyer X6.paid X6.said X6.putBytes X6.feed X6.end X6.fault X6.isText X6.by X6.held X6.bidsBy X6.wantsSort X6.priceFor X6.remember X6.sellTo X6.sell
theorem kLC_7 : gAt LC 7 1 6 := ⟨by decide, by decide +kernel⟩
theorem rLC_1_5 : LC.2.2 1 5 = some 7 := by decide +kernel
theorem kLC_11 : gAt LC 11 0 4 := ⟨by decide, by decide +kernel⟩
theorem rLC_1_9 : LC.2.2 1 9 = some 11 := by decide +kernel
theorem kLC_12 : gAt LC 12 1 6 := ⟨by decide, by decide +kernel⟩
theorem rLC_11_0 : LC.2.2 11 0 = some 12 := by decide +kernel
theorem kLC_13 : gAt LC 13 1 6 := ⟨by decide, by decide +kernel⟩
theorem rLC_11_1 : LC.2.2 11 1 = some 13 := by decide +kernel
theorem nm_X6_isRun : gNm yX6_isRun 2 := by decide +kernel
noncomputable def fX6_buyer  (x1 : Int32) (x2 : Int32) (x3 : Int32) (x4 : Int32) (I : gI) : Option (Int32 × gI) :=
  lz (fun (u2 : Int32) => gi (u2 = 0)
 (some ((-1 : Int32), I))
 (gi ((I 1 12) < (6 : Int32))
 (lz ((I 1 12)) (fun (u8 : Int32) => lz (wI I 1 12 (u8 + (1 : Int32))) (fun (I10 : gI) => gd (vp_in u8 6) (lz (wI I10 4 (u8).toNatClampNeg x1) (fun (I14 : gI) => lz (wI I14 5 (u8).toNatClampNeg x2) (fun (I16 : gI) => lz (wI I16 6 (u8).toNatClampNeg x3) (fun (I18 : gI) => lz (wI I18 7 (u8).toNatClampNeg x4) (fun (I20 : gI) => lz (wI I20 12 (u8).toNatClampNeg x4) (fun (I22 : gI) => lz (wI I22 13 (u8).toNatClampNeg (0 : Int32)) (fun (I24 : gI) => some (u8, I24)))))))))))
 (some ((-1 : Int32), I)))) (fun j3 => lz (j3 (0 : Int32)) (fun j25 => gi ((fX6_within x1 (0 : Int32) (31 : Int32)) = 0)
 (j25)
 (gi ((fX6_isRun x2 x3) = 0)
 (j25)
 (gi ((fX6_within x4 (0 : Int32) (999 : Int32)) = 0)
 (j25)
 (j3 (1 : Int32))))))
set_option maxHeartbeats 4000000 in
set_option maxRecDepth 100000 in
theorem kX6_buyer {l : Launch} {G : gG} {ad : Nat → Nat} (hok : gInj LC ad)    (x1 : Int32) (x2 : Int32) (x3 : Int32) (x4 : Int32) (I : gI) (J : gJ) (r : Int32) (I' : gI) (h : fX6_buyer x1 x2 x3 x4 I = some (r, I')) : gMi l yX6_buyer cX6_buyer 7 (some .int) 2 G LC ad [.ref (ad 0), .int x1, .int x2, .int x3, .int x4] I J r True I' J := by
  refine gMi_of (lst := [(0, .ref (ad 0)), (1, .int x1), (2, .int x2), (3, .int x3), (4, .int x4)]) (by decide) hok (Nat.le_of_ble_eq_true rfl) rfl ?_
  intro p e s m args below meth c Q ls K hW hl hfin
  have hn : (some (r, I') : Option (Int32 × gI)) ≠ none := Option.some_ne_none _
  have hx := K.1; have hb := K.2.1; have hown := K.2.2.2.1; have hts := K.2.2.2.2.1
  unfold fX6_buyer at h
  refine lv_iload_n hx hb dX6_buyer_0 rfl (lv_at hl 1 rfl) ?_
  refine lv_iconst (v := (0 : Int32)) hx hb dX6_buyer_1 (by decide) ?_
  refine lv_bipush (v := (31 : Int32)) hx hb dX6_buyer_2 (by decide) ?_
  refine g_callSi (rest := []) K hW hl (kX6_within (l := l) (G := G) (ad := ad) hok x1 (0 : Int32) (31 : Int32) I J (fX6_within x1 (0 : Int32) (31 : Int32)) rfl) q_440 q_441 q_133 q_442 nm_X6_within ⟨Nat.le_of_ble_eq_true rfl, Nat.le_of_ble_eq_true rfl⟩ rfl rfl (Nat.le_of_ble_eq_true rfl) ⟨Nat.zero_le _, Nat.zero_le _⟩ dX6_buyer_4 (fun z1 H locs hW => ?_)
  obtain ⟨j3, e4, h⟩ := lz_o h
  have hj5 : ∀ (u2 : Int32), j3 u2 = (some (r, I')) → ∀ (H : Heap) (locs : List Loc), gWd G LC ad (gA LC ad) s.heap I J H locs → ∀ (ls : Array Slot), lv_has ls 7 [(0, .ref (ad 0)), (1, .int x1), (2, .int x2), (3, .int x3), (4, .int x4)] → W p l e (gRm 2) s m args below meth c H locs 0 0 Q (F0 m 35 ls [.int u2]) := by
    intro u2 h H locs hW ls hl
    replace h := jn1 e4 h
    refine lv_istore (lv' := [(5, .int u2), (0, .ref (ad 0)), (1, .int x1), (2, .int x2), (3, .int x3), (4, .int x4)]) hx hb dX6_buyer_35 hl (by decide) rfl (fun ls hl => ?_)
    refine lv_iload hx hb dX6_buyer_37 (lv_at hl 0 rfl) ?_
    refine lv_if_eq (tgt := 54) hx hb dX6_buyer_39 (by decide) (fun c6 => ?_) (fun c6 => ?_)
    · replace h := gi_t h c6
      refine lv_iconst (v := (-1 : Int32)) hx hb dX6_buyer_54 (by decide) ?_
      obtain ⟨a1, a2⟩ := so2 h
      replace hW := gWd_nI a2 hW
      exact g_nmi a1 (hfin _ _ _ _ hW dX6_buyer_55)
    · replace h := gi_f h c6
      refine lv_aload_n hx hb dX6_buyer_42 rfl (lv_at hl 1 rfl) ?_
      refine g_get K hW (t := 2) (ci := 5) (k := 0) (v := .ref (ad 1)) kLC_0 rfl rfl i_X6 (by decide) q_393 rfl (gfv2 rLC_0_0) dX6_buyer_43 ?_
      refine g_get K hW (t := 0) (ci := 0) (k := 12) (v := .int (I 1 12)) kLC_1 rfl rfl i_X0 (by decide) q_238 rfl rfl dX6_buyer_46 ?_
      refine lv_bipush (v := (6 : Int32)) hx hb dX6_buyer_49 (by decide) ?_
      refine lv_icmp_lt (tgt := 56) hx hb dX6_buyer_51 (by decide) (fun c7 => ?_) (fun c7 => ?_)
      · replace h := gi_t h c7
        refine lv_aload_n hx hb dX6_buyer_56 rfl (lv_at hl 1 rfl) ?_
        refine g_get K hW (t := 2) (ci := 5) (k := 0) (v := .ref (ad 1)) kLC_0 rfl rfl i_X6 (by decide) q_393 rfl (gfv2 rLC_0_0) dX6_buyer_57 ?_
        refine g_get K hW (t := 0) (ci := 0) (k := 12) (v := .int (I 1 12)) kLC_1 rfl rfl i_X0 (by decide) q_238 rfl rfl dX6_buyer_60 ?_
        obtain ⟨u8, e9, h⟩ := lz_o h
        refine g_nmi e9 ?_
        refine lv_istore (lv' := [(6, .int u8), (5, .int u2), (0, .ref (ad 0)), (1, .int x1), (2, .int x2), (3, .int x3), (4, .int x4)]) hx hb dX6_buyer_63 hl (by decide) rfl (fun ls hl => ?_)
        refine lv_aload_n hx hb dX6_buyer_65 rfl (lv_at hl 2 rfl) ?_
        refine g_get K hW (t := 2) (ci := 5) (k := 0) (v := .ref (ad 1)) kLC_0 rfl rfl i_X6 (by decide) q_393 rfl (gfv2 rLC_0_0) dX6_buyer_66 ?_
        refine lv_iload hx hb dX6_buyer_69 (lv_at hl 0 rfl) ?_
        refine lv_iconst (v := (1 : Int32)) hx hb dX6_buyer_71 (by decide) ?_
        refine lv_iadd hx hb dX6_buyer_72 ?_
        refine g_putI K hW (ci := 0) (k := 12) kLC_1 rfl rfl i_X0 tyX0_ok nmX0 (by decide) q_238 rfl rfl rfl rfl dX6_buyer_73 (fun H locs hW => ?_)
        obtain ⟨I10, e11, h⟩ := lz_o h
        replace hW := gWd_nI e11 hW
        refine lv_aload_n hx hb dX6_buyer_76 rfl (lv_at hl 2 rfl) ?_
        refine g_get K hW (t := 2) (ci := 5) (k := 0) (v := .ref (ad 1)) kLC_0 rfl rfl i_X6 (by decide) q_393 rfl (gfv2 rLC_0_0) dX6_buyer_77 ?_
        refine g_get K hW (t := 2) (ci := 0) (k := 2) (v := .ref (ad 4)) kLC_1 rfl rfl i_X0 (by decide) q_217 rfl (gfv2 rLC_1_2) dX6_buyer_80 ?_
        refine lv_iload hx hb dX6_buyer_83 (lv_at hl 0 rfl) ?_
        refine lv_iload_n hx hb dX6_buyer_85 rfl (lv_at hl 3 rfl) ?_
        obtain ⟨g12, h⟩ := gd_o h hn
        refine g_iast K hW kLC_4 g12 rfl dX6_buyer_86 (fun H locs hW => ?_)
        obtain ⟨I14, e13, h⟩ := lz_o h
        replace hW := gWd_nI e13 hW
        refine lv_aload_n hx hb dX6_buyer_87 rfl (lv_at hl 2 rfl) ?_
        refine g_get K hW (t := 2) (ci := 5) (k := 0) (v := .ref (ad 1)) kLC_0 rfl rfl i_X6 (by decide) q_393 rfl (gfv2 rLC_0_0) dX6_buyer_88 ?_
        refine g_get K hW (t := 2) (ci := 0) (k := 3) (v := .ref (ad 5)) kLC_1 rfl rfl i_X0 (by decide) q_220 rfl (gfv2 rLC_1_3) dX6_buyer_91 ?_
        refine lv_iload hx hb dX6_buyer_94 (lv_at hl 0 rfl) ?_
        refine lv_iload_n hx hb dX6_buyer_96 rfl (lv_at hl 4 rfl) ?_
        refine g_iast K hW kLC_5 g12 rfl dX6_buyer_97 (fun H locs hW => ?_)
        obtain ⟨I16, e15, h⟩ := lz_o h
        replace hW := gWd_nI e15 hW
        refine lv_aload_n hx hb dX6_buyer_98 rfl (lv_at hl 2 rfl) ?_
        refine g_get K hW (t := 2) (ci := 5) (k := 0) (v := .ref (ad 1)) kLC_0 rfl rfl i_X6 (by decide) q_393 rfl (gfv2 rLC_0_0) dX6_buyer_99 ?_
        refine g_get K hW (t := 2) (ci := 0) (k := 4) (v := .ref (ad 6)) kLC_1 rfl rfl i_X0 (by decide) q_222 rfl (gfv2 rLC_1_4) dX6_buyer_102 ?_
        refine lv_iload hx hb dX6_buyer_105 (lv_at hl 0 rfl) ?_
        refine lv_iload_n hx hb dX6_buyer_107 rfl (lv_at hl 5 rfl) ?_
        refine g_iast K hW kLC_6 g12 rfl dX6_buyer_108 (fun H locs hW => ?_)
        obtain ⟨I18, e17, h⟩ := lz_o h
        replace hW := gWd_nI e17 hW
        refine lv_aload_n hx hb dX6_buyer_109 rfl (lv_at hl 2 rfl) ?_
        refine g_get K hW (t := 2) (ci := 5) (k := 0) (v := .ref (ad 1)) kLC_0 rfl rfl i_X6 (by decide) q_393 rfl (gfv2 rLC_0_0) dX6_buyer_110 ?_
        refine g_get K hW (t := 2) (ci := 0) (k := 5) (v := .ref (ad 7)) kLC_1 rfl rfl i_X0 (by decide) q_224 rfl (gfv2 rLC_1_5) dX6_buyer_113 ?_
        refine lv_iload hx hb dX6_buyer_116 (lv_at hl 0 rfl) ?_
        refine lv_iload hx hb dX6_buyer_118 (lv_at hl 6 rfl) ?_
        refine g_iast K hW kLC_7 g12 rfl dX6_buyer_120 (fun H locs hW => ?_)
        obtain ⟨I20, e19, h⟩ := lz_o h
        replace hW := gWd_nI e19 hW
        refine lv_aload_n hx hb dX6_buyer_121 rfl (lv_at hl 2 rfl) ?_
        refine g_get K hW (t := 2) (ci := 5) (k := 0) (v := .ref (ad 1)) kLC_0 rfl rfl i_X6 (by decide) q_393 rfl (gfv2 rLC_0_0) dX6_buyer_122 ?_
        refine g_get K hW (t := 2) (ci := 0) (k := 9) (v := .ref (ad 11)) kLC_1 rfl rfl i_X0 (by decide) q_232 rfl (gfv2 rLC_1_9) dX6_buyer_125 ?_
        refine g_get K hW (t := 2) (ci := 4) (k := 0) (v := .ref (ad 12)) kLC_11 rfl rfl i_X5 (by decide) q_169 rfl (gfv2 rLC_11_0) dX6_buyer_128 ?_
        refine lv_iload hx hb dX6_buyer_131 (lv_at hl 0 rfl) ?_
        refine lv_iload hx hb dX6_buyer_133 (lv_at hl 6 rfl) ?_
        refine g_iast K hW kLC_12 g12 rfl dX6_buyer_135 (fun H locs hW => ?_)
        obtain ⟨I22, e21, h⟩ := lz_o h
        replace hW := gWd_nI e21 hW
        refine lv_aload_n hx hb dX6_buyer_136 rfl (lv_at hl 2 rfl) ?_
        refine g_get K hW (t := 2) (ci := 5) (k := 0) (v := .ref (ad 1)) kLC_0 rfl rfl i_X6 (by decide) q_393 rfl (gfv2 rLC_0_0) dX6_buyer_137 ?_
        refine g_get K hW (t := 2) (ci := 0) (k := 9) (v := .ref (ad 11)) kLC_1 rfl rfl i_X0 (by decide) q_232 rfl (gfv2 rLC_1_9) dX6_buyer_140 ?_
        refine g_get K hW (t := 2) (ci := 4) (k := 1) (v := .ref (ad 13)) kLC_11 rfl rfl i_X5 (by decide) q_172 rfl (gfv2 rLC_11_1) dX6_buyer_143 ?_
        refine lv_iload hx hb dX6_buyer_146 (lv_at hl 0 rfl) ?_
        refine lv_iconst (v := (0 : Int32)) hx hb dX6_buyer_148 (by decide) ?_
        refine g_iast K hW kLC_13 g12 rfl dX6_buyer_149 (fun H locs hW => ?_)
        obtain ⟨I24, e23, h⟩ := lz_o h
        replace hW := gWd_nI e23 hW
        refine lv_iload hx hb dX6_buyer_150 (lv_at hl 0 rfl) ?_
        obtain ⟨a1, a2⟩ := so2 h
        replace hW := gWd_nI a2 hW
        exact g_nmi a1 (hfin _ _ _ _ hW dX6_buyer_152)
      · replace h := gi_f h c7
        refine lv_iconst (v := (-1 : Int32)) hx hb dX6_buyer_54 (by decide) ?_
        obtain ⟨a1, a2⟩ := so2 h
        replace hW := gWd_nI a2 hW
        exact g_nmi a1 (hfin _ _ _ _ hW dX6_buyer_55)
  obtain ⟨j25, e26, h⟩ := lz_o h
  have hj27 : j25 = (some (r, I')) → ∀ (H : Heap) (locs : List Loc), gWd G LC ad (gA LC ad) s.heap I J H locs → ∀ (ls : Array Slot), lv_has ls 7 [(0, .ref (ad 0)), (1, .int x1), (2, .int x2), (3, .int x3), (4, .int x4)] → W p l e (gRm 2) s m args below meth c H locs 0 0 Q (F0 m 34 ls []) := by
    intro h H locs hW ls hl
    replace h := jn0 e26 h
    refine lv_iconst (v := (0 : Int32)) hx hb dX6_buyer_34 (by decide) ?_
    exact hj5 (0 : Int32) h _ _ hW _ (lv_sub hl [0, 1, 2, 3, 4] rfl)
  refine lv_if_eq (tgt := 34) hx hb dX6_buyer_7 (by decide) (fun c28 => ?_) (fun c28 => ?_)
  · replace h := gi_t h c28
    exact hj27 h _ _ hW _ (lv_sub hl [0, 1, 2, 3, 4] rfl)
  · replace h := gi_f h c28
    refine lv_iload_n hx hb dX6_buyer_10 rfl (lv_at hl 2 rfl) ?_
    refine lv_iload_n hx hb dX6_buyer_11 rfl (lv_at hl 3 rfl) ?_
    refine g_callSi (rest := []) K hW hl (kX6_isRun (l := l) (G := G) (ad := ad) hok x2 x3 I J (fX6_isRun x2 x3) rfl) q_447 q_448 q_133 q_449 nm_X6_isRun ⟨Nat.le_of_ble_eq_true rfl, Nat.le_of_ble_eq_true rfl⟩ rfl rfl (Nat.le_of_ble_eq_true rfl) ⟨Nat.zero_le _, Nat.zero_le _⟩ dX6_buyer_12 (fun z29 H locs hW => ?_)
    refine lv_if_eq (tgt := 34) hx hb dX6_buyer_15 (by decide) (fun c30 => ?_) (fun c30 => ?_)
    · replace h := gi_t h c30
      exact hj27 h _ _ hW _ (lv_sub hl [0, 1, 2, 3, 4] rfl)
    · replace h := gi_f h c30
      refine lv_iload hx hb dX6_buyer_18 (lv_at hl 4 rfl) ?_
      refine lv_iconst (v := (0 : Int32)) hx hb dX6_buyer_20 (by decide) ?_
      refine lv_sipush (v := (999 : Int32)) hx hb dX6_buyer_21 (by decide) ?_
      refine g_callSi (rest := []) K hW hl (kX6_within (l := l) (G := G) (ad := ad) hok x4 (0 : Int32) (999 : Int32) I J (fX6_within x4 (0 : Int32) (999 : Int32)) rfl) q_440 q_441 q_133 q_442 nm_X6_within ⟨Nat.le_of_ble_eq_true rfl, Nat.le_of_ble_eq_true rfl⟩ rfl rfl (Nat.le_of_ble_eq_true rfl) ⟨Nat.zero_le _, Nat.zero_le _⟩ dX6_buyer_24 (fun z31 H locs hW => ?_)
      refine lv_if_eq (tgt := 34) hx hb dX6_buyer_27 (by decide) (fun c32 => ?_) (fun c32 => ?_)
      · replace h := gi_t h c32
        exact hj27 h _ _ hW _ (lv_sub hl [0, 1, 2, 3, 4] rfl)
      · replace h := gi_f h c32
        refine lv_iconst (v := (1 : Int32)) hx hb dX6_buyer_30 (by decide) ?_
        refine lv_goto (tgt := 35) hx hb dX6_buyer_31 (by decide) ?_
        exact hj5 (1 : Int32) h _ _ hW _ (lv_sub hl [0, 1, 2, 3, 4] rfl)
noncomputable def fX6_isSlice  (x0 : Int32)  : Int32 :=
  gi (x0 < 0)
 ((0 : Int32))
 (gi ((12 : Int32) ≤ x0)
 ((0 : Int32))
 ((1 : Int32)))
set_option maxHeartbeats 4000000 in
set_option maxRecDepth 100000 in
theorem kX6_isSlice {l : Launch} {G : gG} {ad : Nat → Nat} (hok : gInj LC ad)    (x0 : Int32) (I : gI) (J : gJ) (r : Int32) (h : fX6_isSlice x0 = r) : gMi l yX6_isSlice cX6_isSlice 1 (some .boolean) 1 G LC ad [.int x0] I J r (r = 0 ∨ r = 1) I J := by
  refine gMz_of (lst := [(0, .int x0)]) (by decide) hok (Nat.le_of_ble_eq_true rfl) rfl ?_
  intro p e s m args below meth c Q ls K hW hl hfin
  have hx := K.1; have hb := K.2.1; have hown := K.2.2.2.1; have hts := K.2.2.2.2.1
  unfold fX6_isSlice at h
  refine lv_iload_n hx hb dX6_isSlice_0 rfl (lv_at hl 0 rfl) ?_
  refine lv_if_lt (tgt := 14) hx hb dX6_isSlice_1 (by decide) (fun c1 => ?_) (fun c1 => ?_)
  · replace h := gi_t h c1
    refine lv_iconst (v := (0 : Int32)) hx hb dX6_isSlice_14 (by decide) ?_
    obtain a1 := h.symm
    exact g_nmi a1 (hfin _ _ _ _ (a1 ▸ (Or.inl rfl)) hW dX6_isSlice_15)
  · replace h := gi_f h c1
    refine lv_iload_n hx hb dX6_isSlice_4 rfl (lv_at hl 0 rfl) ?_
    refine lv_bipush (v := (12 : Int32)) hx hb dX6_isSlice_5 (by decide) ?_
    refine lv_icmp_ge (tgt := 14) hx hb dX6_isSlice_7 (by decide) (fun c2 => ?_) (fun c2 => ?_)
    · replace h := gi_t h c2
      refine lv_iconst (v := (0 : Int32)) hx hb dX6_isSlice_14 (by decide) ?_
      obtain a1 := h.symm
      exact g_nmi a1 (hfin _ _ _ _ (a1 ▸ (Or.inl rfl)) hW dX6_isSlice_15)
    · replace h := gi_f h c2
      refine lv_iconst (v := (1 : Int32)) hx hb dX6_isSlice_10 (by decide) ?_
      refine lv_goto (tgt := 15) hx hb dX6_isSlice_11 (by decide) ?_
      obtain a1 := h.symm
      exact g_nmi a1 (hfin _ _ _ _ (a1 ▸ (Or.inr rfl)) hW dX6_isSlice_15)
theorem nm_X6_isSlice : gNm yX6_isSlice 1 := by decide +kernel
theorem kLC_8 : gAt LC 8 1 12 := ⟨by decide, by decide +kernel⟩
theorem rLC_1_6 : LC.2.2 1 6 = some 8 := by decide +kernel
noncomputable def fX6_value  (x1 : Int32) (x2 : Int32) (I : gI) : Option (Int32 × gI) :=
  gi ((fX6_isSlice x1) = 0)
 (some ((0 : Int32), I))
 (gi ((fX6_within x2 (0 : Int32) (99 : Int32)) = 0)
 (some ((0 : Int32), I))
 (gd (vp_in x1 12) (lz (wI I 8 (x1).toNatClampNeg x2) (fun (I7 : gI) => some ((1 : Int32), I7)))))
set_option maxHeartbeats 4000000 in
set_option maxRecDepth 100000 in
theorem kX6_value {l : Launch} {G : gG} {ad : Nat → Nat} (hok : gInj LC ad)    (x1 : Int32) (x2 : Int32) (I : gI) (J : gJ) (r : Int32) (I' : gI) (h : fX6_value x1 x2 I = some (r, I')) : gMi l yX6_value cX6_value 3 (some .boolean) 2 G LC ad [.ref (ad 0), .int x1, .int x2] I J r (r = 0 ∨ r = 1) I' J := by
  refine gMz_of (lst := [(0, .ref (ad 0)), (1, .int x1), (2, .int x2)]) (by decide) hok (Nat.le_of_ble_eq_true rfl) rfl ?_
  intro p e s m args below meth c Q ls K hW hl hfin
  have hn : (some (r, I') : Option (Int32 × gI)) ≠ none := Option.some_ne_none _
  have hx := K.1; have hb := K.2.1; have hown := K.2.2.2.1; have hts := K.2.2.2.2.1
  unfold fX6_value at h
  refine lv_iload_n hx hb dX6_value_0 rfl (lv_at hl 1 rfl) ?_
  refine g_callSi (rest := []) K hW hl (kX6_isSlice (l := l) (G := G) (ad := ad) hok x1 I J (fX6_isSlice x1) rfl) q_454 q_455 q_133 q_456 nm_X6_isSlice ⟨Nat.le_of_ble_eq_true rfl, Nat.le_of_ble_eq_true rfl⟩ rfl rfl (Nat.le_of_ble_eq_true rfl) ⟨Nat.zero_le _, Nat.zero_le _⟩ dX6_value_1 (fun z1 H locs hW => ?_)
  refine lv_if_eq (tgt := 17) hx hb dX6_value_4 (by decide) (fun c2 => ?_) (fun c2 => ?_)
  · replace h := gi_t h c2
    refine lv_iconst (v := (0 : Int32)) hx hb dX6_value_17 (by decide) ?_
    obtain ⟨a1, a2⟩ := so2 h
    replace hW := gWd_nI a2 hW
    exact g_nmi a1 (hfin _ _ _ _ (a1 ▸ (Or.inl rfl)) hW dX6_value_18)
  · replace h := gi_f h c2
    refine lv_iload_n hx hb dX6_value_7 rfl (lv_at hl 2 rfl) ?_
    refine lv_iconst (v := (0 : Int32)) hx hb dX6_value_8 (by decide) ?_
    refine lv_bipush (v := (99 : Int32)) hx hb dX6_value_9 (by decide) ?_
    refine g_callSi (rest := []) K hW hl (kX6_within (l := l) (G := G) (ad := ad) hok x2 (0 : Int32) (99 : Int32) I J (fX6_within x2 (0 : Int32) (99 : Int32)) rfl) q_440 q_441 q_133 q_442 nm_X6_within ⟨Nat.le_of_ble_eq_true rfl, Nat.le_of_ble_eq_true rfl⟩ rfl rfl (Nat.le_of_ble_eq_true rfl) ⟨Nat.zero_le _, Nat.zero_le _⟩ dX6_value_11 (fun z3 H locs hW => ?_)
    refine lv_if_ne (tgt := 19) hx hb dX6_value_14 (by decide) (fun c4 => ?_) (fun c4 => ?_)
    · replace h := gi_f h c4
      refine lv_aload_n hx hb dX6_value_19 rfl (lv_at hl 0 rfl) ?_
      refine g_get K hW (t := 2) (ci := 5) (k := 0) (v := .ref (ad 1)) kLC_0 rfl rfl i_X6 (by decide) q_393 rfl (gfv2 rLC_0_0) dX6_value_20 ?_
      refine g_get K hW (t := 2) (ci := 0) (k := 6) (v := .ref (ad 8)) kLC_1 rfl rfl i_X0 (by decide) q_226 rfl (gfv2 rLC_1_6) dX6_value_23 ?_
      refine lv_iload_n hx hb dX6_value_26 rfl (lv_at hl 1 rfl) ?_
      refine lv_iload_n hx hb dX6_value_27 rfl (lv_at hl 2 rfl) ?_
      obtain ⟨g5, h⟩ := gd_o h hn
      refine g_iast K hW kLC_8 g5 rfl dX6_value_28 (fun H locs hW => ?_)
      obtain ⟨I7, e6, h⟩ := lz_o h
      replace hW := gWd_nI e6 hW
      refine lv_iconst (v := (1 : Int32)) hx hb dX6_value_29 (by decide) ?_
      obtain ⟨a1, a2⟩ := so2 h
      replace hW := gWd_nI a2 hW
      exact g_nmi a1 (hfin _ _ _ _ (a1 ▸ (Or.inr rfl)) hW dX6_value_30)
    · replace h := gi_t h c4
      refine lv_iconst (v := (0 : Int32)) hx hb dX6_value_17 (by decide) ?_
      obtain ⟨a1, a2⟩ := so2 h
      replace hW := gWd_nI a2 hW
      exact g_nmi a1 (hfin _ _ _ _ (a1 ▸ (Or.inl rfl)) hW dX6_value_18)
noncomputable def fX6_isBuyer  (x1 : Int32) (I : gI) : Int32 :=
  gi (x1 < 0)
 ((0 : Int32))
 (gi ((I 1 12) ≤ x1)
 ((0 : Int32))
 ((1 : Int32)))
set_option maxHeartbeats 4000000 in
set_option maxRecDepth 100000 in
theorem kX6_isBuyer {l : Launch} {G : gG} {ad : Nat → Nat} (hok : gInj LC ad)    (x1 : Int32) (I : gI) (J : gJ) (r : Int32) (h : fX6_isBuyer x1 I = r) : gMi l yX6_isBuyer cX6_isBuyer 2 (some .boolean) 1 G LC ad [.ref (ad 0), .int x1] I J r (r = 0 ∨ r = 1) I J := by
  refine gMz_of (lst := [(0, .ref (ad 0)), (1, .int x1)]) (by decide) hok (Nat.le_of_ble_eq_true rfl) rfl ?_
  intro p e s m args below meth c Q ls K hW hl hfin
  have hx := K.1; have hb := K.2.1; have hown := K.2.2.2.1; have hts := K.2.2.2.2.1
  unfold fX6_isBuyer at h
  refine lv_iload_n hx hb dX6_isBuyer_0 rfl (lv_at hl 1 rfl) ?_
  refine lv_if_lt (tgt := 19) hx hb dX6_isBuyer_1 (by decide) (fun c1 => ?_) (fun c1 => ?_)
  · replace h := gi_t h c1
    refine lv_iconst (v := (0 : Int32)) hx hb dX6_isBuyer_19 (by decide) ?_
    obtain a1 := h.symm
    exact g_nmi a1 (hfin _ _ _ _ (a1 ▸ (Or.inl rfl)) hW dX6_isBuyer_20)
  · replace h := gi_f h c1
    refine lv_iload_n hx hb dX6_isBuyer_4 rfl (lv_at hl 1 rfl) ?_
    refine lv_aload_n hx hb dX6_isBuyer_5 rfl (lv_at hl 0 rfl) ?_
    refine g_get K hW (t := 2) (ci := 5) (k := 0) (v := .ref (ad 1)) kLC_0 rfl rfl i_X6 (by decide) q_393 rfl (gfv2 rLC_0_0) dX6_isBuyer_6 ?_
    refine g_get K hW (t := 0) (ci := 0) (k := 12) (v := .int (I 1 12)) kLC_1 rfl rfl i_X0 (by decide) q_238 rfl rfl dX6_isBuyer_9 ?_
    refine lv_icmp_ge (tgt := 19) hx hb dX6_isBuyer_12 (by decide) (fun c2 => ?_) (fun c2 => ?_)
    · replace h := gi_t h c2
      refine lv_iconst (v := (0 : Int32)) hx hb dX6_isBuyer_19 (by decide) ?_
      obtain a1 := h.symm
      exact g_nmi a1 (hfin _ _ _ _ (a1 ▸ (Or.inl rfl)) hW dX6_isBuyer_20)
    · replace h := gi_f h c2
      refine lv_iconst (v := (1 : Int32)) hx hb dX6_isBuyer_15 (by decide) ?_
      refine lv_goto (tgt := 20) hx hb dX6_isBuyer_16 (by decide) ?_
      obtain a1 := h.symm
      exact g_nmi a1 (hfin _ _ _ _ (a1 ▸ (Or.inr rfl)) hW dX6_isBuyer_20)
theorem nm_X6_isBuyer : gNm yX6_isBuyer 1 := by decide +kernel
noncomputable def fX6_paid  (x1 : Int32) (x2 : Int32) (I : gI) : Int32 × gI :=
  gi (x1 = (-1 : Int32))
 (lz (wI I 1 16 (0 : Int32)) (fun (I15 : gI) => lz (wI I15 1 17 (0 : Int32)) (fun (I17 : gI) => ((0 : Int32), I17))))
 (gi ((fX6_isBuyer x1 I) = 0)
 (((-2 : Int32), I))
 (gi (((jshr (I 1 16) x1) &&& (1 : Int32)) = (1 : Int32))
 (((-2 : Int32), I))
 (lz (wI I 1 16 ((I 1 16) ||| (jshl (1 : Int32) x1))) (fun (I5 : gI) => lz (fun (I7 : gI) => ((fJ6_bitCount_0f7a4 (I7 1 16)), I7)) (fun j8 => gi (x2 = 0)
 (j8 I5)
 (lz (wI I5 1 17 ((I5 1 17) ||| (jshl (1 : Int32) x1))) (fun (I13 : gI) => j8 I13)))))))
set_option maxHeartbeats 4000000 in
set_option maxRecDepth 100000 in
theorem kX6_paid {l : Launch} {G : gG} {ad : Nat → Nat} (hok : gInj LC ad)    (x1 : Int32) (x2 : Int32) (I : gI) (J : gJ) (r : Int32) (I' : gI) (h : fX6_paid x1 x2 I = (r, I')) : gMi l yX6_paid cX6_paid 3 (some .int) 2 G LC ad [.ref (ad 0), .int x1, .int x2] I J r True I' J := by
  refine gMi_of (lst := [(0, .ref (ad 0)), (1, .int x1), (2, .int x2)]) (by decide) hok (Nat.le_of_ble_eq_true rfl) rfl ?_
  intro p e s m args below meth c Q ls K hW hl hfin
  have hx := K.1; have hb := K.2.1; have hown := K.2.2.2.1; have hts := K.2.2.2.2.1
  unfold fX6_paid at h
  refine lv_iload_n hx hb dX6_paid_0 rfl (lv_at hl 1 rfl) ?_
  refine lv_iconst (v := (-1 : Int32)) hx hb dX6_paid_1 (by decide) ?_
  refine lv_icmp_ne (tgt := 23) hx hb dX6_paid_2 (by decide) (fun c1 => ?_) (fun c1 => ?_)
  · replace h := gi_f h c1
    refine lv_aload_n hx hb dX6_paid_23 rfl (lv_at hl 0 rfl) ?_
    refine lv_iload_n hx hb dX6_paid_24 rfl (lv_at hl 1 rfl) ?_
    refine g_callVi (rest := []) K hW hl (kX6_isBuyer (l := l) (G := G) (ad := ad) hok x1 I J (fX6_isBuyer x1 I) rfl) kLC_0 rfl (gG_V q_461 q_463 q_0 q_133 q_464) nm_X6_isBuyer ⟨Nat.le_of_ble_eq_true rfl, Nat.le_of_ble_eq_true rfl⟩ rfl rfl (Nat.le_of_ble_eq_true rfl) ⟨Nat.zero_le _, Nat.zero_le _⟩ dX6_paid_25 (fun z2 H locs hW => ?_)
    refine lv_if_eq (tgt := 46) hx hb dX6_paid_28 (by decide) (fun c3 => ?_) (fun c3 => ?_)
    · replace h := gi_t h c3
      refine lv_bipush (v := (-2 : Int32)) hx hb dX6_paid_46 (by decide) ?_
      obtain ⟨a1, a2⟩ := to2 h
      replace hW := gWd_nI a2 hW
      exact g_nmi a1 (hfin _ _ _ _ hW dX6_paid_48)
    · replace h := gi_f h c3
      refine lv_aload_n hx hb dX6_paid_31 rfl (lv_at hl 0 rfl) ?_
      refine g_get K hW (t := 2) (ci := 5) (k := 0) (v := .ref (ad 1)) kLC_0 rfl rfl i_X6 (by decide) q_393 rfl (gfv2 rLC_0_0) dX6_paid_32 ?_
      refine g_get K hW (t := 0) (ci := 0) (k := 16) (v := .int (I 1 16)) kLC_1 rfl rfl i_X0 (by decide) q_247 rfl rfl dX6_paid_35 ?_
      refine lv_iload_n hx hb dX6_paid_38 rfl (lv_at hl 1 rfl) ?_
      refine g_ishr hx hb dX6_paid_39 ?_
      refine lv_iconst (v := (1 : Int32)) hx hb dX6_paid_40 (by decide) ?_
      refine lv_iand hx hb dX6_paid_41 ?_
      refine lv_iconst (v := (1 : Int32)) hx hb dX6_paid_42 (by decide) ?_
      refine lv_icmp_ne (tgt := 49) hx hb dX6_paid_43 (by decide) (fun c4 => ?_) (fun c4 => ?_)
      · replace h := gi_f h c4
        refine lv_aload_n hx hb dX6_paid_49 rfl (lv_at hl 0 rfl) ?_
        refine g_get K hW (t := 2) (ci := 5) (k := 0) (v := .ref (ad 1)) kLC_0 rfl rfl i_X6 (by decide) q_393 rfl (gfv2 rLC_0_0) dX6_paid_50 ?_
        refine lv_dup hx hb dX6_paid_53 rfl ?_
        refine g_get K hW (t := 0) (ci := 0) (k := 16) (v := .int (I 1 16)) kLC_1 rfl rfl i_X0 (by decide) q_247 rfl rfl dX6_paid_54 ?_
        refine lv_iconst (v := (1 : Int32)) hx hb dX6_paid_57 (by decide) ?_
        refine lv_iload_n hx hb dX6_paid_58 rfl (lv_at hl 1 rfl) ?_
        refine g_ishl hx hb dX6_paid_59 ?_
        refine lv_ior hx hb dX6_paid_60 ?_
        refine g_putI K hW (ci := 0) (k := 16) kLC_1 rfl rfl i_X0 tyX0_ok nmX0 (by decide) q_247 rfl rfl rfl rfl dX6_paid_61 (fun H locs hW => ?_)
        obtain ⟨I5, e6, h⟩ := lz_o h
        replace hW := gWd_nI e6 hW
        refine lv_iload_n hx hb dX6_paid_64 rfl (lv_at hl 2 rfl) ?_
        obtain ⟨j8, e9, h⟩ := lz_o h
        have hj10 : ∀ (I7 : gI), j8 I7 = ((r, I')) → ∀ (H : Heap) (locs : List Loc), gWd G LC ad (gA LC ad) s.heap I7 J H locs → ∀ (ls : Array Slot), lv_has ls 3 [(0, .ref (ad 0))] → W p l e (gRm 2) s m args below meth c H locs 0 0 Q (F0 m 83 ls []) := by
          intro I7 h H locs hW ls hl
          replace h := jn1 e9 h
          refine lv_aload_n hx hb dX6_paid_83 rfl (lv_at hl 0 rfl) ?_
          refine g_get K hW (t := 2) (ci := 5) (k := 0) (v := .ref (ad 1)) kLC_0 rfl rfl i_X6 (by decide) q_393 rfl (gfv2 rLC_0_0) dX6_paid_84 ?_
          refine g_get K hW (t := 0) (ci := 0) (k := 16) (v := .int (I7 1 16)) kLC_1 rfl rfl i_X0 (by decide) q_247 rfl rfl dX6_paid_87 ?_
          refine g_callSi (rest := []) K hW hl (kJ6_bitCount_0f7a4 (l := l) (G := G) (ad := ad) hok (I7 1 16) I7 J (fJ6_bitCount_0f7a4 (I7 1 16)) rfl) q_465 q_466 q_146 q_467 nm_J6_bitCount_0f7a4 ⟨Nat.le_of_ble_eq_true rfl, Nat.le_of_ble_eq_true rfl⟩ rfl rfl (Nat.le_of_ble_eq_true rfl) ⟨Nat.zero_le _, Nat.zero_le _⟩ dX6_paid_90 (fun z11 H locs hW => ?_)
          obtain ⟨a1, a2⟩ := to2 h
          replace hW := gWd_nI a2 hW
          exact g_nmi a1 (hfin _ _ _ _ hW dX6_paid_93)
        refine lv_if_eq (tgt := 83) hx hb dX6_paid_65 (by decide) (fun c12 => ?_) (fun c12 => ?_)
        · replace h := gi_t h c12
          exact hj10 I5 h _ _ hW _ (lv_sub hl [0] rfl)
        · replace h := gi_f h c12
          refine lv_aload_n hx hb dX6_paid_68 rfl (lv_at hl 0 rfl) ?_
          refine g_get K hW (t := 2) (ci := 5) (k := 0) (v := .ref (ad 1)) kLC_0 rfl rfl i_X6 (by decide) q_393 rfl (gfv2 rLC_0_0) dX6_paid_69 ?_
          refine lv_dup hx hb dX6_paid_72 rfl ?_
          refine g_get K hW (t := 0) (ci := 0) (k := 17) (v := .int (I5 1 17)) kLC_1 rfl rfl i_X0 (by decide) q_249 rfl rfl dX6_paid_73 ?_
          refine lv_iconst (v := (1 : Int32)) hx hb dX6_paid_76 (by decide) ?_
          refine lv_iload_n hx hb dX6_paid_77 rfl (lv_at hl 1 rfl) ?_
          refine g_ishl hx hb dX6_paid_78 ?_
          refine lv_ior hx hb dX6_paid_79 ?_
          refine g_putI K hW (ci := 0) (k := 17) kLC_1 rfl rfl i_X0 tyX0_ok nmX0 (by decide) q_249 rfl rfl rfl rfl dX6_paid_80 (fun H locs hW => ?_)
          obtain ⟨I13, e14, h⟩ := lz_o h
          replace hW := gWd_nI e14 hW
          exact hj10 I13 h _ _ hW _ (lv_sub hl [0] rfl)
      · replace h := gi_t h c4
        refine lv_bipush (v := (-2 : Int32)) hx hb dX6_paid_46 (by decide) ?_
        obtain ⟨a1, a2⟩ := to2 h
        replace hW := gWd_nI a2 hW
        exact g_nmi a1 (hfin _ _ _ _ hW dX6_paid_48)
  · replace h := gi_t h c1
    refine lv_aload_n hx hb dX6_paid_5 rfl (lv_at hl 0 rfl) ?_
    refine g_get K hW (t := 2) (ci := 5) (k := 0) (v := .ref (ad 1)) kLC_0 rfl rfl i_X6 (by decide) q_393 rfl (gfv2 rLC_0_0) dX6_paid_6 ?_
    refine lv_iconst (v := (0 : Int32)) hx hb dX6_paid_9 (by decide) ?_
    refine g_putI K hW (ci := 0) (k := 16) kLC_1 rfl rfl i_X0 tyX0_ok nmX0 (by decide) q_247 rfl rfl rfl rfl dX6_paid_10 (fun H locs hW => ?_)
    obtain ⟨I15, e16, h⟩ := lz_o h
    replace hW := gWd_nI e16 hW
    refine lv_aload_n hx hb dX6_paid_13 rfl (lv_at hl 0 rfl) ?_
    refine g_get K hW (t := 2) (ci := 5) (k := 0) (v := .ref (ad 1)) kLC_0 rfl rfl i_X6 (by decide) q_393 rfl (gfv2 rLC_0_0) dX6_paid_14 ?_
    refine lv_iconst (v := (0 : Int32)) hx hb dX6_paid_17 (by decide) ?_
    refine g_putI K hW (ci := 0) (k := 17) kLC_1 rfl rfl i_X0 tyX0_ok nmX0 (by decide) q_249 rfl rfl rfl rfl dX6_paid_18 (fun H locs hW => ?_)
    obtain ⟨I17, e18, h⟩ := lz_o h
    replace hW := gWd_nI e18 hW
    refine lv_iconst (v := (0 : Int32)) hx hb dX6_paid_21 (by decide) ?_
    obtain ⟨a1, a2⟩ := to2 h
    replace hW := gWd_nI a2 hW
    exact g_nmi a1 (hfin _ _ _ _ hW dX6_paid_22)
theorem kLC_9 : gAt LC 9 1 8 := ⟨by decide, by decide +kernel⟩
theorem rLC_1_7 : LC.2.2 1 7 = some 9 := by decide +kernel
theorem kLC_10 : gAt LC 10 1 8 := ⟨by decide, by decide +kernel⟩
theorem rLC_1_8 : LC.2.2 1 8 = some 10 := by decide +kernel
noncomputable def fX6_said  (x1 : Int32) (x2 : Int32) (I : gI) : Option (Int32 × gI) :=
  gi (x1 = (-1 : Int32))
 (lz (wI I 1 15 (0 : Int32)) (fun (I15 : gI) => some ((0 : Int32), I15)))
 (gi ((fX6_isBuyer x1 I) = 0)
 (some ((-2 : Int32), I))
 (gi ((fX6_within x2 (0 : Int32) (99 : Int32)) = 0)
 (some ((-2 : Int32), I))
 (gi ((I 1 15) < (8 : Int32))
 (gd (vp_in (I 1 15) 8) (lz (wI I 9 ((I 1 15)).toNatClampNeg x1) (fun (I9 : gI) => gd (vp_in (I9 1 15) 8) (lz (wI I9 10 ((I9 1 15)).toNatClampNeg x2) (fun (I12 : gI) => lz (wI I12 1 15 ((I12 1 15) + (1 : Int32))) (fun (I13 : gI) => some ((I13 1 15), I13)))))))
 (some ((-2 : Int32), I)))))
set_option maxHeartbeats 4000000 in
set_option maxRecDepth 100000 in
theorem kX6_said {l : Launch} {G : gG} {ad : Nat → Nat} (hok : gInj LC ad)    (x1 : Int32) (x2 : Int32) (I : gI) (J : gJ) (r : Int32) (I' : gI) (h : fX6_said x1 x2 I = some (r, I')) : gMi l yX6_said cX6_said 3 (some .int) 2 G LC ad [.ref (ad 0), .int x1, .int x2] I J r True I' J := by
  refine gMi_of (lst := [(0, .ref (ad 0)), (1, .int x1), (2, .int x2)]) (by decide) hok (Nat.le_of_ble_eq_true rfl) rfl ?_
  intro p e s m args below meth c Q ls K hW hl hfin
  have hn : (some (r, I') : Option (Int32 × gI)) ≠ none := Option.some_ne_none _
  have hx := K.1; have hb := K.2.1; have hown := K.2.2.2.1; have hts := K.2.2.2.2.1
  unfold fX6_said at h
  refine lv_iload_n hx hb dX6_said_0 rfl (lv_at hl 1 rfl) ?_
  refine lv_iconst (v := (-1 : Int32)) hx hb dX6_said_1 (by decide) ?_
  refine lv_icmp_ne (tgt := 15) hx hb dX6_said_2 (by decide) (fun c1 => ?_) (fun c1 => ?_)
  · replace h := gi_f h c1
    refine lv_aload_n hx hb dX6_said_15 rfl (lv_at hl 0 rfl) ?_
    refine lv_iload_n hx hb dX6_said_16 rfl (lv_at hl 1 rfl) ?_
    refine g_callVi (rest := []) K hW hl (kX6_isBuyer (l := l) (G := G) (ad := ad) hok x1 I J (fX6_isBuyer x1 I) rfl) kLC_0 rfl (gG_V q_461 q_463 q_0 q_133 q_464) nm_X6_isBuyer ⟨Nat.le_of_ble_eq_true rfl, Nat.le_of_ble_eq_true rfl⟩ rfl rfl (Nat.le_of_ble_eq_true rfl) ⟨Nat.zero_le _, Nat.zero_le _⟩ dX6_said_17 (fun z2 H locs hW => ?_)
    refine lv_if_eq (tgt := 45) hx hb dX6_said_20 (by decide) (fun c3 => ?_) (fun c3 => ?_)
    · replace h := gi_t h c3
      refine lv_bipush (v := (-2 : Int32)) hx hb dX6_said_45 (by decide) ?_
      obtain ⟨a1, a2⟩ := so2 h
      replace hW := gWd_nI a2 hW
      exact g_nmi a1 (hfin _ _ _ _ hW dX6_said_47)
    · replace h := gi_f h c3
      refine lv_iload_n hx hb dX6_said_23 rfl (lv_at hl 2 rfl) ?_
      refine lv_iconst (v := (0 : Int32)) hx hb dX6_said_24 (by decide) ?_
      refine lv_bipush (v := (99 : Int32)) hx hb dX6_said_25 (by decide) ?_
      refine g_callSi (rest := []) K hW hl (kX6_within (l := l) (G := G) (ad := ad) hok x2 (0 : Int32) (99 : Int32) I J (fX6_within x2 (0 : Int32) (99 : Int32)) rfl) q_440 q_441 q_133 q_442 nm_X6_within ⟨Nat.le_of_ble_eq_true rfl, Nat.le_of_ble_eq_true rfl⟩ rfl rfl (Nat.le_of_ble_eq_true rfl) ⟨Nat.zero_le _, Nat.zero_le _⟩ dX6_said_27 (fun z4 H locs hW => ?_)
      refine lv_if_eq (tgt := 45) hx hb dX6_said_30 (by decide) (fun c5 => ?_) (fun c5 => ?_)
      · replace h := gi_t h c5
        refine lv_bipush (v := (-2 : Int32)) hx hb dX6_said_45 (by decide) ?_
        obtain ⟨a1, a2⟩ := so2 h
        replace hW := gWd_nI a2 hW
        exact g_nmi a1 (hfin _ _ _ _ hW dX6_said_47)
      · replace h := gi_f h c5
        refine lv_aload_n hx hb dX6_said_33 rfl (lv_at hl 0 rfl) ?_
        refine g_get K hW (t := 2) (ci := 5) (k := 0) (v := .ref (ad 1)) kLC_0 rfl rfl i_X6 (by decide) q_393 rfl (gfv2 rLC_0_0) dX6_said_34 ?_
        refine g_get K hW (t := 0) (ci := 0) (k := 15) (v := .int (I 1 15)) kLC_1 rfl rfl i_X0 (by decide) q_245 rfl rfl dX6_said_37 ?_
        refine lv_bipush (v := (8 : Int32)) hx hb dX6_said_40 (by decide) ?_
        refine lv_icmp_lt (tgt := 48) hx hb dX6_said_42 (by decide) (fun c6 => ?_) (fun c6 => ?_)
        · replace h := gi_t h c6
          refine lv_aload_n hx hb dX6_said_48 rfl (lv_at hl 0 rfl) ?_
          refine g_get K hW (t := 2) (ci := 5) (k := 0) (v := .ref (ad 1)) kLC_0 rfl rfl i_X6 (by decide) q_393 rfl (gfv2 rLC_0_0) dX6_said_49 ?_
          refine g_get K hW (t := 2) (ci := 0) (k := 7) (v := .ref (ad 9)) kLC_1 rfl rfl i_X0 (by decide) q_228 rfl (gfv2 rLC_1_7) dX6_said_52 ?_
          refine lv_aload_n hx hb dX6_said_55 rfl (lv_at hl 0 rfl) ?_
          refine g_get K hW (t := 2) (ci := 5) (k := 0) (v := .ref (ad 1)) kLC_0 rfl rfl i_X6 (by decide) q_393 rfl (gfv2 rLC_0_0) dX6_said_56 ?_
          refine g_get K hW (t := 0) (ci := 0) (k := 15) (v := .int (I 1 15)) kLC_1 rfl rfl i_X0 (by decide) q_245 rfl rfl dX6_said_59 ?_
          refine lv_iload_n hx hb dX6_said_62 rfl (lv_at hl 1 rfl) ?_
          obtain ⟨g7, h⟩ := gd_o h hn
          refine g_iast K hW kLC_9 g7 rfl dX6_said_63 (fun H locs hW => ?_)
          obtain ⟨I9, e8, h⟩ := lz_o h
          replace hW := gWd_nI e8 hW
          refine lv_aload_n hx hb dX6_said_64 rfl (lv_at hl 0 rfl) ?_
          refine g_get K hW (t := 2) (ci := 5) (k := 0) (v := .ref (ad 1)) kLC_0 rfl rfl i_X6 (by decide) q_393 rfl (gfv2 rLC_0_0) dX6_said_65 ?_
          refine g_get K hW (t := 2) (ci := 0) (k := 8) (v := .ref (ad 10)) kLC_1 rfl rfl i_X0 (by decide) q_230 rfl (gfv2 rLC_1_8) dX6_said_68 ?_
          refine lv_aload_n hx hb dX6_said_71 rfl (lv_at hl 0 rfl) ?_
          refine g_get K hW (t := 2) (ci := 5) (k := 0) (v := .ref (ad 1)) kLC_0 rfl rfl i_X6 (by decide) q_393 rfl (gfv2 rLC_0_0) dX6_said_72 ?_
          refine g_get K hW (t := 0) (ci := 0) (k := 15) (v := .int (I9 1 15)) kLC_1 rfl rfl i_X0 (by decide) q_245 rfl rfl dX6_said_75 ?_
          refine lv_iload_n hx hb dX6_said_78 rfl (lv_at hl 2 rfl) ?_
          obtain ⟨g10, h⟩ := gd_o h hn
          refine g_iast K hW kLC_10 g10 rfl dX6_said_79 (fun H locs hW => ?_)
          obtain ⟨I12, e11, h⟩ := lz_o h
          replace hW := gWd_nI e11 hW
          refine lv_aload_n hx hb dX6_said_80 rfl (lv_at hl 0 rfl) ?_
          refine g_get K hW (t := 2) (ci := 5) (k := 0) (v := .ref (ad 1)) kLC_0 rfl rfl i_X6 (by decide) q_393 rfl (gfv2 rLC_0_0) dX6_said_81 ?_
          refine lv_dup hx hb dX6_said_84 rfl ?_
          refine g_get K hW (t := 0) (ci := 0) (k := 15) (v := .int (I12 1 15)) kLC_1 rfl rfl i_X0 (by decide) q_245 rfl rfl dX6_said_85 ?_
          refine lv_iconst (v := (1 : Int32)) hx hb dX6_said_88 (by decide) ?_
          refine lv_iadd hx hb dX6_said_89 ?_
          refine g_putI K hW (ci := 0) (k := 15) kLC_1 rfl rfl i_X0 tyX0_ok nmX0 (by decide) q_245 rfl rfl rfl rfl dX6_said_90 (fun H locs hW => ?_)
          obtain ⟨I13, e14, h⟩ := lz_o h
          replace hW := gWd_nI e14 hW
          refine lv_aload_n hx hb dX6_said_93 rfl (lv_at hl 0 rfl) ?_
          refine g_get K hW (t := 2) (ci := 5) (k := 0) (v := .ref (ad 1)) kLC_0 rfl rfl i_X6 (by decide) q_393 rfl (gfv2 rLC_0_0) dX6_said_94 ?_
          refine g_get K hW (t := 0) (ci := 0) (k := 15) (v := .int (I13 1 15)) kLC_1 rfl rfl i_X0 (by decide) q_245 rfl rfl dX6_said_97 ?_
          obtain ⟨a1, a2⟩ := so2 h
          replace hW := gWd_nI a2 hW
          exact g_nmi a1 (hfin _ _ _ _ hW dX6_said_100)
        · replace h := gi_f h c6
          refine lv_bipush (v := (-2 : Int32)) hx hb dX6_said_45 (by decide) ?_
          obtain ⟨a1, a2⟩ := so2 h
          replace hW := gWd_nI a2 hW
          exact g_nmi a1 (hfin _ _ _ _ hW dX6_said_47)
  · replace h := gi_t h c1
    refine lv_aload_n hx hb dX6_said_5 rfl (lv_at hl 0 rfl) ?_
    refine g_get K hW (t := 2) (ci := 5) (k := 0) (v := .ref (ad 1)) kLC_0 rfl rfl i_X6 (by decide) q_393 rfl (gfv2 rLC_0_0) dX6_said_6 ?_
    refine lv_iconst (v := (0 : Int32)) hx hb dX6_said_9 (by decide) ?_
    refine g_putI K hW (ci := 0) (k := 15) kLC_1 rfl rfl i_X0 tyX0_ok nmX0 (by decide) q_245 rfl rfl rfl rfl dX6_said_10 (fun H locs hW => ?_)
    obtain ⟨I15, e16, h⟩ := lz_o h
    replace hW := gWd_nI e16 hW
    refine lv_iconst (v := (0 : Int32)) hx hb dX6_said_13 (by decide) ?_
    obtain ⟨a1, a2⟩ := so2 h
    replace hW := gWd_nI a2 hW
    exact g_nmi a1 (hfin _ _ _ _ hW dX6_said_14)
theorem rLC_0_3 : LC.2.2 0 3 = some 274 := by decide +kernel
noncomputable def fX6_putBytes_3b  (rec : Int32 → Int32 → gI → Option ((gI))) (u1 : Int32) (u2 : Int32) (I : gI) : Option ((gI)) :=
  gi (u2 < 0)
 (some I)
 (gi ((300 : Int32) ≤ (I 0 10))
 (some I)
 (gd (vp_in (I 0 10) 300) (lz (wI I 274 ((I 0 10)).toNatClampNeg (nchar (ji2c ((jushr u1 u2) &&& (255 : Int32))))) (fun (I8 : gI) => lz (wI I8 0 10 ((I8 0 10) + (1 : Int32))) (fun (I9 : gI) => lz ((u2 + (-8 : Int32))) (fun (u11 : Int32) => rec u1 u11 I9))))))
noncomputable def fX6_putBytes_3  : Nat → Int32 → Int32 → gI → Option ((gI))
  | 0 => fun _ _ _ => none
  | n + 1 => fX6_putBytes_3b  (fX6_putBytes_3  n)
set_option maxHeartbeats 4000000 in
set_option maxRecDepth 100000 in
theorem tX6_putBytes_3 {l : Launch} {G : gG} {ad : Nat → Nat} {p : Program} {e : Env} {s : State} {m : MethodId} {args : Array Value} {below : List Frame} {meth : Method} {c : Code} {Q : State → Prop} (hok : gInj LC ad) (K : gCx G (gA LC ad) p s m args c cX6_putBytes 3 RX6)  : ∀ (n : Nat) (u1 : Int32) (u2 : Int32) (I : gI) (J : gJ) (out : Option ((gI))), fX6_putBytes_3  n u1 u2 I = out → out ≠ none → ∀ (H : Heap) (locs : List Loc), gWd G LC ad (gA LC ad) s.heap I J H locs → ∀ (ls : Array Slot), lv_has ls 3 [(0, .ref (ad 0)), (1, .int u1), (2, .int u2)] → (∀ (I3 : gI), some I3 = out → ∀ (H : Heap) (locs : List Loc), gWd G LC ad (gA LC ad) s.heap I3 J H locs → ∀ (ls : Array Slot), lv_has ls 3 [] → W p l e (gRm 1) s m args below meth c H locs 0 0 Q (F0 m 50 ls [])) → W p l e (gRm 1) s m args below meth c H locs 0 0 Q (F0 m 3 ls []) := by
  have hx := K.1; have hb := K.2.1; have hown := K.2.2.2.1; have hts := K.2.2.2.2.1
  intro n
  induction n with
  | zero => intro u1 u2 I J out h hn; exact absurd h.symm hn
  | succ n ih =>
    intro u1 u2 I J out h hn H locs hW ls hl hx1
    replace h : fX6_putBytes_3b  (fX6_putBytes_3  n) u1 u2 I = out := h
    unfold fX6_putBytes_3b at h
    refine lv_iload_n hx hb dX6_putBytes_3 rfl (lv_at hl 2 rfl) ?_
    refine lv_if_lt (tgt := 50) hx hb dX6_putBytes_4 (by decide) (fun c4 => ?_) (fun c4 => ?_)
    · replace h := gi_t h c4
      exact hx1 I h _ _ hW _ (lv_sub hl [] rfl)
    · replace h := gi_f h c4
      refine lv_aload_n hx hb dX6_putBytes_7 rfl (lv_at hl 0 rfl) ?_
      refine g_get K hW (t := 0) (ci := 5) (k := 10) (v := .int (I 0 10)) kLC_0 rfl rfl i_X6 (by decide) q_403 rfl rfl dX6_putBytes_8 ?_
      refine lv_sipush (v := (300 : Int32)) hx hb dX6_putBytes_11 (by decide) ?_
      refine lv_icmp_ge (tgt := 50) hx hb dX6_putBytes_14 (by decide) (fun c5 => ?_) (fun c5 => ?_)
      · replace h := gi_t h c5
        exact hx1 I h _ _ hW _ (lv_sub hl [] rfl)
      · replace h := gi_f h c5
        refine lv_aload_n hx hb dX6_putBytes_17 rfl (lv_at hl 0 rfl) ?_
        refine g_get K hW (t := 2) (ci := 5) (k := 3) (v := .ref (ad 274)) kLC_0 rfl rfl i_X6 (by decide) q_396 rfl (gfv2 rLC_0_3) dX6_putBytes_18 ?_
        refine lv_aload_n hx hb dX6_putBytes_21 rfl (lv_at hl 0 rfl) ?_
        refine g_get K hW (t := 0) (ci := 5) (k := 10) (v := .int (I 0 10)) kLC_0 rfl rfl i_X6 (by decide) q_403 rfl rfl dX6_putBytes_22 ?_
        refine lv_iload_n hx hb dX6_putBytes_25 rfl (lv_at hl 1 rfl) ?_
        refine lv_iload_n hx hb dX6_putBytes_26 rfl (lv_at hl 2 rfl) ?_
        refine g_iushr hx hb dX6_putBytes_27 ?_
        refine lv_sipush (v := (255 : Int32)) hx hb dX6_putBytes_28 (by decide) ?_
        refine lv_iand hx hb dX6_putBytes_31 ?_
        refine g_i2c hx hb dX6_putBytes_32 ?_
        obtain ⟨g6, h⟩ := gd_o h hn
        refine g_cast K hW kLC_274 g6 rfl dX6_putBytes_33 (fun H locs hW => ?_)
        obtain ⟨I8, e7, h⟩ := lz_o h
        replace hW := gWd_nI e7 hW
        refine lv_aload_n hx hb dX6_putBytes_34 rfl (lv_at hl 0 rfl) ?_
        refine lv_dup hx hb dX6_putBytes_35 rfl ?_
        refine g_get K hW (t := 0) (ci := 5) (k := 10) (v := .int (I8 0 10)) kLC_0 rfl rfl i_X6 (by decide) q_403 rfl rfl dX6_putBytes_36 ?_
        refine lv_iconst (v := (1 : Int32)) hx hb dX6_putBytes_39 (by decide) ?_
        refine lv_iadd hx hb dX6_putBytes_40 ?_
        refine g_putI K hW (ci := 5) (k := 10) kLC_0 rfl rfl i_X6 tyX6_ok nmX6 (by decide) q_403 rfl rfl rfl rfl dX6_putBytes_41 (fun H locs hW => ?_)
        obtain ⟨I9, e10, h⟩ := lz_o h
        replace hW := gWd_nI e10 hW
        obtain ⟨u11, e12, h⟩ := lz_o h
        refine lv_iinc (v := u11) (lv' := [(2, .int u11), (0, .ref (ad 0)), (1, .int u1)]) hx hb dX6_putBytes_44 hl (k := 2) rfl (by rw [e12]; rfl) (by decide) rfl (fun ls hl => ?_)
        refine lv_goto (tgt := 3) hx hb dX6_putBytes_47 (by decide) ?_
        exact ih u1 u11 I9 J _ h hn _ _ hW _ (lv_sub hl [1, 2, 0] rfl) hx1
noncomputable def fX6_putBytes  (x1 : Int32) (I : gI) : Option (gI) :=
  bd (fX6_putBytes_3 FU x1 (24 : Int32) I) (fun (I15 : gI) => some I15)
set_option maxHeartbeats 4000000 in
set_option maxRecDepth 100000 in
theorem kX6_putBytes {l : Launch} {G : gG} {ad : Nat → Nat} (hok : gInj LC ad)    (x1 : Int32) (I : gI) (J : gJ) (I' : gI) (h : fX6_putBytes x1 I = some I') : gMv l yX6_putBytes cX6_putBytes 3 none 1 G LC ad [.ref (ad 0), .int x1] I J I' J := by
  refine gMv_of (lst := [(0, .ref (ad 0)), (1, .int x1)]) (by decide) hok (Nat.le_of_ble_eq_true rfl) rfl ?_
  intro p e s m args below meth c Q ls K hW hl hfin
  have hn : (some I' : Option (gI)) ≠ none := Option.some_ne_none _
  have hx := K.1; have hb := K.2.1; have hown := K.2.2.2.1; have hts := K.2.2.2.2.1
  unfold fX6_putBytes at h
  refine lv_bipush (v := (24 : Int32)) hx hb dX6_putBytes_0 (by decide) ?_
  refine lv_istore_n (lv' := [(2, .int (24 : Int32)), (0, .ref (ad 0)), (1, .int x1)]) hx hb dX6_putBytes_2 rfl hl (by decide) rfl (fun ls hl => ?_)
  obtain ⟨r13, e14, h⟩ := bd_o h hn
  refine tX6_putBytes_3 hok K FU x1 (24 : Int32) I J (some r13) e14 (Option.some_ne_none _) _ _ hW _ (lv_sub hl [1, 2, 0] rfl) ?_
  · intro I15 q16 H locs hW ls hl
    replace q16 := Option.some.inj q16
    subst q16
    obtain a1 := so1 h
    replace hW := gWd_nI a1 hW
    exact hfin _ _ _ _ hW dX6_putBytes_50
theorem nm_X6_putBytes : gNm yX6_putBytes 1 := by decide +kernel
noncomputable def fX6_feed  (x1 : Int32) (x2 : Int32) (x3 : Int32) (x4 : Int32) (x5 : Int32) (I : gI) : Option (Int32 × gI) :=
  gi (((I 0 10) + (20 : Int32)) ≤ (300 : Int32))
 (bd (fX6_putBytes x1 I) (fun (I2 : gI) => bd (fX6_putBytes x2 I2) (fun (I5 : gI) => bd (fX6_putBytes x3 I5) (fun (I8 : gI) => bd (fX6_putBytes x4 I8) (fun (I11 : gI) => bd (fX6_putBytes x5 I11) (fun (I14 : gI) => some ((I14 0 10), I14)))))))
 (some ((-1 : Int32), I))
set_option maxHeartbeats 4000000 in
set_option maxRecDepth 100000 in
theorem kX6_feed {l : Launch} {G : gG} {ad : Nat → Nat} (hok : gInj LC ad)    (x1 : Int32) (x2 : Int32) (x3 : Int32) (x4 : Int32) (x5 : Int32) (I : gI) (J : gJ) (r : Int32) (I' : gI) (h : fX6_feed x1 x2 x3 x4 x5 I = some (r, I')) : gMi l yX6_feed cX6_feed 6 (some .int) 2 G LC ad [.ref (ad 0), .int x1, .int x2, .int x3, .int x4, .int x5] I J r True I' J := by
  refine gMi_of (lst := [(0, .ref (ad 0)), (1, .int x1), (2, .int x2), (3, .int x3), (4, .int x4), (5, .int x5)]) (by decide) hok (Nat.le_of_ble_eq_true rfl) rfl ?_
  intro p e s m args below meth c Q ls K hW hl hfin
  have hn : (some (r, I') : Option (Int32 × gI)) ≠ none := Option.some_ne_none _
  have hx := K.1; have hb := K.2.1; have hown := K.2.2.2.1; have hts := K.2.2.2.2.1
  unfold fX6_feed at h
  refine lv_aload_n hx hb dX6_feed_0 rfl (lv_at hl 0 rfl) ?_
  refine g_get K hW (t := 0) (ci := 5) (k := 10) (v := .int (I 0 10)) kLC_0 rfl rfl i_X6 (by decide) q_403 rfl rfl dX6_feed_1 ?_
  refine lv_bipush (v := (20 : Int32)) hx hb dX6_feed_4 (by decide) ?_
  refine lv_iadd hx hb dX6_feed_6 ?_
  refine lv_sipush (v := (300 : Int32)) hx hb dX6_feed_7 (by decide) ?_
  refine lv_icmp_le (tgt := 15) hx hb dX6_feed_10 (by decide) (fun c1 => ?_) (fun c1 => ?_)
  · replace h := gi_t h c1
    refine lv_aload_n hx hb dX6_feed_15 rfl (lv_at hl 0 rfl) ?_
    refine lv_iload_n hx hb dX6_feed_16 rfl (lv_at hl 1 rfl) ?_
    obtain ⟨I2, e3, h⟩ := bd_o h hn
    refine g_callVv (rest := []) K hW hl (kX6_putBytes (l := l) (G := G) (ad := ad) hok x1 I J I2 e3) kLC_0 rfl (gG_V q_479 q_481 q_1 q_133 q_482) nm_X6_putBytes ⟨Nat.le_of_ble_eq_true rfl, Nat.le_of_ble_eq_true rfl⟩ rfl rfl (Nat.le_of_ble_eq_true rfl) ⟨Nat.zero_le _, Nat.zero_le _⟩ dX6_feed_17 (fun H locs hW => ?_)
    refine lv_aload_n hx hb dX6_feed_20 rfl (lv_at hl 0 rfl) ?_
    refine lv_iload_n hx hb dX6_feed_21 rfl (lv_at hl 2 rfl) ?_
    obtain ⟨I5, e6, h⟩ := bd_o h hn
    refine g_callVv (rest := []) K hW hl (kX6_putBytes (l := l) (G := G) (ad := ad) hok x2 I2 J I5 e6) kLC_0 rfl (gG_V q_479 q_481 q_1 q_133 q_482) nm_X6_putBytes ⟨Nat.le_of_ble_eq_true rfl, Nat.le_of_ble_eq_true rfl⟩ rfl rfl (Nat.le_of_ble_eq_true rfl) ⟨Nat.zero_le _, Nat.zero_le _⟩ dX6_feed_22 (fun H locs hW => ?_)
    refine lv_aload_n hx hb dX6_feed_25 rfl (lv_at hl 0 rfl) ?_
    refine lv_iload_n hx hb dX6_feed_26 rfl (lv_at hl 3 rfl) ?_
    obtain ⟨I8, e9, h⟩ := bd_o h hn
    refine g_callVv (rest := []) K hW hl (kX6_putBytes (l := l) (G := G) (ad := ad) hok x3 I5 J I8 e9) kLC_0 rfl (gG_V q_479 q_481 q_1 q_133 q_482) nm_X6_putBytes ⟨Nat.le_of_ble_eq_true rfl, Nat.le_of_ble_eq_true rfl⟩ rfl rfl (Nat.le_of_ble_eq_true rfl) ⟨Nat.zero_le _, Nat.zero_le _⟩ dX6_feed_27 (fun H locs hW => ?_)
    refine lv_aload_n hx hb dX6_feed_30 rfl (lv_at hl 0 rfl) ?_
    refine lv_iload hx hb dX6_feed_31 (lv_at hl 4 rfl) ?_
    obtain ⟨I11, e12, h⟩ := bd_o h hn
    refine g_callVv (rest := []) K hW hl (kX6_putBytes (l := l) (G := G) (ad := ad) hok x4 I8 J I11 e12) kLC_0 rfl (gG_V q_479 q_481 q_1 q_133 q_482) nm_X6_putBytes ⟨Nat.le_of_ble_eq_true rfl, Nat.le_of_ble_eq_true rfl⟩ rfl rfl (Nat.le_of_ble_eq_true rfl) ⟨Nat.zero_le _, Nat.zero_le _⟩ dX6_feed_33 (fun H locs hW => ?_)
    refine lv_aload_n hx hb dX6_feed_36 rfl (lv_at hl 0 rfl) ?_
    refine lv_iload hx hb dX6_feed_37 (lv_at hl 5 rfl) ?_
    obtain ⟨I14, e15, h⟩ := bd_o h hn
    refine g_callVv (rest := []) K hW hl (kX6_putBytes (l := l) (G := G) (ad := ad) hok x5 I11 J I14 e15) kLC_0 rfl (gG_V q_479 q_481 q_1 q_133 q_482) nm_X6_putBytes ⟨Nat.le_of_ble_eq_true rfl, Nat.le_of_ble_eq_true rfl⟩ rfl rfl (Nat.le_of_ble_eq_true rfl) ⟨Nat.zero_le _, Nat.zero_le _⟩ dX6_feed_39 (fun H locs hW => ?_)
    refine lv_aload_n hx hb dX6_feed_42 rfl (lv_at hl 0 rfl) ?_
    refine g_get K hW (t := 0) (ci := 5) (k := 10) (v := .int (I14 0 10)) kLC_0 rfl rfl i_X6 (by decide) q_403 rfl rfl dX6_feed_43 ?_
    obtain ⟨a1, a2⟩ := so2 h
    replace hW := gWd_nI a2 hW
    exact g_nmi a1 (hfin _ _ _ _ hW dX6_feed_46)
  · replace h := gi_f h c1
    refine lv_iconst (v := (-1 : Int32)) hx hb dX6_feed_13 (by decide) ?_
    obtain ⟨a1, a2⟩ := so2 h
    replace hW := gWd_nI a2 hW
    exact g_nmi a1 (hfin _ _ _ _ hW dX6_feed_14)
noncomputable def fX6_end  (x1 : Int32) (I : gI) : Int32 × gI :=
  gi ((fX6_within x1 (0 : Int32) (I 0 10)) = 0)
 (((-1 : Int32), I))
 (lz (wI I 0 10 x1) (fun (I3 : gI) => (x1, I3)))
set_option maxHeartbeats 4000000 in
set_option maxRecDepth 100000 in
theorem kX6_end {l : Launch} {G : gG} {ad : Nat → Nat} (hok : gInj LC ad)    (x1 : Int32) (I : gI) (J : gJ) (r : Int32) (I' : gI) (h : fX6_end x1 I = (r, I')) : gMi l yX6_end cX6_end 2 (some .int) 2 G LC ad [.ref (ad 0), .int x1] I J r True I' J := by
  refine gMi_of (lst := [(0, .ref (ad 0)), (1, .int x1)]) (by decide) hok (Nat.le_of_ble_eq_true rfl) rfl ?_
  intro p e s m args below meth c Q ls K hW hl hfin
  have hx := K.1; have hb := K.2.1; have hown := K.2.2.2.1; have hts := K.2.2.2.2.1
  unfold fX6_end at h
  refine lv_iload_n hx hb dX6_end_0 rfl (lv_at hl 1 rfl) ?_
  refine lv_iconst (v := (0 : Int32)) hx hb dX6_end_1 (by decide) ?_
  refine lv_aload_n hx hb dX6_end_2 rfl (lv_at hl 0 rfl) ?_
  refine g_get K hW (t := 0) (ci := 5) (k := 10) (v := .int (I 0 10)) kLC_0 rfl rfl i_X6 (by decide) q_403 rfl rfl dX6_end_3 ?_
  refine g_callSi (rest := []) K hW hl (kX6_within (l := l) (G := G) (ad := ad) hok x1 (0 : Int32) (I 0 10) I J (fX6_within x1 (0 : Int32) (I 0 10)) rfl) q_440 q_441 q_133 q_442 nm_X6_within ⟨Nat.le_of_ble_eq_true rfl, Nat.le_of_ble_eq_true rfl⟩ rfl rfl (Nat.le_of_ble_eq_true rfl) ⟨Nat.zero_le _, Nat.zero_le _⟩ dX6_end_6 (fun z1 H locs hW => ?_)
  refine lv_if_ne (tgt := 14) hx hb dX6_end_9 (by decide) (fun c2 => ?_) (fun c2 => ?_)
  · replace h := gi_f h c2
    refine lv_aload_n hx hb dX6_end_14 rfl (lv_at hl 0 rfl) ?_
    refine lv_iload_n hx hb dX6_end_15 rfl (lv_at hl 1 rfl) ?_
    refine g_putI K hW (ci := 5) (k := 10) kLC_0 rfl rfl i_X6 tyX6_ok nmX6 (by decide) q_403 rfl rfl rfl rfl dX6_end_16 (fun H locs hW => ?_)
    obtain ⟨I3, e4, h⟩ := lz_o h
    replace hW := gWd_nI e4 hW
    refine lv_iload_n hx hb dX6_end_19 rfl (lv_at hl 1 rfl) ?_
    obtain ⟨a1, a2⟩ := to2 h
    replace hW := gWd_nI a2 hW
    exact g_nmi a1 (hfin _ _ _ _ hW dX6_end_20)
  · replace h := gi_t h c2
    refine lv_iconst (v := (-1 : Int32)) hx hb dX6_end_12 (by decide) ?_
    obtain ⟨a1, a2⟩ := to2 h
    replace hW := gWd_nI a2 hW
    exact g_nmi a1 (hfin _ _ _ _ hW dX6_end_13)
noncomputable def fX6_fault  (x1 : Int32) (I : gI) : Int32 :=
  gi (x1 = (0 : Int32))
 ((I 0 11))
 (gi (x1 = (1 : Int32))
 ((I 0 12))
 ((-1 : Int32)))
set_option maxHeartbeats 4000000 in
set_option maxRecDepth 100000 in
theorem kX6_fault {l : Launch} {G : gG} {ad : Nat → Nat} (hok : gInj LC ad)    (x1 : Int32) (I : gI) (J : gJ) (r : Int32) (h : fX6_fault x1 I = r) : gMi l yX6_fault cX6_fault 2 (some .int) 1 G LC ad [.ref (ad 0), .int x1] I J r True I J := by
  refine gMi_of (lst := [(0, .ref (ad 0)), (1, .int x1)]) (by decide) hok (Nat.le_of_ble_eq_true rfl) rfl ?_
  intro p e s m args below meth c Q ls K hW hl hfin
  have hx := K.1; have hb := K.2.1; have hown := K.2.2.2.1; have hts := K.2.2.2.2.1
  unfold fX6_fault at h
  refine lv_iload_n hx hb dX6_fault_0 rfl (lv_at hl 1 rfl) ?_
  rcases Classical.em (x1 = (0 : Int32)) with c1 | c1
  · replace h := gi_t h c1
    refine g_lookIn (k := (0 : Int32)) (tgt := 28) (off := 27) hx hb c1 dX6_fault_1 (by decide) (by decide) (by decide) ?_
    refine lv_aload_n hx hb dX6_fault_28 rfl (lv_at hl 0 rfl) ?_
    refine g_get K hW (t := 0) (ci := 5) (k := 11) (v := .int (I 0 11)) kLC_0 rfl rfl i_X6 (by decide) q_404 rfl rfl dX6_fault_29 ?_
    obtain a1 := h.symm
    exact g_nmi a1 (hfin _ _ _ _ hW dX6_fault_32)
  · replace h := gi_f h c1
    rcases Classical.em (x1 = (1 : Int32)) with c2 | c2
    · replace h := gi_t h c2
      refine g_lookIn (k := (1 : Int32)) (tgt := 33) (off := 32) hx hb c2 dX6_fault_1 (by decide) (by decide) (by decide) ?_
      refine lv_aload_n hx hb dX6_fault_33 rfl (lv_at hl 0 rfl) ?_
      refine g_get K hW (t := 0) (ci := 5) (k := 12) (v := .int (I 0 12)) kLC_0 rfl rfl i_X6 (by decide) q_405 rfl rfl dX6_fault_34 ?_
      obtain a1 := h.symm
      exact g_nmi a1 (hfin _ _ _ _ hW dX6_fault_37)
    · replace h := gi_f h c2
      refine lv_lookup (tgt := 38) (off := 37) hx hb dX6_fault_1 (by decide) (by show Op.lookupswitch.offset [(0, 27), (1, 32)] (37) x1.toInt = _; rw [lv_osw c1 (by decide), lv_osw c2 (by decide)]; rfl) (by decide) ?_
      refine lv_iconst (v := (-1 : Int32)) hx hb dX6_fault_38 (by decide) ?_
      obtain a1 := h.symm
      exact g_nmi a1 (hfin _ _ _ _ hW dX6_fault_39)
noncomputable def fX6_isText  (x1 : Int32) (I : gI) : Int32 :=
  gi (x1 < 0)
 ((0 : Int32))
 (gi ((I 1 13) ≤ x1)
 ((0 : Int32))
 ((1 : Int32)))
set_option maxHeartbeats 4000000 in
set_option maxRecDepth 100000 in
theorem kX6_isText {l : Launch} {G : gG} {ad : Nat → Nat} (hok : gInj LC ad)    (x1 : Int32) (I : gI) (J : gJ) (r : Int32) (h : fX6_isText x1 I = r) : gMi l yX6_isText cX6_isText 2 (some .boolean) 1 G LC ad [.ref (ad 0), .int x1] I J r (r = 0 ∨ r = 1) I J := by
  refine gMz_of (lst := [(0, .ref (ad 0)), (1, .int x1)]) (by decide) hok (Nat.le_of_ble_eq_true rfl) rfl ?_
  intro p e s m args below meth c Q ls K hW hl hfin
  have hx := K.1; have hb := K.2.1; have hown := K.2.2.2.1; have hts := K.2.2.2.2.1
  unfold fX6_isText at h
  refine lv_iload_n hx hb dX6_isText_0 rfl (lv_at hl 1 rfl) ?_
  refine lv_if_lt (tgt := 19) hx hb dX6_isText_1 (by decide) (fun c1 => ?_) (fun c1 => ?_)
  · replace h := gi_t h c1
    refine lv_iconst (v := (0 : Int32)) hx hb dX6_isText_19 (by decide) ?_
    obtain a1 := h.symm
    exact g_nmi a1 (hfin _ _ _ _ (a1 ▸ (Or.inl rfl)) hW dX6_isText_20)
  · replace h := gi_f h c1
    refine lv_iload_n hx hb dX6_isText_4 rfl (lv_at hl 1 rfl) ?_
    refine lv_aload_n hx hb dX6_isText_5 rfl (lv_at hl 0 rfl) ?_
    refine g_get K hW (t := 2) (ci := 5) (k := 0) (v := .ref (ad 1)) kLC_0 rfl rfl i_X6 (by decide) q_393 rfl (gfv2 rLC_0_0) dX6_isText_6 ?_
    refine g_get K hW (t := 0) (ci := 0) (k := 13) (v := .int (I 1 13)) kLC_1 rfl rfl i_X0 (by decide) q_241 rfl rfl dX6_isText_9 ?_
    refine lv_icmp_ge (tgt := 19) hx hb dX6_isText_12 (by decide) (fun c2 => ?_) (fun c2 => ?_)
    · replace h := gi_t h c2
      refine lv_iconst (v := (0 : Int32)) hx hb dX6_isText_19 (by decide) ?_
      obtain a1 := h.symm
      exact g_nmi a1 (hfin _ _ _ _ (a1 ▸ (Or.inl rfl)) hW dX6_isText_20)
    · replace h := gi_f h c2
      refine lv_iconst (v := (1 : Int32)) hx hb dX6_isText_15 (by decide) ?_
      refine lv_goto (tgt := 20) hx hb dX6_isText_16 (by decide) ?_
      obtain a1 := h.symm
      exact g_nmi a1 (hfin _ _ _ _ (a1 ▸ (Or.inr rfl)) hW dX6_isText_20)
theorem nm_X6_isText : gNm yX6_isText 1 := by decide +kernel
noncomputable def fX6_by  (x1 : Int32) (I : gI) : Int32 × gI :=
  lz (lz (wI I 1 14 x1) (fun (I4 : gI) => ((1 : Int32), I4))) (fun j1 => gi (x1 = (-1 : Int32))
 (j1)
 (gi ((fX6_isText x1 I) = 0)
 (((0 : Int32), I))
 (j1)))
set_option maxHeartbeats 4000000 in
set_option maxRecDepth 100000 in
theorem kX6_by {l : Launch} {G : gG} {ad : Nat → Nat} (hok : gInj LC ad)    (x1 : Int32) (I : gI) (J : gJ) (r : Int32) (I' : gI) (h : fX6_by x1 I = (r, I')) : gMi l yX6_by cX6_by 2 (some .boolean) 2 G LC ad [.ref (ad 0), .int x1] I J r (r = 0 ∨ r = 1) I' J := by
  refine gMz_of (lst := [(0, .ref (ad 0)), (1, .int x1)]) (by decide) hok (Nat.le_of_ble_eq_true rfl) rfl ?_
  intro p e s m args below meth c Q ls K hW hl hfin
  have hx := K.1; have hb := K.2.1; have hown := K.2.2.2.1; have hts := K.2.2.2.2.1
  unfold fX6_by at h
  refine lv_iload_n hx hb dX6_by_0 rfl (lv_at hl 1 rfl) ?_
  refine lv_iconst (v := (-1 : Int32)) hx hb dX6_by_1 (by decide) ?_
  obtain ⟨j1, e2, h⟩ := lz_o h
  have hj3 : j1 = ((r, I')) → ∀ (H : Heap) (locs : List Loc), gWd G LC ad (gA LC ad) s.heap I J H locs → ∀ (ls : Array Slot), lv_has ls 2 [(0, .ref (ad 0)), (1, .int x1)] → W p l e (gRm 2) s m args below meth c H locs 0 0 Q (F0 m 15 ls []) := by
    intro h H locs hW ls hl
    replace h := jn0 e2 h
    refine lv_aload_n hx hb dX6_by_15 rfl (lv_at hl 0 rfl) ?_
    refine g_get K hW (t := 2) (ci := 5) (k := 0) (v := .ref (ad 1)) kLC_0 rfl rfl i_X6 (by decide) q_393 rfl (gfv2 rLC_0_0) dX6_by_16 ?_
    refine lv_iload_n hx hb dX6_by_19 rfl (lv_at hl 1 rfl) ?_
    refine g_putI K hW (ci := 0) (k := 14) kLC_1 rfl rfl i_X0 tyX0_ok nmX0 (by decide) q_243 rfl rfl rfl rfl dX6_by_20 (fun H locs hW => ?_)
    obtain ⟨I4, e5, h⟩ := lz_o h
    replace hW := gWd_nI e5 hW
    refine lv_iconst (v := (1 : Int32)) hx hb dX6_by_23 (by decide) ?_
    obtain ⟨a1, a2⟩ := to2 h
    replace hW := gWd_nI a2 hW
    exact g_nmi a1 (hfin _ _ _ _ (a1 ▸ (Or.inr rfl)) hW dX6_by_24)
  refine lv_icmp_eq (tgt := 15) hx hb dX6_by_2 (by decide) (fun c6 => ?_) (fun c6 => ?_)
  · replace h := gi_t h c6
    exact hj3 h _ _ hW _ (lv_sub hl [0, 1] rfl)
  · replace h := gi_f h c6
    refine lv_aload_n hx hb dX6_by_5 rfl (lv_at hl 0 rfl) ?_
    refine lv_iload_n hx hb dX6_by_6 rfl (lv_at hl 1 rfl) ?_
    refine g_callVi (rest := []) K hW hl (kX6_isText (l := l) (G := G) (ad := ad) hok x1 I J (fX6_isText x1 I) rfl) kLC_0 rfl (gG_V q_668 q_670 q_23 q_133 q_671) nm_X6_isText ⟨Nat.le_of_ble_eq_true rfl, Nat.le_of_ble_eq_true rfl⟩ rfl rfl (Nat.le_of_ble_eq_true rfl) ⟨Nat.zero_le _, Nat.zero_le _⟩ dX6_by_7 (fun z7 H locs hW => ?_)
    refine lv_if_ne (tgt := 15) hx hb dX6_by_10 (by decide) (fun c8 => ?_) (fun c8 => ?_)
    · replace h := gi_f h c8
      exact hj3 h _ _ hW _ (lv_sub hl [0, 1] rfl)
    · replace h := gi_t h c8
      refine lv_iconst (v := (0 : Int32)) hx hb dX6_by_13 (by decide) ?_
      obtain ⟨a1, a2⟩ := to2 h
      replace hW := gWd_nI a2 hW
      exact g_nmi a1 (hfin _ _ _ _ (a1 ▸ (Or.inl rfl)) hW dX6_by_14)
noncomputable def fX6_held  (x0 : Int32) (x1 : Int32) (x2 : Int32)  : Int32 :=
  gi (x1 ≤ x0)
 (gi (x0 ≤ x2)
 (x0)
 (x2))
 (x1)
set_option maxHeartbeats 4000000 in
set_option maxRecDepth 100000 in
theorem kX6_held {l : Launch} {G : gG} {ad : Nat → Nat} (hok : gInj LC ad)    (x0 : Int32) (x1 : Int32) (x2 : Int32) (I : gI) (J : gJ) (r : Int32) (h : fX6_held x0 x1 x2 = r) : gMi l yX6_held cX6_held 3 (some .int) 1 G LC ad [.int x0, .int x1, .int x2] I J r True I J := by
  refine gMi_of (lst := [(0, .int x0), (1, .int x1), (2, .int x2)]) (by decide) hok (Nat.le_of_ble_eq_true rfl) rfl ?_
  intro p e s m args below meth c Q ls K hW hl hfin
  have hx := K.1; have hb := K.2.1; have hown := K.2.2.2.1; have hts := K.2.2.2.2.1
  unfold fX6_held at h
  refine lv_iload_n hx hb dX6_held_0 rfl (lv_at hl 0 rfl) ?_
  refine lv_iload_n hx hb dX6_held_1 rfl (lv_at hl 1 rfl) ?_
  refine lv_icmp_ge (tgt := 9) hx hb dX6_held_2 (by decide) (fun c1 => ?_) (fun c1 => ?_)
  · replace h := gi_t h c1
    refine lv_iload_n hx hb dX6_held_9 rfl (lv_at hl 0 rfl) ?_
    refine lv_iload_n hx hb dX6_held_10 rfl (lv_at hl 2 rfl) ?_
    refine lv_icmp_le (tgt := 18) hx hb dX6_held_11 (by decide) (fun c2 => ?_) (fun c2 => ?_)
    · replace h := gi_t h c2
      refine lv_iload_n hx hb dX6_held_18 rfl (lv_at hl 0 rfl) ?_
      obtain a1 := h.symm
      exact g_nmi a1 (hfin _ _ _ _ hW dX6_held_19)
    · replace h := gi_f h c2
      refine lv_iload_n hx hb dX6_held_14 rfl (lv_at hl 2 rfl) ?_
      refine lv_goto (tgt := 19) hx hb dX6_held_15 (by decide) ?_
      obtain a1 := h.symm
      exact g_nmi a1 (hfin _ _ _ _ hW dX6_held_19)
  · replace h := gi_f h c1
    refine lv_iload_n hx hb dX6_held_5 rfl (lv_at hl 1 rfl) ?_
    refine lv_goto (tgt := 19) hx hb dX6_held_6 (by decide) ?_
    obtain a1 := h.symm
    exact g_nmi a1 (hfin _ _ _ _ hW dX6_held_19)
theorem kLC_273 : gAt LC 273 6 4 := ⟨by decide, by decide +kernel⟩
theorem rLC_0_2 : LC.2.2 0 2 = some 273 := by decide +kernel
theorem nm_X3_rules : gNm yX3_rules 1 := by decide +kernel
theorem rLC_0_5 : LC.2.2 0 5 = some 287 := by decide +kernel
theorem nm_X2_worked : gNm yX2_worked 6 := by decide +kernel
theorem nm_X6_held : gNm yX6_held 3 := by decide +kernel
noncomputable def fX6_bidsBy  (x1 : Int32) (x2 : Int32) (x3 : Int32) (I : gI) : Option (Int32 × gI) :=
  lz (gd (vp_in x3 5) (bd (fX0_longOf x2 I) (fun (u6 : Int32) => some ((((I 3 (x3).toNatClampNeg) * u6) / (12 : Int32)), I)))) (fun j2 => gi ((fX6_isText x1 I) = 0)
 (j2)
 (gd (vp_in x1 4) (bd (fX3_rules (296 + 8 * (x1).toNatClampNeg) (0 : Int32) I) (fun (u11 : Int32) => gi (u11 = 0)
 (j2)
 (bd (fX2_worked (296 + 8 * (x1).toNatClampNeg) 11 (0 : Int32) x2 x3 I) (pr (fun (u15 : Int32) (I16 : gI) => some ((fX6_held u15 (0 : Int32) (99 : Int32)), I16))))))))
set_option maxHeartbeats 4000000 in
set_option maxRecDepth 100000 in
theorem kX6_bidsBy {l : Launch} {G : gG} {ad : Nat → Nat} (hok : gInj LC ad)    (x1 : Int32) (x2 : Int32) (x3 : Int32) (I : gI) (J : gJ) (r : Int32) (I' : gI) (h : fX6_bidsBy x1 x2 x3 I = some (r, I')) : gMi l yX6_bidsBy cX6_bidsBy 4 (some .int) 4 G LC ad [.ref (ad 0), .int x1, .int x2, .int x3] I J r True I' J := by
  refine gMi_of (lst := [(0, .ref (ad 0)), (1, .int x1), (2, .int x2), (3, .int x3)]) (by decide) hok (Nat.le_of_ble_eq_true rfl) rfl ?_
  intro p e s m args below meth c Q ls K hW hl hfin
  have hn : (some (r, I') : Option (Int32 × gI)) ≠ none := Option.some_ne_none _
  have hx := K.1; have hb := K.2.1; have hown := K.2.2.2.1; have hts := K.2.2.2.2.1
  unfold fX6_bidsBy at h
  refine lv_aload_n hx hb dX6_bidsBy_0 rfl (lv_at hl 0 rfl) ?_
  refine lv_iload_n hx hb dX6_bidsBy_1 rfl (lv_at hl 1 rfl) ?_
  refine g_callVi (rest := []) K hW hl (kX6_isText (l := l) (G := G) (ad := ad) hok x1 I J (fX6_isText x1 I) rfl) kLC_0 rfl (gG_V q_668 q_670 q_23 q_133 q_671) nm_X6_isText ⟨Nat.le_of_ble_eq_true rfl, Nat.le_of_ble_eq_true rfl⟩ rfl rfl (Nat.le_of_ble_eq_true rfl) ⟨Nat.zero_le _, Nat.zero_le _⟩ dX6_bidsBy_2 (fun z1 H locs hW => ?_)
  obtain ⟨j2, e3, h⟩ := lz_o h
  have hj4 : j2 = (some (r, I')) → ∀ (H : Heap) (locs : List Loc), gWd G LC ad (gA LC ad) s.heap I J H locs → ∀ (ls : Array Slot), lv_has ls 4 [(0, .ref (ad 0)), (2, .int x2), (3, .int x3)] → W p l e (gRm 4) s m args below meth c H locs 0 0 Q (F0 m 21 ls []) := by
    intro h H locs hW ls hl
    replace h := jn0 e3 h
    refine lv_aload_n hx hb dX6_bidsBy_21 rfl (lv_at hl 0 rfl) ?_
    refine g_get K hW (t := 2) (ci := 5) (k := 0) (v := .ref (ad 1)) kLC_0 rfl rfl i_X6 (by decide) q_393 rfl (gfv2 rLC_0_0) dX6_bidsBy_22 ?_
    refine g_get K hW (t := 2) (ci := 0) (k := 1) (v := .ref (ad 3)) kLC_1 rfl rfl i_X0 (by decide) q_214 rfl (gfv2 rLC_1_1) dX6_bidsBy_25 ?_
    refine lv_iload_n hx hb dX6_bidsBy_28 rfl (lv_at hl 2 rfl) ?_
    obtain ⟨g5, h⟩ := gd_o h hn
    refine g_iald K hW kLC_3 g5 rfl dX6_bidsBy_29 ?_
    refine lv_aload_n hx hb dX6_bidsBy_30 rfl (lv_at hl 0 rfl) ?_
    refine g_get K hW (t := 2) (ci := 5) (k := 0) (v := .ref (ad 1)) kLC_0 rfl rfl i_X6 (by decide) q_393 rfl (gfv2 rLC_0_0) dX6_bidsBy_31 ?_
    refine lv_iload_n hx hb dX6_bidsBy_34 rfl (lv_at hl 1 rfl) ?_
    obtain ⟨u6, e7, h⟩ := bd_o h hn
    refine g_callVi (rest := [.int (I 3 (x3).toNatClampNeg)]) K hW hl (kX0_longOf (l := l) (G := G) (ad := ad) hok x2 I J u6 e7) kLC_1 rfl (gG_V q_693 q_694 q_695 q_134 q_696) nm_X0_longOf ⟨Nat.le_of_ble_eq_true rfl, Nat.le_of_ble_eq_true rfl⟩ rfl rfl (Nat.le_of_ble_eq_true rfl) ⟨Nat.zero_le _, Nat.zero_le _⟩ dX6_bidsBy_35 (fun z8 H locs hW => ?_)
    refine lv_imul hx hb dX6_bidsBy_38 ?_
    refine lv_bipush (v := (12 : Int32)) hx hb dX6_bidsBy_39 (by decide) ?_
    refine lv_idiv hx hb dX6_bidsBy_41 (by decide) ?_
    obtain ⟨a1, a2⟩ := so2 h
    replace hW := gWd_nI a2 hW
    exact g_nmi a1 (hfin _ _ _ _ hW dX6_bidsBy_42)
  refine lv_if_eq (tgt := 21) hx hb dX6_bidsBy_5 (by decide) (fun c9 => ?_) (fun c9 => ?_)
  · replace h := gi_t h c9
    exact hj4 h _ _ hW _ (lv_sub hl [0, 2, 3] rfl)
  · replace h := gi_f h c9
    refine lv_aload_n hx hb dX6_bidsBy_8 rfl (lv_at hl 0 rfl) ?_
    refine g_get K hW (t := 2) (ci := 5) (k := 2) (v := .ref (ad 273)) kLC_0 rfl rfl i_X6 (by decide) q_395 rfl (gfv2 rLC_0_2) dX6_bidsBy_9 ?_
    refine lv_iload_n hx hb dX6_bidsBy_12 rfl (lv_at hl 1 rfl) ?_
    obtain ⟨g10, h⟩ := gd_o h hn
    refine g_aald6 K hW kLC_273 g10 (rTa _) dX6_bidsBy_13 ?_
    refine lv_iconst (v := (0 : Int32)) hx hb dX6_bidsBy_14 (by decide) ?_
    obtain ⟨u11, e12, h⟩ := bd_o h hn
    refine g_callVi (rest := []) K hW hl (kX3_rules (l := l) (G := G) (ad := ad) hok (296 + 8 * (x1).toNatClampNeg) (kTa g10) (0 : Int32) I J u11 e12) (kTa g10) rfl (gG_V q_692 q_580 q_581 q_137 q_582) nm_X3_rules ⟨Nat.le_of_ble_eq_true rfl, Nat.le_of_ble_eq_true rfl⟩ rfl rfl (Nat.le_of_ble_eq_true rfl) ⟨Nat.zero_le _, Nat.zero_le _⟩ dX6_bidsBy_15 (fun z13 H locs hW => ?_)
    refine lv_if_ne (tgt := 43) hx hb dX6_bidsBy_18 (by decide) (fun c14 => ?_) (fun c14 => ?_)
    · replace h := gi_f h c14
      refine lv_aload_n hx hb dX6_bidsBy_43 rfl (lv_at hl 0 rfl) ?_
      refine g_get K hW (t := 2) (ci := 5) (k := 5) (v := .ref (ad 287)) kLC_0 rfl rfl i_X6 (by decide) q_398 rfl (gfv2 rLC_0_5) dX6_bidsBy_44 ?_
      refine lv_aload_n hx hb dX6_bidsBy_47 rfl (lv_at hl 0 rfl) ?_
      refine g_get K hW (t := 2) (ci := 5) (k := 2) (v := .ref (ad 273)) kLC_0 rfl rfl i_X6 (by decide) q_395 rfl (gfv2 rLC_0_2) dX6_bidsBy_48 ?_
      refine lv_iload_n hx hb dX6_bidsBy_51 rfl (lv_at hl 1 rfl) ?_
      refine g_aald6 K hW kLC_273 g10 (rTa _) dX6_bidsBy_52 ?_
      refine lv_iconst (v := (0 : Int32)) hx hb dX6_bidsBy_53 (by decide) ?_
      refine lv_aload_n hx hb dX6_bidsBy_54 rfl (lv_at hl 0 rfl) ?_
      refine g_get K hW (t := 2) (ci := 5) (k := 0) (v := .ref (ad 1)) kLC_0 rfl rfl i_X6 (by decide) q_393 rfl (gfv2 rLC_0_0) dX6_bidsBy_55 ?_
      refine lv_aload_n hx hb dX6_bidsBy_58 rfl (lv_at hl 0 rfl) ?_
      refine g_get K hW (t := 2) (ci := 5) (k := 0) (v := .ref (ad 1)) kLC_0 rfl rfl i_X6 (by decide) q_393 rfl (gfv2 rLC_0_0) dX6_bidsBy_59 ?_
      refine g_get K hW (t := 2) (ci := 0) (k := 9) (v := .ref (ad 11)) kLC_1 rfl rfl i_X0 (by decide) q_232 rfl (gfv2 rLC_1_9) dX6_bidsBy_62 ?_
      refine lv_iload_n hx hb dX6_bidsBy_65 rfl (lv_at hl 2 rfl) ?_
      refine lv_iload_n hx hb dX6_bidsBy_66 rfl (lv_at hl 3 rfl) ?_
      obtain ⟨⟨u15, I16⟩, e17, h⟩ := bd_o h hn
      replace h := pr_o h
      refine g_callVi (rest := []) K hW hl (kX2_worked (l := l) (G := G) (ad := ad) hok (296 + 8 * (x1).toNatClampNeg) 11 (kTa g10) kLC_11 (0 : Int32) x2 x3 I J u15 I16 e17) kLC_287 rfl (gG_V q_697 q_698 q_699 q_138 q_700) nm_X2_worked ⟨Nat.le_of_ble_eq_true rfl, Nat.le_of_ble_eq_true rfl⟩ rfl rfl (Nat.le_of_ble_eq_true rfl) ⟨Nat.zero_le _, Nat.zero_le _⟩ dX6_bidsBy_67 (fun z18 H locs hW => ?_)
      refine lv_iconst (v := (0 : Int32)) hx hb dX6_bidsBy_70 (by decide) ?_
      refine lv_bipush (v := (99 : Int32)) hx hb dX6_bidsBy_71 (by decide) ?_
      refine g_callSi (rest := []) K hW hl (kX6_held (l := l) (G := G) (ad := ad) hok u15 (0 : Int32) (99 : Int32) I16 J (fX6_held u15 (0 : Int32) (99 : Int32)) rfl) q_728 q_729 q_133 q_730 nm_X6_held ⟨Nat.le_of_ble_eq_true rfl, Nat.le_of_ble_eq_true rfl⟩ rfl rfl (Nat.le_of_ble_eq_true rfl) ⟨Nat.zero_le _, Nat.zero_le _⟩ dX6_bidsBy_73 (fun z19 H locs hW => ?_)
      obtain ⟨a1, a2⟩ := so2 h
      replace hW := gWd_nI a2 hW
      exact g_nmi a1 (hfin _ _ _ _ hW dX6_bidsBy_76)
    · replace h := gi_t h c14
      exact hj4 h _ _ hW _ (lv_sub hl [0, 2, 3] rfl)
noncomputable def fX6_wantsSort  (x1 : Int32) (x2 : Int32) (I : gI) : Option (Int32) :=
  gd (vp_in x1 6) (gi (((jshr (I 4 (x1).toNatClampNeg) x2) &&& (1 : Int32)) = (1 : Int32))
 (some (1 : Int32))
 (some (0 : Int32)))
set_option maxHeartbeats 4000000 in
set_option maxRecDepth 100000 in
theorem kX6_wantsSort {l : Launch} {G : gG} {ad : Nat → Nat} (hok : gInj LC ad)    (x1 : Int32) (x2 : Int32) (I : gI) (J : gJ) (r : Int32) (h : fX6_wantsSort x1 x2 I = some r) : gMi l yX6_wantsSort cX6_wantsSort 3 (some .boolean) 1 G LC ad [.ref (ad 0), .int x1, .int x2] I J r (r = 0 ∨ r = 1) I J := by
  refine gMz_of (lst := [(0, .ref (ad 0)), (1, .int x1), (2, .int x2)]) (by decide) hok (Nat.le_of_ble_eq_true rfl) rfl ?_
  intro p e s m args below meth c Q ls K hW hl hfin
  have hn : (some r : Option (Int32)) ≠ none := Option.some_ne_none _
  have hx := K.1; have hb := K.2.1; have hown := K.2.2.2.1; have hts := K.2.2.2.2.1
  unfold fX6_wantsSort at h
  refine lv_aload_n hx hb dX6_wantsSort_0 rfl (lv_at hl 0 rfl) ?_
  refine g_get K hW (t := 2) (ci := 5) (k := 0) (v := .ref (ad 1)) kLC_0 rfl rfl i_X6 (by decide) q_393 rfl (gfv2 rLC_0_0) dX6_wantsSort_1 ?_
  refine g_get K hW (t := 2) (ci := 0) (k := 2) (v := .ref (ad 4)) kLC_1 rfl rfl i_X0 (by decide) q_217 rfl (gfv2 rLC_1_2) dX6_wantsSort_4 ?_
  refine lv_iload_n hx hb dX6_wantsSort_7 rfl (lv_at hl 1 rfl) ?_
  obtain ⟨g1, h⟩ := gd_o h hn
  refine g_iald K hW kLC_4 g1 rfl dX6_wantsSort_8 ?_
  refine lv_iload_n hx hb dX6_wantsSort_9 rfl (lv_at hl 2 rfl) ?_
  refine g_ishr hx hb dX6_wantsSort_10 ?_
  refine lv_iconst (v := (1 : Int32)) hx hb dX6_wantsSort_11 (by decide) ?_
  refine lv_iand hx hb dX6_wantsSort_12 ?_
  refine lv_iconst (v := (1 : Int32)) hx hb dX6_wantsSort_13 (by decide) ?_
  refine lv_icmp_ne (tgt := 21) hx hb dX6_wantsSort_14 (by decide) (fun c2 => ?_) (fun c2 => ?_)
  · replace h := gi_f h c2
    refine lv_iconst (v := (0 : Int32)) hx hb dX6_wantsSort_21 (by decide) ?_
    obtain a1 := so1 h
    exact g_nmi a1 (hfin _ _ _ _ (a1 ▸ (Or.inl rfl)) hW dX6_wantsSort_22)
  · replace h := gi_t h c2
    refine lv_iconst (v := (1 : Int32)) hx hb dX6_wantsSort_17 (by decide) ?_
    refine lv_goto (tgt := 22) hx hb dX6_wantsSort_18 (by decide) ?_
    obtain a1 := so1 h
    exact g_nmi a1 (hfin _ _ _ _ (a1 ▸ (Or.inr rfl)) hW dX6_wantsSort_22)
theorem nm_X6_wantsSort : gNm yX6_wantsSort 2 := by decide +kernel
theorem nm_X0_slicesOf : gNm yX0_slicesOf 1 := by decide +kernel
theorem nm_X6_bidsBy : gNm yX6_bidsBy 3 := by decide +kernel
noncomputable def fX6_priceFor  (x1 : Int32) (I : gI) : Option (Int32 × gI) :=
  gi ((fX6_isBuyer x1 I) = 0)
 (some ((-1 : Int32), I))
 (bd (fX6_wantsSort x1 (I 11 5) I) (fun (u3 : Int32) => gi (u3 = 0)
 (some ((-1 : Int32), I))
 (bd (fX0_slicesOf x1 I) (fun (u7 : Int32) => gi ((u7 &&& ((I 11 4) ^^^ (-1 : Int32))) = 0)
 (bd (fX6_bidsBy (I 1 14) x1 (I 11 5) I) (pr (fun (u11 : Int32) (I12 : gI) => gd (vp_in x1 6) (gi ((I12 12 (x1).toNatClampNeg) < u11)
 (some ((-1 : Int32), I12))
 (some (u11, I12))))))
 (some ((-1 : Int32), I))))))
set_option maxHeartbeats 4000000 in
set_option maxRecDepth 100000 in
theorem kX6_priceFor {l : Launch} {G : gG} {ad : Nat → Nat} (hok : gInj LC ad)    (x1 : Int32) (I : gI) (J : gJ) (r : Int32) (I' : gI) (h : fX6_priceFor x1 I = some (r, I')) : gMi l yX6_priceFor cX6_priceFor 3 (some .int) 5 G LC ad [.ref (ad 0), .int x1] I J r True I' J := by
  refine gMi_of (lst := [(0, .ref (ad 0)), (1, .int x1)]) (by decide) hok (Nat.le_of_ble_eq_true rfl) rfl ?_
  intro p e s m args below meth c Q ls K hW hl hfin
  have hn : (some (r, I') : Option (Int32 × gI)) ≠ none := Option.some_ne_none _
  have hx := K.1; have hb := K.2.1; have hown := K.2.2.2.1; have hts := K.2.2.2.2.1
  unfold fX6_priceFor at h
  refine lv_aload_n hx hb dX6_priceFor_0 rfl (lv_at hl 0 rfl) ?_
  refine lv_iload_n hx hb dX6_priceFor_1 rfl (lv_at hl 1 rfl) ?_
  refine g_callVi (rest := []) K hW hl (kX6_isBuyer (l := l) (G := G) (ad := ad) hok x1 I J (fX6_isBuyer x1 I) rfl) kLC_0 rfl (gG_V q_461 q_463 q_0 q_133 q_464) nm_X6_isBuyer ⟨Nat.le_of_ble_eq_true rfl, Nat.le_of_ble_eq_true rfl⟩ rfl rfl (Nat.le_of_ble_eq_true rfl) ⟨Nat.zero_le _, Nat.zero_le _⟩ dX6_priceFor_2 (fun z1 H locs hW => ?_)
  refine lv_if_eq (tgt := 26) hx hb dX6_priceFor_5 (by decide) (fun c2 => ?_) (fun c2 => ?_)
  · replace h := gi_t h c2
    refine lv_iconst (v := (-1 : Int32)) hx hb dX6_priceFor_26 (by decide) ?_
    obtain ⟨a1, a2⟩ := so2 h
    replace hW := gWd_nI a2 hW
    exact g_nmi a1 (hfin _ _ _ _ hW dX6_priceFor_27)
  · replace h := gi_f h c2
    refine lv_aload_n hx hb dX6_priceFor_8 rfl (lv_at hl 0 rfl) ?_
    refine lv_iload_n hx hb dX6_priceFor_9 rfl (lv_at hl 1 rfl) ?_
    refine lv_aload_n hx hb dX6_priceFor_10 rfl (lv_at hl 0 rfl) ?_
    refine g_get K hW (t := 2) (ci := 5) (k := 0) (v := .ref (ad 1)) kLC_0 rfl rfl i_X6 (by decide) q_393 rfl (gfv2 rLC_0_0) dX6_priceFor_11 ?_
    refine g_get K hW (t := 2) (ci := 0) (k := 9) (v := .ref (ad 11)) kLC_1 rfl rfl i_X0 (by decide) q_232 rfl (gfv2 rLC_1_9) dX6_priceFor_14 ?_
    refine g_get K hW (t := 0) (ci := 4) (k := 5) (v := .int (I 11 5)) kLC_11 rfl rfl i_X5 (by decide) q_182 rfl rfl dX6_priceFor_17 ?_
    obtain ⟨u3, e4, h⟩ := bd_o h hn
    refine g_callVi (rest := []) K hW hl (kX6_wantsSort (l := l) (G := G) (ad := ad) hok x1 (I 11 5) I J u3 e4) kLC_0 rfl (gG_V q_680 q_682 q_25 q_133 q_683) nm_X6_wantsSort ⟨Nat.le_of_ble_eq_true rfl, Nat.le_of_ble_eq_true rfl⟩ rfl rfl (Nat.le_of_ble_eq_true rfl) ⟨Nat.zero_le _, Nat.zero_le _⟩ dX6_priceFor_20 (fun z5 H locs hW => ?_)
    refine lv_if_ne (tgt := 28) hx hb dX6_priceFor_23 (by decide) (fun c6 => ?_) (fun c6 => ?_)
    · replace h := gi_f h c6
      refine lv_aload_n hx hb dX6_priceFor_28 rfl (lv_at hl 0 rfl) ?_
      refine g_get K hW (t := 2) (ci := 5) (k := 0) (v := .ref (ad 1)) kLC_0 rfl rfl i_X6 (by decide) q_393 rfl (gfv2 rLC_0_0) dX6_priceFor_29 ?_
      refine lv_iload_n hx hb dX6_priceFor_32 rfl (lv_at hl 1 rfl) ?_
      obtain ⟨u7, e8, h⟩ := bd_o h hn
      refine g_callVi (rest := []) K hW hl (kX0_slicesOf (l := l) (G := G) (ad := ad) hok x1 I J u7 e8) kLC_1 rfl (gG_V q_684 q_685 q_686 q_134 q_687) nm_X0_slicesOf ⟨Nat.le_of_ble_eq_true rfl, Nat.le_of_ble_eq_true rfl⟩ rfl rfl (Nat.le_of_ble_eq_true rfl) ⟨Nat.zero_le _, Nat.zero_le _⟩ dX6_priceFor_33 (fun z9 H locs hW => ?_)
      refine lv_aload_n hx hb dX6_priceFor_36 rfl (lv_at hl 0 rfl) ?_
      refine g_get K hW (t := 2) (ci := 5) (k := 0) (v := .ref (ad 1)) kLC_0 rfl rfl i_X6 (by decide) q_393 rfl (gfv2 rLC_0_0) dX6_priceFor_37 ?_
      refine g_get K hW (t := 2) (ci := 0) (k := 9) (v := .ref (ad 11)) kLC_1 rfl rfl i_X0 (by decide) q_232 rfl (gfv2 rLC_1_9) dX6_priceFor_40 ?_
      refine g_get K hW (t := 0) (ci := 4) (k := 4) (v := .int (I 11 4)) kLC_11 rfl rfl i_X5 (by decide) q_180 rfl rfl dX6_priceFor_43 ?_
      refine lv_iconst (v := (-1 : Int32)) hx hb dX6_priceFor_46 (by decide) ?_
      refine lv_ixor hx hb dX6_priceFor_47 ?_
      refine lv_iand hx hb dX6_priceFor_48 ?_
      refine lv_if_eq (tgt := 54) hx hb dX6_priceFor_49 (by decide) (fun c10 => ?_) (fun c10 => ?_)
      · replace h := gi_t h c10
        refine lv_aload_n hx hb dX6_priceFor_54 rfl (lv_at hl 0 rfl) ?_
        refine lv_aload_n hx hb dX6_priceFor_55 rfl (lv_at hl 0 rfl) ?_
        refine g_get K hW (t := 2) (ci := 5) (k := 0) (v := .ref (ad 1)) kLC_0 rfl rfl i_X6 (by decide) q_393 rfl (gfv2 rLC_0_0) dX6_priceFor_56 ?_
        refine g_get K hW (t := 0) (ci := 0) (k := 14) (v := .int (I 1 14)) kLC_1 rfl rfl i_X0 (by decide) q_243 rfl rfl dX6_priceFor_59 ?_
        refine lv_iload_n hx hb dX6_priceFor_62 rfl (lv_at hl 1 rfl) ?_
        refine lv_aload_n hx hb dX6_priceFor_63 rfl (lv_at hl 0 rfl) ?_
        refine g_get K hW (t := 2) (ci := 5) (k := 0) (v := .ref (ad 1)) kLC_0 rfl rfl i_X6 (by decide) q_393 rfl (gfv2 rLC_0_0) dX6_priceFor_64 ?_
        refine g_get K hW (t := 2) (ci := 0) (k := 9) (v := .ref (ad 11)) kLC_1 rfl rfl i_X0 (by decide) q_232 rfl (gfv2 rLC_1_9) dX6_priceFor_67 ?_
        refine g_get K hW (t := 0) (ci := 4) (k := 5) (v := .int (I 11 5)) kLC_11 rfl rfl i_X5 (by decide) q_182 rfl rfl dX6_priceFor_70 ?_
        obtain ⟨⟨u11, I12⟩, e13, h⟩ := bd_o h hn
        replace h := pr_o h
        refine g_callVi (rest := []) K hW hl (kX6_bidsBy (l := l) (G := G) (ad := ad) hok (I 1 14) x1 (I 11 5) I J u11 I12 e13) kLC_0 rfl (gG_V q_688 q_690 q_26 q_133 q_691) nm_X6_bidsBy ⟨Nat.le_of_ble_eq_true rfl, Nat.le_of_ble_eq_true rfl⟩ rfl rfl (Nat.le_of_ble_eq_true rfl) ⟨Nat.zero_le _, Nat.zero_le _⟩ dX6_priceFor_73 (fun z14 H locs hW => ?_)
        refine lv_istore_n (lv' := [(2, .int u11), (0, .ref (ad 0)), (1, .int x1)]) hx hb dX6_priceFor_76 rfl hl (by decide) rfl (fun ls hl => ?_)
        refine lv_aload_n hx hb dX6_priceFor_77 rfl (lv_at hl 1 rfl) ?_
        refine g_get K hW (t := 2) (ci := 5) (k := 0) (v := .ref (ad 1)) kLC_0 rfl rfl i_X6 (by decide) q_393 rfl (gfv2 rLC_0_0) dX6_priceFor_78 ?_
        refine g_get K hW (t := 2) (ci := 0) (k := 9) (v := .ref (ad 11)) kLC_1 rfl rfl i_X0 (by decide) q_232 rfl (gfv2 rLC_1_9) dX6_priceFor_81 ?_
        refine g_get K hW (t := 2) (ci := 4) (k := 0) (v := .ref (ad 12)) kLC_11 rfl rfl i_X5 (by decide) q_169 rfl (gfv2 rLC_11_0) dX6_priceFor_84 ?_
        refine lv_iload_n hx hb dX6_priceFor_87 rfl (lv_at hl 2 rfl) ?_
        obtain ⟨g15, h⟩ := gd_o h hn
        refine g_iald K hW kLC_12 g15 rfl dX6_priceFor_88 ?_
        refine lv_iload_n hx hb dX6_priceFor_89 rfl (lv_at hl 0 rfl) ?_
        refine lv_icmp_lt (tgt := 97) hx hb dX6_priceFor_90 (by decide) (fun c16 => ?_) (fun c16 => ?_)
        · replace h := gi_t h c16
          refine lv_iconst (v := (-1 : Int32)) hx hb dX6_priceFor_97 (by decide) ?_
          obtain ⟨a1, a2⟩ := so2 h
          replace hW := gWd_nI a2 hW
          exact g_nmi a1 (hfin _ _ _ _ hW dX6_priceFor_98)
        · replace h := gi_f h c16
          refine lv_iload_n hx hb dX6_priceFor_93 rfl (lv_at hl 0 rfl) ?_
          refine lv_goto (tgt := 98) hx hb dX6_priceFor_94 (by decide) ?_
          obtain ⟨a1, a2⟩ := so2 h
          replace hW := gWd_nI a2 hW
          exact g_nmi a1 (hfin _ _ _ _ hW dX6_priceFor_98)
      · replace h := gi_f h c10
        refine lv_iconst (v := (-1 : Int32)) hx hb dX6_priceFor_52 (by decide) ?_
        obtain ⟨a1, a2⟩ := so2 h
        replace hW := gWd_nI a2 hW
        exact g_nmi a1 (hfin _ _ _ _ hW dX6_priceFor_53)
    · replace h := gi_t h c6
      refine lv_iconst (v := (-1 : Int32)) hx hb dX6_priceFor_26 (by decide) ?_
      obtain ⟨a1, a2⟩ := so2 h
      replace hW := gWd_nI a2 hW
      exact g_nmi a1 (hfin _ _ _ _ hW dX6_priceFor_27)
theorem kLC_15 : gAt LC 15 5 30 := ⟨by decide, by decide +kernel⟩
theorem rLC_1_10 : LC.2.2 1 10 = some 15 := by decide +kernel
theorem kLC_16 : gAt LC 16 1 30 := ⟨by decide, by decide +kernel⟩
theorem rLC_1_11 : LC.2.2 1 11 = some 16 := by decide +kernel
noncomputable def fX6_remember   (I : gI) : Option (gI) :=
  lz ((jrem ((I 1 18) + (I 1 19)) (30 : Int32))) (fun (u1 : Int32) => gd (vp_in u1 30) (lz (fX5_become (15 + 2 + 4 * (u1).toNatClampNeg) 11 I) (fun (I4 : gI) => lz (wI I4 16 (u1).toNatClampNeg (I4 1 12)) (fun (I8 : gI) => gi ((30 : Int32) ≤ (I8 1 19))
 (lz (wI I8 1 18 (jrem ((I8 1 18) + (1 : Int32)) (30 : Int32))) (fun (I10 : gI) => some I10))
 (lz (wI I8 1 19 ((I8 1 19) + (1 : Int32))) (fun (I12 : gI) => some I12))))))
set_option maxHeartbeats 4000000 in
set_option maxRecDepth 100000 in
theorem kX6_remember {l : Launch} {G : gG} {ad : Nat → Nat} (hok : gInj LC ad)     (I : gI) (J : gJ) (I' : gI) (h : fX6_remember I = some I') : gMv l yX6_remember cX6_remember 2 none 2 G LC ad [.ref (ad 0)] I J I' J := by
  refine gMv_of (lst := [(0, .ref (ad 0))]) (by decide) hok (Nat.le_of_ble_eq_true rfl) rfl ?_
  intro p e s m args below meth c Q ls K hW hl hfin
  have hn : (some I' : Option (gI)) ≠ none := Option.some_ne_none _
  have hx := K.1; have hb := K.2.1; have hown := K.2.2.2.1; have hts := K.2.2.2.2.1
  unfold fX6_remember at h
  refine lv_aload_n hx hb dX6_remember_0 rfl (lv_at hl 0 rfl) ?_
  refine g_get K hW (t := 2) (ci := 5) (k := 0) (v := .ref (ad 1)) kLC_0 rfl rfl i_X6 (by decide) q_393 rfl (gfv2 rLC_0_0) dX6_remember_1 ?_
  refine g_get K hW (t := 0) (ci := 0) (k := 18) (v := .int (I 1 18)) kLC_1 rfl rfl i_X0 (by decide) q_251 rfl rfl dX6_remember_4 ?_
  refine lv_aload_n hx hb dX6_remember_7 rfl (lv_at hl 0 rfl) ?_
  refine g_get K hW (t := 2) (ci := 5) (k := 0) (v := .ref (ad 1)) kLC_0 rfl rfl i_X6 (by decide) q_393 rfl (gfv2 rLC_0_0) dX6_remember_8 ?_
  refine g_get K hW (t := 0) (ci := 0) (k := 19) (v := .int (I 1 19)) kLC_1 rfl rfl i_X0 (by decide) q_253 rfl rfl dX6_remember_11 ?_
  refine lv_iadd hx hb dX6_remember_14 ?_
  refine lv_bipush (v := (30 : Int32)) hx hb dX6_remember_15 (by decide) ?_
  refine g_irem hx hb dX6_remember_17 (by decide) ?_
  obtain ⟨u1, e2, h⟩ := lz_o h
  refine g_nmi e2 ?_
  refine lv_istore_n (lv' := [(1, .int u1), (0, .ref (ad 0))]) hx hb dX6_remember_18 rfl hl (by decide) rfl (fun ls hl => ?_)
  refine lv_aload_n hx hb dX6_remember_19 rfl (lv_at hl 1 rfl) ?_
  refine g_get K hW (t := 2) (ci := 5) (k := 0) (v := .ref (ad 1)) kLC_0 rfl rfl i_X6 (by decide) q_393 rfl (gfv2 rLC_0_0) dX6_remember_20 ?_
  refine g_get K hW (t := 2) (ci := 0) (k := 10) (v := .ref (ad 15)) kLC_1 rfl rfl i_X0 (by decide) q_234 rfl (gfv2 rLC_1_10) dX6_remember_23 ?_
  refine lv_iload_n hx hb dX6_remember_26 rfl (lv_at hl 0 rfl) ?_
  obtain ⟨g3, h⟩ := gd_o h hn
  refine g_aald5 K hW kLC_15 g3 (rWa kLC_15 g3) dX6_remember_27 ?_
  refine lv_aload_n hx hb dX6_remember_28 rfl (lv_at hl 1 rfl) ?_
  refine g_get K hW (t := 2) (ci := 5) (k := 0) (v := .ref (ad 1)) kLC_0 rfl rfl i_X6 (by decide) q_393 rfl (gfv2 rLC_0_0) dX6_remember_29 ?_
  refine g_get K hW (t := 2) (ci := 0) (k := 9) (v := .ref (ad 11)) kLC_1 rfl rfl i_X0 (by decide) q_232 rfl (gfv2 rLC_1_9) dX6_remember_32 ?_
  obtain ⟨I4, e5, h⟩ := lz_o h
  refine g_callVv (rest := []) K hW hl (kX5_become (l := l) (G := G) (ad := ad) hok (15 + 2 + 4 * (u1).toNatClampNeg) 11 (kWa kLC_15 g3) kLC_11 I J I4 e5.symm) (kWa kLC_15 g3) rfl (gG_V q_735 q_736 q_737 q_135 q_738) nm_X5_become ⟨Nat.le_of_ble_eq_true rfl, Nat.le_of_ble_eq_true rfl⟩ rfl rfl (Nat.le_of_ble_eq_true rfl) ⟨Nat.zero_le _, Nat.zero_le _⟩ dX6_remember_35 (fun H locs hW => ?_)
  refine lv_aload_n hx hb dX6_remember_38 rfl (lv_at hl 1 rfl) ?_
  refine g_get K hW (t := 2) (ci := 5) (k := 0) (v := .ref (ad 1)) kLC_0 rfl rfl i_X6 (by decide) q_393 rfl (gfv2 rLC_0_0) dX6_remember_39 ?_
  refine g_get K hW (t := 2) (ci := 0) (k := 11) (v := .ref (ad 16)) kLC_1 rfl rfl i_X0 (by decide) q_236 rfl (gfv2 rLC_1_11) dX6_remember_42 ?_
  refine lv_iload_n hx hb dX6_remember_45 rfl (lv_at hl 0 rfl) ?_
  refine lv_aload_n hx hb dX6_remember_46 rfl (lv_at hl 1 rfl) ?_
  refine g_get K hW (t := 2) (ci := 5) (k := 0) (v := .ref (ad 1)) kLC_0 rfl rfl i_X6 (by decide) q_393 rfl (gfv2 rLC_0_0) dX6_remember_47 ?_
  refine g_get K hW (t := 0) (ci := 0) (k := 12) (v := .int (I4 1 12)) kLC_1 rfl rfl i_X0 (by decide) q_238 rfl rfl dX6_remember_50 ?_
  refine g_iast K hW kLC_16 g3 rfl dX6_remember_53 (fun H locs hW => ?_)
  obtain ⟨I8, e7, h⟩ := lz_o h
  replace hW := gWd_nI e7 hW
  refine lv_aload_n hx hb dX6_remember_54 rfl (lv_at hl 1 rfl) ?_
  refine g_get K hW (t := 2) (ci := 5) (k := 0) (v := .ref (ad 1)) kLC_0 rfl rfl i_X6 (by decide) q_393 rfl (gfv2 rLC_0_0) dX6_remember_55 ?_
  refine g_get K hW (t := 0) (ci := 0) (k := 19) (v := .int (I8 1 19)) kLC_1 rfl rfl i_X0 (by decide) q_253 rfl rfl dX6_remember_58 ?_
  refine lv_bipush (v := (30 : Int32)) hx hb dX6_remember_61 (by decide) ?_
  refine lv_icmp_ge (tgt := 82) hx hb dX6_remember_63 (by decide) (fun c9 => ?_) (fun c9 => ?_)
  · replace h := gi_t h c9
    refine lv_aload_n hx hb dX6_remember_82 rfl (lv_at hl 1 rfl) ?_
    refine g_get K hW (t := 2) (ci := 5) (k := 0) (v := .ref (ad 1)) kLC_0 rfl rfl i_X6 (by decide) q_393 rfl (gfv2 rLC_0_0) dX6_remember_83 ?_
    refine lv_aload_n hx hb dX6_remember_86 rfl (lv_at hl 1 rfl) ?_
    refine g_get K hW (t := 2) (ci := 5) (k := 0) (v := .ref (ad 1)) kLC_0 rfl rfl i_X6 (by decide) q_393 rfl (gfv2 rLC_0_0) dX6_remember_87 ?_
    refine g_get K hW (t := 0) (ci := 0) (k := 18) (v := .int (I8 1 18)) kLC_1 rfl rfl i_X0 (by decide) q_251 rfl rfl dX6_remember_90 ?_
    refine lv_iconst (v := (1 : Int32)) hx hb dX6_remember_93 (by decide) ?_
    refine lv_iadd hx hb dX6_remember_94 ?_
    refine lv_bipush (v := (30 : Int32)) hx hb dX6_remember_95 (by decide) ?_
    refine g_irem hx hb dX6_remember_97 (by decide) ?_
    refine g_putI K hW (ci := 0) (k := 18) kLC_1 rfl rfl i_X0 tyX0_ok nmX0 (by decide) q_251 rfl rfl rfl rfl dX6_remember_98 (fun H locs hW => ?_)
    obtain ⟨I10, e11, h⟩ := lz_o h
    replace hW := gWd_nI e11 hW
    obtain a1 := so1 h
    replace hW := gWd_nI a1 hW
    exact hfin _ _ _ _ hW dX6_remember_101
  · replace h := gi_f h c9
    refine lv_aload_n hx hb dX6_remember_66 rfl (lv_at hl 1 rfl) ?_
    refine g_get K hW (t := 2) (ci := 5) (k := 0) (v := .ref (ad 1)) kLC_0 rfl rfl i_X6 (by decide) q_393 rfl (gfv2 rLC_0_0) dX6_remember_67 ?_
    refine lv_dup hx hb dX6_remember_70 rfl ?_
    refine g_get K hW (t := 0) (ci := 0) (k := 19) (v := .int (I8 1 19)) kLC_1 rfl rfl i_X0 (by decide) q_253 rfl rfl dX6_remember_71 ?_
    refine lv_iconst (v := (1 : Int32)) hx hb dX6_remember_74 (by decide) ?_
    refine lv_iadd hx hb dX6_remember_75 ?_
    refine g_putI K hW (ci := 0) (k := 19) kLC_1 rfl rfl i_X0 tyX0_ok nmX0 (by decide) q_253 rfl rfl rfl rfl dX6_remember_76 (fun H locs hW => ?_)
    obtain ⟨I12, e13, h⟩ := lz_o h
    replace hW := gWd_nI e13 hW
    refine lv_goto (tgt := 101) hx hb dX6_remember_79 (by decide) ?_
    obtain a1 := so1 h
    replace hW := gWd_nI a1 hW
    exact hfin _ _ _ _ hW dX6_remember_101
theorem nm_X5_writeDown : gNm yX5_writeDown 3 := by decide +kernel
noncomputable def fX6_sellTo  (x1 : Int32) (x2 : Int32) (I : gI) : Option (gI) :=
  bd (fX0_slicesOf x1 I) (fun (u1 : Int32) => gd (vp_in x1 6) (lz (wI I 13 (x1).toNatClampNeg u1) (fun (I6 : gI) => bd (fX0_slicesOf x1 I6) (fun (u7 : Int32) => lz (wI I6 11 4 ((I6 11 4) &&& (u7 ^^^ (-1 : Int32)))) (fun (I10 : gI) => lz (wI I10 12 (x1).toNatClampNeg ((I10 12 (x1).toNatClampNeg) - x2)) (fun (I13 : gI) => lz (wI I13 11 6 (jmin (99999 : Int32) ((I13 11 6) + x2))) (fun (I14 : gI) => bd (fX5_writeDown 11 (0 : Int32) x1 x2 I14) (fun (I16 : gI) => some I16))))))))
set_option maxHeartbeats 4000000 in
set_option maxRecDepth 100000 in
theorem kX6_sellTo {l : Launch} {G : gG} {ad : Nat → Nat} (hok : gInj LC ad)    (x1 : Int32) (x2 : Int32) (I : gI) (J : gJ) (I' : gI) (h : fX6_sellTo x1 x2 I = some I') : gMv l yX6_sellTo cX6_sellTo 4 none 2 G LC ad [.ref (ad 0), .int x1, .int x2] I J I' J := by
  refine gMv_of (lst := [(0, .ref (ad 0)), (1, .int x1), (2, .int x2)]) (by decide) hok (Nat.le_of_ble_eq_true rfl) rfl ?_
  intro p e s m args below meth c Q ls K hW hl hfin
  have hn : (some I' : Option (gI)) ≠ none := Option.some_ne_none _
  have hx := K.1; have hb := K.2.1; have hown := K.2.2.2.1; have hts := K.2.2.2.2.1
  unfold fX6_sellTo at h
  refine lv_aload_n hx hb dX6_sellTo_0 rfl (lv_at hl 0 rfl) ?_
  refine g_get K hW (t := 2) (ci := 5) (k := 0) (v := .ref (ad 1)) kLC_0 rfl rfl i_X6 (by decide) q_393 rfl (gfv2 rLC_0_0) dX6_sellTo_1 ?_
  refine g_get K hW (t := 2) (ci := 0) (k := 9) (v := .ref (ad 11)) kLC_1 rfl rfl i_X0 (by decide) q_232 rfl (gfv2 rLC_1_9) dX6_sellTo_4 ?_
  refine lv_astore_n (lv' := [(3, .ref (ad 11)), (0, .ref (ad 0)), (1, .int x1), (2, .int x2)]) hx hb dX6_sellTo_7 rfl hl (by decide) rfl (fun ls hl => ?_)
  refine lv_aload_n hx hb dX6_sellTo_8 rfl (lv_at hl 0 rfl) ?_
  refine g_get K hW (t := 2) (ci := 4) (k := 1) (v := .ref (ad 13)) kLC_11 rfl rfl i_X5 (by decide) q_172 rfl (gfv2 rLC_11_1) dX6_sellTo_9 ?_
  refine lv_iload_n hx hb dX6_sellTo_12 rfl (lv_at hl 2 rfl) ?_
  refine lv_aload_n hx hb dX6_sellTo_13 rfl (lv_at hl 1 rfl) ?_
  refine g_get K hW (t := 2) (ci := 5) (k := 0) (v := .ref (ad 1)) kLC_0 rfl rfl i_X6 (by decide) q_393 rfl (gfv2 rLC_0_0) dX6_sellTo_14 ?_
  refine lv_iload_n hx hb dX6_sellTo_17 rfl (lv_at hl 2 rfl) ?_
  obtain ⟨u1, e2, h⟩ := bd_o h hn
  refine g_callVi (rest := [.int x1, .ref (ad 13)]) K hW hl (kX0_slicesOf (l := l) (G := G) (ad := ad) hok x1 I J u1 e2) kLC_1 rfl (gG_V q_684 q_685 q_686 q_134 q_687) nm_X0_slicesOf ⟨Nat.le_of_ble_eq_true rfl, Nat.le_of_ble_eq_true rfl⟩ rfl rfl (Nat.le_of_ble_eq_true rfl) ⟨Nat.zero_le _, Nat.zero_le _⟩ dX6_sellTo_18 (fun z3 H locs hW => ?_)
  obtain ⟨g4, h⟩ := gd_o h hn
  refine g_iast K hW kLC_13 g4 rfl dX6_sellTo_21 (fun H locs hW => ?_)
  obtain ⟨I6, e5, h⟩ := lz_o h
  replace hW := gWd_nI e5 hW
  refine lv_aload_n hx hb dX6_sellTo_22 rfl (lv_at hl 0 rfl) ?_
  refine lv_dup hx hb dX6_sellTo_23 rfl ?_
  refine g_get K hW (t := 0) (ci := 4) (k := 4) (v := .int (I6 11 4)) kLC_11 rfl rfl i_X5 (by decide) q_180 rfl rfl dX6_sellTo_24 ?_
  refine lv_aload_n hx hb dX6_sellTo_27 rfl (lv_at hl 1 rfl) ?_
  refine g_get K hW (t := 2) (ci := 5) (k := 0) (v := .ref (ad 1)) kLC_0 rfl rfl i_X6 (by decide) q_393 rfl (gfv2 rLC_0_0) dX6_sellTo_28 ?_
  refine lv_iload_n hx hb dX6_sellTo_31 rfl (lv_at hl 2 rfl) ?_
  obtain ⟨u7, e8, h⟩ := bd_o h hn
  refine g_callVi (rest := [.int (I6 11 4), .ref (ad 11)]) K hW hl (kX0_slicesOf (l := l) (G := G) (ad := ad) hok x1 I6 J u7 e8) kLC_1 rfl (gG_V q_684 q_685 q_686 q_134 q_687) nm_X0_slicesOf ⟨Nat.le_of_ble_eq_true rfl, Nat.le_of_ble_eq_true rfl⟩ rfl rfl (Nat.le_of_ble_eq_true rfl) ⟨Nat.zero_le _, Nat.zero_le _⟩ dX6_sellTo_32 (fun z9 H locs hW => ?_)
  refine lv_iconst (v := (-1 : Int32)) hx hb dX6_sellTo_35 (by decide) ?_
  refine lv_ixor hx hb dX6_sellTo_36 ?_
  refine lv_iand hx hb dX6_sellTo_37 ?_
  refine g_putI K hW (ci := 4) (k := 4) kLC_11 rfl rfl i_X5 tyX5_ok nmX5 (by decide) q_180 rfl rfl rfl rfl dX6_sellTo_38 (fun H locs hW => ?_)
  obtain ⟨I10, e11, h⟩ := lz_o h
  replace hW := gWd_nI e11 hW
  refine lv_aload_n hx hb dX6_sellTo_41 rfl (lv_at hl 0 rfl) ?_
  refine g_get K hW (t := 2) (ci := 4) (k := 0) (v := .ref (ad 12)) kLC_11 rfl rfl i_X5 (by decide) q_169 rfl (gfv2 rLC_11_0) dX6_sellTo_42 ?_
  refine lv_iload_n hx hb dX6_sellTo_45 rfl (lv_at hl 2 rfl) ?_
  refine lv_dup2_11 hx hb dX6_sellTo_46 rfl rfl ?_
  refine g_iald K hW kLC_12 g4 rfl dX6_sellTo_47 ?_
  refine lv_iload_n hx hb dX6_sellTo_48 rfl (lv_at hl 3 rfl) ?_
  refine lv_isub hx hb dX6_sellTo_49 ?_
  refine g_iast K hW kLC_12 g4 rfl dX6_sellTo_50 (fun H locs hW => ?_)
  obtain ⟨I13, e12, h⟩ := lz_o h
  replace hW := gWd_nI e12 hW
  refine lv_aload_n hx hb dX6_sellTo_51 rfl (lv_at hl 0 rfl) ?_
  refine lv_ldcw (v := (99999 : Int32)) hx hb hown (hts _ q_746) dX6_sellTo_52 ?_
  refine lv_aload_n hx hb dX6_sellTo_55 rfl (lv_at hl 0 rfl) ?_
  refine g_get K hW (t := 0) (ci := 4) (k := 6) (v := .int (I13 11 6)) kLC_11 rfl rfl i_X5 (by decide) q_184 rfl rfl dX6_sellTo_56 ?_
  refine lv_iload_n hx hb dX6_sellTo_59 rfl (lv_at hl 3 rfl) ?_
  refine lv_iadd hx hb dX6_sellTo_60 ?_
  refine g_min K hl q_747 (by decide) (Nat.le_of_ble_eq_true rfl) ⟨Nat.zero_le _, Nat.zero_le _⟩ dX6_sellTo_61 ?_
  refine g_putI K hW (ci := 4) (k := 6) kLC_11 rfl rfl i_X5 tyX5_ok nmX5 (by decide) q_184 rfl rfl rfl rfl dX6_sellTo_64 (fun H locs hW => ?_)
  obtain ⟨I14, e15, h⟩ := lz_o h
  replace hW := gWd_nI e15 hW
  refine lv_aload_n hx hb dX6_sellTo_67 rfl (lv_at hl 0 rfl) ?_
  refine lv_iconst (v := (0 : Int32)) hx hb dX6_sellTo_68 (by decide) ?_
  refine lv_iload_n hx hb dX6_sellTo_69 rfl (lv_at hl 2 rfl) ?_
  refine lv_iload_n hx hb dX6_sellTo_70 rfl (lv_at hl 3 rfl) ?_
  obtain ⟨I16, e17, h⟩ := bd_o h hn
  refine g_callVv (rest := []) K hW hl (kX5_writeDown (l := l) (G := G) (ad := ad) hok 11 kLC_11 (0 : Int32) x1 x2 I14 J I16 e17) kLC_11 rfl (gG_V q_748 q_749 q_750 q_135 q_751) nm_X5_writeDown ⟨Nat.le_of_ble_eq_true rfl, Nat.le_of_ble_eq_true rfl⟩ rfl rfl (Nat.le_of_ble_eq_true rfl) ⟨Nat.zero_le _, Nat.zero_le _⟩ dX6_sellTo_71 (fun H locs hW => ?_)
  obtain a1 := so1 h
  replace hW := gWd_nI a1 hW
  exact hfin _ _ _ _ hW dX6_sellTo_74
theorem nm_X6_priceFor : gNm yX6_priceFor 1 := by decide +kernel
theorem nm_X6_remember : gNm yX6_remember 0 := by decide +kernel
theorem nm_X6_sellTo : gNm yX6_sellTo 2 := by decide +kernel
noncomputable def fX6_sell  (x1 : Int32) (I : gI) : Option (Int32 × gI) :=
  bd (fX6_priceFor x1 I) (pr (fun (u1 : Int32) (I2 : gI) => gi (u1 = (-1 : Int32))
 (some ((-1 : Int32), I2))
 (bd (fX6_remember I2) (fun (I6 : gI) => bd (fX6_sellTo x1 u1 I6) (fun (I9 : gI) => some (u1, I9))))))
set_option maxHeartbeats 4000000 in
set_option maxRecDepth 100000 in
theorem kX6_sell {l : Launch} {G : gG} {ad : Nat → Nat} (hok : gInj LC ad)    (x1 : Int32) (I : gI) (J : gJ) (r : Int32) (I' : gI) (h : fX6_sell x1 I = some (r, I')) : gMi l yX6_sell cX6_sell 3 (some .int) 6 G LC ad [.ref (ad 0), .int x1] I J r True I' J := by
  refine gMi_of (lst := [(0, .ref (ad 0)), (1, .int x1)]) (by decide) hok (Nat.le_of_ble_eq_true rfl) rfl ?_
  intro p e s m args below meth c Q ls K hW hl hfin
  have hn : (some (r, I') : Option (Int32 × gI)) ≠ none := Option.some_ne_none _
  have hx := K.1; have hb := K.2.1; have hown := K.2.2.2.1; have hts := K.2.2.2.2.1
  unfold fX6_sell at h
  refine lv_aload_n hx hb dX6_sell_0 rfl (lv_at hl 0 rfl) ?_
  refine lv_iload_n hx hb dX6_sell_1 rfl (lv_at hl 1 rfl) ?_
  obtain ⟨⟨u1, I2⟩, e3, h⟩ := bd_o h hn
  replace h := pr_o h
  refine g_callVi (rest := []) K hW hl (kX6_priceFor (l := l) (G := G) (ad := ad) hok x1 I J u1 I2 e3) kLC_0 rfl (gG_V q_676 q_678 q_24 q_133 q_679) nm_X6_priceFor ⟨Nat.le_of_ble_eq_true rfl, Nat.le_of_ble_eq_true rfl⟩ rfl rfl (Nat.le_of_ble_eq_true rfl) ⟨Nat.zero_le _, Nat.zero_le _⟩ dX6_sell_2 (fun z4 H locs hW => ?_)
  refine lv_istore_n (lv' := [(2, .int u1), (0, .ref (ad 0)), (1, .int x1)]) hx hb dX6_sell_5 rfl hl (by decide) rfl (fun ls hl => ?_)
  refine lv_iload_n hx hb dX6_sell_6 rfl (lv_at hl 0 rfl) ?_
  refine lv_iconst (v := (-1 : Int32)) hx hb dX6_sell_7 (by decide) ?_
  refine lv_icmp_ne (tgt := 13) hx hb dX6_sell_8 (by decide) (fun c5 => ?_) (fun c5 => ?_)
  · replace h := gi_f h c5
    refine lv_aload_n hx hb dX6_sell_13 rfl (lv_at hl 1 rfl) ?_
    obtain ⟨I6, e7, h⟩ := bd_o h hn
    refine g_callVv (rest := []) K hW hl (kX6_remember (l := l) (G := G) (ad := ad) hok I2 J I6 e7) kLC_0 rfl (gG_V q_731 q_733 q_27 q_133 q_734) nm_X6_remember ⟨Nat.le_of_ble_eq_true rfl, Nat.le_of_ble_eq_true rfl⟩ rfl rfl (Nat.le_of_ble_eq_true rfl) ⟨Nat.zero_le _, Nat.zero_le _⟩ dX6_sell_14 (fun H locs hW => ?_)
    refine lv_aload_n hx hb dX6_sell_17 rfl (lv_at hl 1 rfl) ?_
    refine lv_iload_n hx hb dX6_sell_18 rfl (lv_at hl 2 rfl) ?_
    refine lv_iload_n hx hb dX6_sell_19 rfl (lv_at hl 0 rfl) ?_
    obtain ⟨I9, e10, h⟩ := bd_o h hn
    refine g_callVv (rest := []) K hW hl (kX6_sellTo (l := l) (G := G) (ad := ad) hok x1 u1 I6 J I9 e10) kLC_0 rfl (gG_V q_742 q_744 q_28 q_133 q_745) nm_X6_sellTo ⟨Nat.le_of_ble_eq_true rfl, Nat.le_of_ble_eq_true rfl⟩ rfl rfl (Nat.le_of_ble_eq_true rfl) ⟨Nat.zero_le _, Nat.zero_le _⟩ dX6_sell_20 (fun H locs hW => ?_)
    refine lv_iload_n hx hb dX6_sell_23 rfl (lv_at hl 0 rfl) ?_
    obtain ⟨a1, a2⟩ := so2 h
    replace hW := gWd_nI a2 hW
    exact g_nmi a1 (hfin _ _ _ _ hW dX6_sell_24)
  · replace h := gi_t h c5
    refine lv_iconst (v := (-1 : Int32)) hx hb dX6_sell_11 (by decide) ?_
    obtain ⟨a1, a2⟩ := so2 h
    replace hW := gWd_nI a2 hW
    exact g_nmi a1 (hfin _ _ _ _ hW dX6_sell_12)
