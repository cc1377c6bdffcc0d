-- 12.m07: the reference: arePassed day isPlayed played happens years of ofSort at is lineOf book ledger richest rival can
theorem nm_X7_passDay : gNm yX7_passDay 0 := by decide +kernel
noncomputable def fX7_arePassed_2b  (rec : Int32 → Int32 → gI → gJ → Option ((gI × gJ) ⊕ (gI × gJ))) (u1 : Int32) (u2 : Int32) (I : gI) (J : gJ) : Option ((gI × gJ) ⊕ (gI × gJ)) :=
  gi (u1 ≤ u2)
 (some (Sum.inr (I, J)))
 (gi ((I 1 6) = (9999 : Int32))
 (some (Sum.inl (I, J)))
 (bd (fX7_keepStep I) (fun (I9 : gI) => bd (fX7_passDay I9 J) (pr (fun (I12 : gI) (J13 : gJ) => lz ((u2 + (1 : Int32))) (fun (u16 : Int32) => rec u1 u16 I12 J13))))))
noncomputable def fX7_arePassed_2  : Nat → Int32 → Int32 → gI → gJ → Option ((gI × gJ) ⊕ (gI × gJ))
  | 0 => fun _ _ _ _ => none
  | n + 1 => fX7_arePassed_2b  (fX7_arePassed_2  n)
set_option maxHeartbeats 4000000 in
set_option maxRecDepth 100000 in
theorem tX7_arePassed_2 {l : Launch} {G : gG} {ad : Nat → Nat} {p : Program} {e : Env} {s : State} {m : MethodId} {args : Array Value} {below : List Frame} {meth : Method} {c : Code} {Q : State → Prop} (hok : gInj LM ad) (K : gCx G (gA LM ad) p s m args c cX7_arePassed 3 RX7)  : ∀ (n : Nat) (u1 : Int32) (u2 : Int32) (I : gI) (J : gJ) (out : Option ((gI × gJ) ⊕ (gI × gJ))), fX7_arePassed_2  n u1 u2 I J = out → out ≠ none → ∀ (H : Heap) (locs : List Loc), gWd G LM ad (gA LM ad) s.heap I J H locs → ∀ (ls : Array Slot), lv_has ls 3 [(0, .ref (ad 0)), (1, .int u1), (2, .int u2)] → (∀ (I3 : gI) (J4 : gJ), some (Sum.inl (I3, J4)) = out → ∀ (H : Heap) (locs : List Loc), gWd G LM ad (gA LM ad) s.heap I3 J4 H locs → ∀ (ls : Array Slot), lv_has ls 3 [] → W p l e (gRm 7) s m args below meth c H locs 0 0 Q (F0 m 20 ls [])) → (∀ (I5 : gI) (J6 : gJ), some (Sum.inr (I5, J6)) = out → ∀ (H : Heap) (locs : List Loc), gWd G LM ad (gA LM ad) s.heap I5 J6 H locs → ∀ (ls : Array Slot), lv_has ls 3 [] → W p l e (gRm 7) s m args below meth c H locs 0 0 Q (F0 m 36 ls [])) → W p l e (gRm 7) s m args below meth c H locs 0 0 Q (F0 m 2 ls []) := by
  have hx := K.1; have hb := K.2.1; have hown := K.2.2.2.1; have hts := K.2.2.2.2.1
  intro n
  induction n with
  | zero => intro u1 u2 I J out h hn; exact absurd h.symm hn
  | succ n ih =>
    intro u1 u2 I J out h hn H locs hW ls hl hx1 hx2
    replace h : fX7_arePassed_2b  (fX7_arePassed_2  n) u1 u2 I J = out := h
    unfold fX7_arePassed_2b at h
    refine lv_iload_n hx hb dX7_arePassed_2 rfl (lv_at hl 2 rfl) ?_
    refine lv_iload_n hx hb dX7_arePassed_3 rfl (lv_at hl 1 rfl) ?_
    refine lv_icmp_ge (tgt := 36) hx hb dX7_arePassed_4 (by decide) (fun c7 => ?_) (fun c7 => ?_)
    · replace h := gi_t h c7
      exact hx2 I J h _ _ hW _ (lv_sub hl [] rfl)
    · replace h := gi_f h c7
      refine lv_aload_n hx hb dX7_arePassed_7 rfl (lv_at hl 0 rfl) ?_
      refine g_get K hW (t := 2) (ci := 6) (k := 0) (v := .ref (ad 1)) kLM_0 rfl rfl i_X7 (by decide) q_1077 rfl (gfv2 rLM_0_0) dX7_arePassed_8 ?_
      refine lv_bipush (v := (6 : Int32)) hx hb dX7_arePassed_11 (by decide) ?_
      refine g_iald K hW kLM_1 in_6_1592 tn_6 dX7_arePassed_13 ?_
      refine lv_sipush (v := (9999 : Int32)) hx hb dX7_arePassed_14 (by decide) ?_
      refine lv_icmp_ne (tgt := 22) hx hb dX7_arePassed_17 (by decide) (fun c8 => ?_) (fun c8 => ?_)
      · replace h := gi_f h c8
        refine lv_aload_n hx hb dX7_arePassed_22 rfl (lv_at hl 0 rfl) ?_
        obtain ⟨I9, e10, h⟩ := bd_o h hn
        refine g_callVv (rest := []) K hW hl (kX7_keepStep (l := l) (G := G) (ad := ad) hok I J I9 e10) kLM_0 rfl (gG_V q_1423 q_1425 q_93 q_139 q_1426) nm_X7_keepStep ⟨Nat.le_of_ble_eq_true rfl, Nat.le_of_ble_eq_true rfl⟩ rfl rfl (Nat.le_of_ble_eq_true rfl) ⟨Nat.zero_le _, Nat.zero_le _⟩ dX7_arePassed_23 (fun H locs hW => ?_)
        refine lv_aload_n hx hb dX7_arePassed_26 rfl (lv_at hl 0 rfl) ?_
        obtain ⟨⟨I12, J13⟩, e14, h⟩ := bd_o h hn
        replace h := pr_o h
        refine g_callVv (rest := []) K hW hl (kX7_passDay (l := l) (G := G) (ad := ad) hok I9 J I12 J13 e14) kLM_0 rfl (gG_V q_1478 q_1480 q_102 q_139 q_1481) nm_X7_passDay ⟨Nat.le_of_ble_eq_true rfl, Nat.le_of_ble_eq_true rfl⟩ rfl rfl (Nat.le_of_ble_eq_true rfl) ⟨Nat.zero_le _, Nat.zero_le _⟩ dX7_arePassed_27 (fun H locs hW => ?_)
        obtain ⟨u16, e17, h⟩ := lz_o h
        refine lv_iinc (v := u16) (lv' := [(2, .int u16), (0, .ref (ad 0)), (1, .int u1)]) hx hb dX7_arePassed_30 hl (k := 2) rfl (by rw [e17]; rfl) (by decide) rfl (fun ls hl => ?_)
        refine lv_goto (tgt := 2) hx hb dX7_arePassed_33 (by decide) ?_
        exact ih u1 u16 I12 J13 _ h hn _ _ hW _ (lv_sub hl [1, 2, 0] rfl) hx1 hx2
      · replace h := gi_t h c8
        exact hx1 I J h _ _ hW _ (lv_sub hl [] rfl)
noncomputable def fX7_arePassed  (x1 : Int32) (I : gI) (J : gJ) : Option (Int32 × gI × gJ) :=
  bd (fX7_arePassed_2 FU x1 (0 : Int32) I J) (sm (pr (fun (I20 : gI) (J21 : gJ) => some ((0 : Int32), I20, J21))) (pr (fun (I23 : gI) (J24 : gJ) => some ((1 : Int32), I23, J24))))
set_option maxHeartbeats 4000000 in
set_option maxRecDepth 100000 in
theorem kX7_arePassed {l : Launch} {G : gG} {ad : Nat → Nat} (hok : gInj LM ad)    (x1 : Int32) (I : gI) (J : gJ) (r : Int32) (I' : gI) (J' : gJ) (h : fX7_arePassed x1 I J = some (r, I', J')) : gMi l yX7_arePassed cX7_arePassed 3 (some .boolean) 7 G LM ad [.ref (ad 0), .int x1] I J r (r = 0 ∨ r = 1) I' J' := by
  refine gMz_of (lst := [(0, .ref (ad 0)), (1, .int x1)]) (by decide) hok (Nat.le_of_ble_eq_true rfl) rfl ?_
  intro p e s m args below meth c Q ls K hW hl hfin
  have hn : (some (r, I', J') : Option (Int32 × gI × gJ)) ≠ none := Option.some_ne_none _
  have hx := K.1; have hb := K.2.1; have hown := K.2.2.2.1; have hts := K.2.2.2.2.1
  unfold fX7_arePassed at h
  refine lv_iconst (v := (0 : Int32)) hx hb dX7_arePassed_0 (by decide) ?_
  refine lv_istore_n (lv' := [(2, .int (0 : Int32)), (0, .ref (ad 0)), (1, .int x1)]) hx hb dX7_arePassed_1 rfl hl (by decide) rfl (fun ls hl => ?_)
  obtain ⟨r18, e19, h⟩ := bd_o h hn
  refine tX7_arePassed_2 hok K FU x1 (0 : Int32) I J (some r18) e19 (Option.some_ne_none _) _ _ hW _ (lv_sub hl [1, 2, 0] rfl) ?_ ?_
  · intro I20 J21 q22 H locs hW ls hl
    replace q22 := Option.some.inj q22
    subst q22
    replace h := sm_l h
    replace h := pr_o h
    refine lv_iconst (v := (0 : Int32)) hx hb dX7_arePassed_20 (by decide) ?_
    obtain ⟨a1, a2, a3⟩ := so3 h
    replace hW := gWd_nI a2 hW
    replace hW := gWd_nJ a3 hW
    exact g_nmi a1 (hfin _ _ _ _ (a1 ▸ (Or.inl rfl)) hW dX7_arePassed_21)
  · intro I23 J24 q25 H locs hW ls hl
    replace q25 := Option.some.inj q25
    subst q25
    replace h := sm_r h
    replace h := pr_o h
    refine lv_iconst (v := (1 : Int32)) hx hb dX7_arePassed_36 (by decide) ?_
    obtain ⟨a1, a2, a3⟩ := so3 h
    replace hW := gWd_nI a2 hW
    replace hW := gWd_nJ a3 hW
    exact g_nmi a1 (hfin _ _ _ _ (a1 ▸ (Or.inr rfl)) hW dX7_arePassed_37)
theorem nm_X7_arePassed : gNm yX7_arePassed 1 := by decide +kernel
noncomputable def fX7_day  (x1 : Int32) (I : gI) (J : gJ) : Option (Int32 × gI × gJ) :=
  gi ((fX7_isIn x1 (1 : Int32) (60 : Int32)) = 0)
 (some ((-1 : Int32), I, J))
 (gi ((9999 : Int32) < ((I 1 6) + x1))
 (some ((-1 : Int32), I, J))
 (bd (fX7_arePassed x1 I J) (pr (fun (u4 : Int32) => pr (fun (I5 : gI) (J6 : gJ) => gi (u4 = 0)
 (some ((-1 : Int32), I5, J6))
 (some ((I5 1 9), I5, J6)))))))
set_option maxHeartbeats 4000000 in
set_option maxRecDepth 100000 in
theorem kX7_day {l : Launch} {G : gG} {ad : Nat → Nat} (hok : gInj LM ad)    (x1 : Int32) (I : gI) (J : gJ) (r : Int32) (I' : gI) (J' : gJ) (h : fX7_day x1 I J = some (r, I', J')) : gMi l yX7_day cX7_day 2 (some .int) 8 G LM ad [.ref (ad 0), .int x1] I J r True I' J' := by
  refine gMi_of (lst := [(0, .ref (ad 0)), (1, .int x1)]) (by decide) hok (Nat.le_of_ble_eq_true rfl) rfl ?_
  intro p e s m args below meth c Q ls K hW hl hfin
  have hn : (some (r, I', J') : Option (Int32 × gI × gJ)) ≠ none := Option.some_ne_none _
  have hx := K.1; have hb := K.2.1; have hown := K.2.2.2.1; have hts := K.2.2.2.2.1
  unfold fX7_day at h
  refine lv_iload_n hx hb dX7_day_0 rfl (lv_at hl 1 rfl) ?_
  refine lv_iconst (v := (1 : Int32)) hx hb dX7_day_1 (by decide) ?_
  refine lv_bipush (v := (60 : Int32)) hx hb dX7_day_2 (by decide) ?_
  refine g_callSi (rest := []) K hW hl (kX7_isIn (l := l) (G := G) (ad := ad) hok x1 (1 : Int32) (60 : Int32) I J (fX7_isIn x1 (1 : Int32) (60 : Int32)) rfl) q_1171 q_1172 q_139 q_1173 nm_X7_isIn ⟨Nat.le_of_ble_eq_true rfl, Nat.le_of_ble_eq_true rfl⟩ rfl rfl (Nat.le_of_ble_eq_true rfl) ⟨Nat.zero_le _, Nat.zero_le _⟩ dX7_day_4 (fun z1 H locs hW => ?_)
  refine lv_if_eq (tgt := 43) hx hb dX7_day_7 (by decide) (fun c2 => ?_) (fun c2 => ?_)
  · replace h := gi_t h c2
    refine lv_iconst (v := (-1 : Int32)) hx hb dX7_day_43 (by decide) ?_
    obtain ⟨a1, a2, a3⟩ := so3 h
    replace hW := gWd_nI a2 hW
    replace hW := gWd_nJ a3 hW
    exact g_nmi a1 (hfin _ _ _ _ hW dX7_day_44)
  · replace h := gi_f h c2
    refine lv_aload_n hx hb dX7_day_10 rfl (lv_at hl 0 rfl) ?_
    refine g_get K hW (t := 2) (ci := 6) (k := 0) (v := .ref (ad 1)) kLM_0 rfl rfl i_X7 (by decide) q_1077 rfl (gfv2 rLM_0_0) dX7_day_11 ?_
    refine lv_bipush (v := (6 : Int32)) hx hb dX7_day_14 (by decide) ?_
    refine g_iald K hW kLM_1 in_6_1592 tn_6 dX7_day_16 ?_
    refine lv_iload_n hx hb dX7_day_17 rfl (lv_at hl 1 rfl) ?_
    refine lv_iadd hx hb dX7_day_18 ?_
    refine lv_sipush (v := (9999 : Int32)) hx hb dX7_day_19 (by decide) ?_
    refine lv_icmp_gt (tgt := 43) hx hb dX7_day_22 (by decide) (fun c3 => ?_) (fun c3 => ?_)
    · replace h := gi_t h c3
      refine lv_iconst (v := (-1 : Int32)) hx hb dX7_day_43 (by decide) ?_
      obtain ⟨a1, a2, a3⟩ := so3 h
      replace hW := gWd_nI a2 hW
      replace hW := gWd_nJ a3 hW
      exact g_nmi a1 (hfin _ _ _ _ hW dX7_day_44)
    · replace h := gi_f h c3
      refine lv_aload_n hx hb dX7_day_25 rfl (lv_at hl 0 rfl) ?_
      refine lv_iload_n hx hb dX7_day_26 rfl (lv_at hl 1 rfl) ?_
      obtain ⟨⟨u4, I5, J6⟩, e7, h⟩ := bd_o h hn
      replace h := pr_o h
      replace h := pr_o h
      refine g_callVi (rest := []) K hW hl (kX7_arePassed (l := l) (G := G) (ad := ad) hok x1 I J u4 I5 J6 e7) kLM_0 rfl (gG_V q_1474 q_1476 q_101 q_139 q_1477) nm_X7_arePassed ⟨Nat.le_of_ble_eq_true rfl, Nat.le_of_ble_eq_true rfl⟩ rfl rfl (Nat.le_of_ble_eq_true rfl) ⟨Nat.zero_le _, Nat.zero_le _⟩ dX7_day_27 (fun z8 H locs hW => ?_)
      refine lv_if_eq (tgt := 43) hx hb dX7_day_30 (by decide) (fun c9 => ?_) (fun c9 => ?_)
      · replace h := gi_t h c9
        refine lv_iconst (v := (-1 : Int32)) hx hb dX7_day_43 (by decide) ?_
        obtain ⟨a1, a2, a3⟩ := so3 h
        replace hW := gWd_nI a2 hW
        replace hW := gWd_nJ a3 hW
        exact g_nmi a1 (hfin _ _ _ _ hW dX7_day_44)
      · replace h := gi_f h c9
        refine lv_aload_n hx hb dX7_day_33 rfl (lv_at hl 0 rfl) ?_
        refine g_get K hW (t := 2) (ci := 6) (k := 0) (v := .ref (ad 1)) kLM_0 rfl rfl i_X7 (by decide) q_1077 rfl (gfv2 rLM_0_0) dX7_day_34 ?_
        refine lv_bipush (v := (9 : Int32)) hx hb dX7_day_37 (by decide) ?_
        refine g_iald K hW kLM_1 in_9_1592 tn_9 dX7_day_39 ?_
        refine lv_goto (tgt := 44) hx hb dX7_day_40 (by decide) ?_
        obtain ⟨a1, a2, a3⟩ := so3 h
        replace hW := gWd_nI a2 hW
        replace hW := gWd_nJ a3 hW
        exact g_nmi a1 (hfin _ _ _ _ hW dX7_day_44)
theorem nm_X7_buyer : gNm yX7_buyer 4 := by decide +kernel
theorem nm_X7_sort : gNm yX7_sort 3 := by decide +kernel
theorem nm_X7_sell : gNm yX7_sell 1 := by decide +kernel
theorem nm_X7_give : gNm yX7_give 1 := by decide +kernel
theorem nm_X7_turn : gNm yX7_turn 1 := by decide +kernel
noncomputable def fX7_isPlayed  (x1 : Int32) (I : gI) (J : gJ) : Option (Int32 × gI × gJ) :=
  gd (vp_in (x1 + (1 : Int32)) 2724) (lz ((I 3 ((x1 + (1 : Int32))).toNatClampNeg)) (fun (u2 : Int32) => gd (vp_in (x1 + (2 : Int32)) 2724) (lz ((I 3 ((x1 + (2 : Int32))).toNatClampNeg)) (fun (u5 : Int32) => gd (vp_in x1 2724) (lz ((I 3 (x1).toNatClampNeg)) (fun (u8 : Int32) => gi (u8 = (2 : Int32))
 (bd (fX7_buyer (31 : Int32) u2 u5 (50 : Int32) I) (pr (fun (u11 : Int32) (I12 : gI) => gi (u11 < 0)
 (some ((0 : Int32), I12, J))
 (some ((1 : Int32), I12, J)))))
 (gi (u8 = (3 : Int32))
 (gd (vp_in ((34 : Int32) + u2) 1592) (bd (fX7_sort u2 u5 (I 1 (((34 : Int32) + u2)).toNatClampNeg) I) (pr (fun (u18 : Int32) (I19 : gI) => some (u18, I19, J)))))
 (gi (u8 = (4 : Int32))
 (bd (fX7_sell u2 I J) (pr (fun (u23 : Int32) => pr (fun (I24 : gI) (J25 : gJ) => gi (u23 < 0)
 (some ((0 : Int32), I24, J25))
 (some ((1 : Int32), I24, J25))))))
 (gi (u8 = (5 : Int32))
 (bd (fX7_give u2 I) (pr (fun (u30 : Int32) (I31 : gI) => some (u30, I31, J))))
 (gi (u8 = (6 : Int32))
 (bd (fX7_turn u2 I) (pr (fun (u35 : Int32) (I36 : gI) => some (u35, I36, J))))
 (gi (u8 = (7 : Int32))
 (bd (fX7_arePassed u2 I J) (pr (fun (u40 : Int32) => pr (fun (I41 : gI) (J42 : gJ) => some (u40, I41, J42)))))
 (some ((1 : Int32), I, J)))))))))))))
set_option maxHeartbeats 4000000 in
set_option maxRecDepth 100000 in
theorem kX7_isPlayed {l : Launch} {G : gG} {ad : Nat → Nat} (hok : gInj LM ad)    (x1 : Int32) (I : gI) (J : gJ) (r : Int32) (I' : gI) (J' : gJ) (h : fX7_isPlayed x1 I J = some (r, I', J')) : gMi l yX7_isPlayed cX7_isPlayed 4 (some .boolean) 9 G LM ad [.ref (ad 0), .int x1] I J r (r = 0 ∨ r = 1) I' J' := by
  refine gMz_of (lst := [(0, .ref (ad 0)), (1, .int x1)]) (by decide) hok (Nat.le_of_ble_eq_true rfl) rfl ?_
  intro p e s m args below meth c Q ls K hW hl hfin
  have hn : (some (r, I', J') : Option (Int32 × gI × gJ)) ≠ none := Option.some_ne_none _
  have hx := K.1; have hb := K.2.1; have hown := K.2.2.2.1; have hts := K.2.2.2.2.1
  unfold fX7_isPlayed at h
  refine lv_aload_n hx hb dX7_isPlayed_0 rfl (lv_at hl 0 rfl) ?_
  refine g_get K hW (t := 2) (ci := 6) (k := 2) (v := .ref (ad 3)) kLM_0 rfl rfl i_X7 (by decide) q_1079 rfl (gfv2 rLM_0_2) dX7_isPlayed_1 ?_
  refine lv_iload_n hx hb dX7_isPlayed_4 rfl (lv_at hl 1 rfl) ?_
  refine lv_iconst (v := (1 : Int32)) hx hb dX7_isPlayed_5 (by decide) ?_
  refine lv_iadd hx hb dX7_isPlayed_6 ?_
  obtain ⟨g1, h⟩ := gd_o h hn
  refine g_iald K hW kLM_3 g1 rfl dX7_isPlayed_7 ?_
  obtain ⟨u2, e3, h⟩ := lz_o h
  refine g_nmi e3 ?_
  refine lv_istore_n (lv' := [(2, .int u2), (0, .ref (ad 0)), (1, .int x1)]) hx hb dX7_isPlayed_8 rfl hl (by decide) rfl (fun ls hl => ?_)
  refine lv_aload_n hx hb dX7_isPlayed_9 rfl (lv_at hl 1 rfl) ?_
  refine g_get K hW (t := 2) (ci := 6) (k := 2) (v := .ref (ad 3)) kLM_0 rfl rfl i_X7 (by decide) q_1079 rfl (gfv2 rLM_0_2) dX7_isPlayed_10 ?_
  refine lv_iload_n hx hb dX7_isPlayed_13 rfl (lv_at hl 2 rfl) ?_
  refine lv_iconst (v := (2 : Int32)) hx hb dX7_isPlayed_14 (by decide) ?_
  refine lv_iadd hx hb dX7_isPlayed_15 ?_
  obtain ⟨g4, h⟩ := gd_o h hn
  refine g_iald K hW kLM_3 g4 rfl dX7_isPlayed_16 ?_
  obtain ⟨u5, e6, h⟩ := lz_o h
  refine g_nmi e6 ?_
  refine lv_istore_n (lv' := [(3, .int u5), (2, .int u2), (0, .ref (ad 0)), (1, .int x1)]) hx hb dX7_isPlayed_17 rfl hl (by decide) rfl (fun ls hl => ?_)
  refine lv_aload_n hx hb dX7_isPlayed_18 rfl (lv_at hl 2 rfl) ?_
  refine g_get K hW (t := 2) (ci := 6) (k := 2) (v := .ref (ad 3)) kLM_0 rfl rfl i_X7 (by decide) q_1079 rfl (gfv2 rLM_0_2) dX7_isPlayed_19 ?_
  refine lv_iload_n hx hb dX7_isPlayed_22 rfl (lv_at hl 3 rfl) ?_
  obtain ⟨g7, h⟩ := gd_o h hn
  refine g_iald K hW kLM_3 g7 rfl dX7_isPlayed_23 ?_
  obtain ⟨u8, e9, h⟩ := lz_o h
  refine g_nmi e9 ?_
  rcases Classical.em (u8 = (2 : Int32)) with c10 | c10
  · replace h := gi_t h c10
    refine g_tabIn (k := (2 : Int32)) (tgt := 64) (off := 40) hx hb c10 dX7_isPlayed_24 (by decide) (by decide) (by decide) (by decide) ?_
    refine lv_aload_n hx hb dX7_isPlayed_64 rfl (lv_at hl 2 rfl) ?_
    refine lv_bipush (v := (31 : Int32)) hx hb dX7_isPlayed_65 (by decide) ?_
    refine lv_iload_n hx hb dX7_isPlayed_67 rfl (lv_at hl 1 rfl) ?_
    refine lv_iload_n hx hb dX7_isPlayed_68 rfl (lv_at hl 0 rfl) ?_
    refine lv_bipush (v := (50 : Int32)) hx hb dX7_isPlayed_69 (by decide) ?_
    obtain ⟨⟨u11, I12⟩, e13, h⟩ := bd_o h hn
    replace h := pr_o h
    refine g_callVi (rest := []) K hW hl (kX7_buyer (l := l) (G := G) (ad := ad) hok (31 : Int32) u2 u5 (50 : Int32) I J u11 I12 e13) kLM_0 rfl (gG_V q_1513 q_1175 q_1176 q_139 q_1177) nm_X7_buyer ⟨Nat.le_of_ble_eq_true rfl, Nat.le_of_ble_eq_true rfl⟩ rfl rfl (Nat.le_of_ble_eq_true rfl) ⟨Nat.zero_le _, Nat.zero_le _⟩ dX7_isPlayed_71 (fun z14 H locs hW => ?_)
    refine lv_if_lt (tgt := 81) hx hb dX7_isPlayed_74 (by decide) (fun c15 => ?_) (fun c15 => ?_)
    · replace h := gi_t h c15
      refine lv_iconst (v := (0 : Int32)) hx hb dX7_isPlayed_81 (by decide) ?_
      obtain ⟨a1, a2, a3⟩ := so3 h
      replace hW := gWd_nI a2 hW
      replace hW := gWd_nJ a3 hW
      exact g_nmi a1 (hfin _ _ _ _ (a1 ▸ (Or.inl rfl)) hW dX7_isPlayed_82)
    · replace h := gi_f h c15
      refine lv_iconst (v := (1 : Int32)) hx hb dX7_isPlayed_77 (by decide) ?_
      refine lv_goto (tgt := 82) hx hb dX7_isPlayed_78 (by decide) ?_
      obtain ⟨a1, a2, a3⟩ := so3 h
      replace hW := gWd_nI a2 hW
      replace hW := gWd_nJ a3 hW
      exact g_nmi a1 (hfin _ _ _ _ (a1 ▸ (Or.inr rfl)) hW dX7_isPlayed_82)
  · replace h := gi_f h c10
    rcases Classical.em (u8 = (3 : Int32)) with c16 | c16
    · replace h := gi_t h c16
      refine g_tabIn (k := (3 : Int32)) (tgt := 83) (off := 59) hx hb c16 dX7_isPlayed_24 (by decide) (by decide) (by decide) (by decide) ?_
      refine lv_aload_n hx hb dX7_isPlayed_83 rfl (lv_at hl 2 rfl) ?_
      refine lv_iload_n hx hb dX7_isPlayed_84 rfl (lv_at hl 1 rfl) ?_
      refine lv_iload_n hx hb dX7_isPlayed_85 rfl (lv_at hl 0 rfl) ?_
      refine lv_aload_n hx hb dX7_isPlayed_86 rfl (lv_at hl 2 rfl) ?_
      refine g_get K hW (t := 2) (ci := 6) (k := 0) (v := .ref (ad 1)) kLM_0 rfl rfl i_X7 (by decide) q_1077 rfl (gfv2 rLM_0_0) dX7_isPlayed_87 ?_
      refine lv_bipush (v := (34 : Int32)) hx hb dX7_isPlayed_90 (by decide) ?_
      refine lv_iload_n hx hb dX7_isPlayed_92 rfl (lv_at hl 1 rfl) ?_
      refine lv_iadd hx hb dX7_isPlayed_93 ?_
      obtain ⟨g17, h⟩ := gd_o h hn
      refine g_iald K hW kLM_1 g17 rfl dX7_isPlayed_94 ?_
      obtain ⟨⟨u18, I19⟩, e20, h⟩ := bd_o h hn
      replace h := pr_o h
      refine g_callVi (rest := []) K hW hl (kX7_sort (l := l) (G := G) (ad := ad) hok u2 u5 (I 1 (((34 : Int32) + u2)).toNatClampNeg) I J u18 I19 e20) kLM_0 rfl (gG_V q_1514 q_1165 q_1166 q_139 q_1167) nm_X7_sort ⟨Nat.le_of_ble_eq_true rfl, Nat.le_of_ble_eq_true rfl⟩ rfl rfl (Nat.le_of_ble_eq_true rfl) ⟨Nat.zero_le _, Nat.zero_le _⟩ dX7_isPlayed_95 (fun z21 H locs hW => ?_)
      obtain ⟨a1, a2, a3⟩ := so3 h
      replace hW := gWd_nI a2 hW
      replace hW := gWd_nJ a3 hW
      exact g_nmi a1 (hfin _ _ _ _ (a1 ▸ z21) hW dX7_isPlayed_98)
    · replace h := gi_f h c16
      rcases Classical.em (u8 = (4 : Int32)) with c22 | c22
      · replace h := gi_t h c22
        refine g_tabIn (k := (4 : Int32)) (tgt := 99) (off := 75) hx hb c22 dX7_isPlayed_24 (by decide) (by decide) (by decide) (by decide) ?_
        refine lv_aload_n hx hb dX7_isPlayed_99 rfl (lv_at hl 2 rfl) ?_
        refine lv_iload_n hx hb dX7_isPlayed_100 rfl (lv_at hl 1 rfl) ?_
        obtain ⟨⟨u23, I24, J25⟩, e26, h⟩ := bd_o h hn
        replace h := pr_o h
        replace h := pr_o h
        refine g_callVi (rest := []) K hW hl (kX7_sell (l := l) (G := G) (ad := ad) hok u2 I J u23 I24 J25 e26) kLM_0 rfl (gG_V q_1515 q_1343 q_1344 q_139 q_1345) nm_X7_sell ⟨Nat.le_of_ble_eq_true rfl, Nat.le_of_ble_eq_true rfl⟩ rfl rfl (Nat.le_of_ble_eq_true rfl) ⟨Nat.zero_le _, Nat.zero_le _⟩ dX7_isPlayed_101 (fun z27 H locs hW => ?_)
        refine lv_if_lt (tgt := 111) hx hb dX7_isPlayed_104 (by decide) (fun c28 => ?_) (fun c28 => ?_)
        · replace h := gi_t h c28
          refine lv_iconst (v := (0 : Int32)) hx hb dX7_isPlayed_111 (by decide) ?_
          obtain ⟨a1, a2, a3⟩ := so3 h
          replace hW := gWd_nI a2 hW
          replace hW := gWd_nJ a3 hW
          exact g_nmi a1 (hfin _ _ _ _ (a1 ▸ (Or.inl rfl)) hW dX7_isPlayed_112)
        · replace h := gi_f h c28
          refine lv_iconst (v := (1 : Int32)) hx hb dX7_isPlayed_107 (by decide) ?_
          refine lv_goto (tgt := 112) hx hb dX7_isPlayed_108 (by decide) ?_
          obtain ⟨a1, a2, a3⟩ := so3 h
          replace hW := gWd_nI a2 hW
          replace hW := gWd_nJ a3 hW
          exact g_nmi a1 (hfin _ _ _ _ (a1 ▸ (Or.inr rfl)) hW dX7_isPlayed_112)
      · replace h := gi_f h c22
        rcases Classical.em (u8 = (5 : Int32)) with c29 | c29
        · replace h := gi_t h c29
          refine g_tabIn (k := (5 : Int32)) (tgt := 113) (off := 89) hx hb c29 dX7_isPlayed_24 (by decide) (by decide) (by decide) (by decide) ?_
          refine lv_aload_n hx hb dX7_isPlayed_113 rfl (lv_at hl 2 rfl) ?_
          refine lv_iload_n hx hb dX7_isPlayed_114 rfl (lv_at hl 1 rfl) ?_
          obtain ⟨⟨u30, I31⟩, e32, h⟩ := bd_o h hn
          replace h := pr_o h
          refine g_callVi (rest := []) K hW hl (kX7_give (l := l) (G := G) (ad := ad) hok u2 I J u30 I31 e32) kLM_0 rfl (gG_V q_1516 q_1436 q_1437 q_139 q_1438) nm_X7_give ⟨Nat.le_of_ble_eq_true rfl, Nat.le_of_ble_eq_true rfl⟩ rfl rfl (Nat.le_of_ble_eq_true rfl) ⟨Nat.zero_le _, Nat.zero_le _⟩ dX7_isPlayed_115 (fun z33 H locs hW => ?_)
          obtain ⟨a1, a2, a3⟩ := so3 h
          replace hW := gWd_nI a2 hW
          replace hW := gWd_nJ a3 hW
          exact g_nmi a1 (hfin _ _ _ _ (a1 ▸ z33) hW dX7_isPlayed_118)
        · replace h := gi_f h c29
          rcases Classical.em (u8 = (6 : Int32)) with c34 | c34
          · replace h := gi_t h c34
            refine g_tabIn (k := (6 : Int32)) (tgt := 119) (off := 95) hx hb c34 dX7_isPlayed_24 (by decide) (by decide) (by decide) (by decide) ?_
            refine lv_aload_n hx hb dX7_isPlayed_119 rfl (lv_at hl 2 rfl) ?_
            refine lv_iload_n hx hb dX7_isPlayed_120 rfl (lv_at hl 1 rfl) ?_
            obtain ⟨⟨u35, I36⟩, e37, h⟩ := bd_o h hn
            replace h := pr_o h
            refine g_callVi (rest := []) K hW hl (kX7_turn (l := l) (G := G) (ad := ad) hok u2 I J u35 I36 e37) kLM_0 rfl (gG_V q_1517 q_1451 q_1452 q_139 q_1453) nm_X7_turn ⟨Nat.le_of_ble_eq_true rfl, Nat.le_of_ble_eq_true rfl⟩ rfl rfl (Nat.le_of_ble_eq_true rfl) ⟨Nat.zero_le _, Nat.zero_le _⟩ dX7_isPlayed_121 (fun z38 H locs hW => ?_)
            obtain ⟨a1, a2, a3⟩ := so3 h
            replace hW := gWd_nI a2 hW
            replace hW := gWd_nJ a3 hW
            exact g_nmi a1 (hfin _ _ _ _ (a1 ▸ z38) hW dX7_isPlayed_124)
          · replace h := gi_f h c34
            rcases Classical.em (u8 = (7 : Int32)) with c39 | c39
            · replace h := gi_t h c39
              refine g_tabIn (k := (7 : Int32)) (tgt := 125) (off := 101) hx hb c39 dX7_isPlayed_24 (by decide) (by decide) (by decide) (by decide) ?_
              refine lv_aload_n hx hb dX7_isPlayed_125 rfl (lv_at hl 2 rfl) ?_
              refine lv_iload_n hx hb dX7_isPlayed_126 rfl (lv_at hl 1 rfl) ?_
              obtain ⟨⟨u40, I41, J42⟩, e43, h⟩ := bd_o h hn
              replace h := pr_o h
              replace h := pr_o h
              refine g_callVi (rest := []) K hW hl (kX7_arePassed (l := l) (G := G) (ad := ad) hok u2 I J u40 I41 J42 e43) kLM_0 rfl (gG_V q_1474 q_1476 q_101 q_139 q_1477) nm_X7_arePassed ⟨Nat.le_of_ble_eq_true rfl, Nat.le_of_ble_eq_true rfl⟩ rfl rfl (Nat.le_of_ble_eq_true rfl) ⟨Nat.zero_le _, Nat.zero_le _⟩ dX7_isPlayed_127 (fun z44 H locs hW => ?_)
              obtain ⟨a1, a2, a3⟩ := so3 h
              replace hW := gWd_nI a2 hW
              replace hW := gWd_nJ a3 hW
              exact g_nmi a1 (hfin _ _ _ _ (a1 ▸ z44) hW dX7_isPlayed_130)
            · replace h := gi_f h c39
              refine lv_tableOut (tgt := 131) hx hb dX7_isPlayed_24 (by have := lv_neT (a := 2) c10 (by decide); have := lv_neT (a := 3) c16 (by decide); have := lv_neT (a := 4) c22 (by decide); have := lv_neT (a := 5) c29 (by decide); have := lv_neT (a := 6) c34 (by decide); have := lv_neT (a := 7) c39 (by decide); omega) (by decide) ?_
              refine lv_iconst (v := (1 : Int32)) hx hb dX7_isPlayed_131 (by decide) ?_
              obtain ⟨a1, a2, a3⟩ := so3 h
              replace hW := gWd_nI a2 hW
              replace hW := gWd_nJ a3 hW
              exact g_nmi a1 (hfin _ _ _ _ (a1 ▸ (Or.inr rfl)) hW dX7_isPlayed_132)
theorem nm_X7_isPlayed : gNm yX7_isPlayed 1 := by decide +kernel
noncomputable def fX7_played_21b  (rec : Int32 → Int32 → gI → gJ → Option ((Int32 × gI × gJ) ⊕ (gI × gJ))) (u3 : Int32) (u4 : Int32) (I : gI) (J : gJ) : Option ((Int32 × gI × gJ) ⊕ (gI × gJ)) :=
  gd (vp_in ((681 : Int32) * u3) 2724) (gi ((I 3 (((681 : Int32) * u3)).toNatClampNeg) ≤ u4)
 (some (Sum.inr (I, J)))
 (bd (fX7_isPlayed ((((681 : Int32) * u3) + (1 : Int32)) + ((3 : Int32) * u4)) I J) (pr (fun (u12 : Int32) => pr (fun (I13 : gI) (J14 : gJ) => gi (u12 = 0)
 (some (Sum.inl (u4, I13, J14)))
 (lz ((u4 + (1 : Int32))) (fun (u18 : Int32) => rec u3 u18 I13 J14)))))))
noncomputable def fX7_played_21  : Nat → Int32 → Int32 → gI → gJ → Option ((Int32 × gI × gJ) ⊕ (gI × gJ))
  | 0 => fun _ _ _ _ => none
  | n + 1 => fX7_played_21b  (fX7_played_21  n)
set_option maxHeartbeats 4000000 in
set_option maxRecDepth 100000 in
theorem tX7_played_21 {l : Launch} {G : gG} {ad : Nat → Nat} {p : Program} {e : Env} {s : State} {m : MethodId} {args : Array Value} {below : List Frame} {meth : Method} {c : Code} {Q : State → Prop} (hok : gInj LM ad) (K : gCx G (gA LM ad) p s m args c cX7_played 3 RX7)  : ∀ (n : Nat) (u3 : Int32) (u4 : Int32) (I : gI) (J : gJ) (out : Option ((Int32 × gI × gJ) ⊕ (gI × gJ))), fX7_played_21  n u3 u4 I J = out → out ≠ none → ∀ (H : Heap) (locs : List Loc), gWd G LM ad (gA LM ad) s.heap I J H locs → ∀ (ls : Array Slot), lv_has ls 3 [(0, .ref (ad 0)), (1, .int u3), (2, .int u4)] → (∀ (y5 : Int32) (I6 : gI) (J7 : gJ), some (Sum.inl (y5, I6, J7)) = out → ∀ (H : Heap) (locs : List Loc), gWd G LM ad (gA LM ad) s.heap I6 J7 H locs → ∀ (ls : Array Slot), lv_has ls 3 [(2, .int y5)] → W p l e (gRm 10) s m args below meth c H locs 0 0 Q (F0 m 53 ls [])) → (∀ (I8 : gI) (J9 : gJ), some (Sum.inr (I8, J9)) = out → ∀ (H : Heap) (locs : List Loc), gWd G LM ad (gA LM ad) s.heap I8 J9 H locs → ∀ (ls : Array Slot), lv_has ls 3 [] → W p l e (gRm 10) s m args below meth c H locs 0 0 Q (F0 m 61 ls [])) → W p l e (gRm 10) s m args below meth c H locs 0 0 Q (F0 m 21 ls []) := by
  have hx := K.1; have hb := K.2.1; have hown := K.2.2.2.1; have hts := K.2.2.2.2.1
  intro n
  induction n with
  | zero => intro u3 u4 I J out h hn; exact absurd h.symm hn
  | succ n ih =>
    intro u3 u4 I J out h hn H locs hW ls hl hx1 hx2
    replace h : fX7_played_21b  (fX7_played_21  n) u3 u4 I J = out := h
    unfold fX7_played_21b at h
    refine lv_iload_n hx hb dX7_played_21 rfl (lv_at hl 2 rfl) ?_
    refine lv_aload_n hx hb dX7_played_22 rfl (lv_at hl 0 rfl) ?_
    refine g_get K hW (t := 2) (ci := 6) (k := 2) (v := .ref (ad 3)) kLM_0 rfl rfl i_X7 (by decide) q_1079 rfl (gfv2 rLM_0_2) dX7_played_23 ?_
    refine lv_sipush (v := (681 : Int32)) hx hb dX7_played_26 (by decide) ?_
    refine lv_iload_n hx hb dX7_played_29 rfl (lv_at hl 1 rfl) ?_
    refine lv_imul hx hb dX7_played_30 ?_
    obtain ⟨g10, h⟩ := gd_o h hn
    refine g_iald K hW kLM_3 g10 rfl dX7_played_31 ?_
    refine lv_icmp_ge (tgt := 61) hx hb dX7_played_32 (by decide) (fun c11 => ?_) (fun c11 => ?_)
    · replace h := gi_t h c11
      exact hx2 I J h _ _ hW _ (lv_sub hl [] rfl)
    · replace h := gi_f h c11
      refine lv_aload_n hx hb dX7_played_35 rfl (lv_at hl 0 rfl) ?_
      refine lv_sipush (v := (681 : Int32)) hx hb dX7_played_36 (by decide) ?_
      refine lv_iload_n hx hb dX7_played_39 rfl (lv_at hl 1 rfl) ?_
      refine lv_imul hx hb dX7_played_40 ?_
      refine lv_iconst (v := (1 : Int32)) hx hb dX7_played_41 (by decide) ?_
      refine lv_iadd hx hb dX7_played_42 ?_
      refine lv_iconst (v := (3 : Int32)) hx hb dX7_played_43 (by decide) ?_
      refine lv_iload_n hx hb dX7_played_44 rfl (lv_at hl 2 rfl) ?_
      refine lv_imul hx hb dX7_played_45 ?_
      refine lv_iadd hx hb dX7_played_46 ?_
      obtain ⟨⟨u12, I13, J14⟩, e15, h⟩ := bd_o h hn
      replace h := pr_o h
      replace h := pr_o h
      refine g_callVi (rest := []) K hW hl (kX7_isPlayed (l := l) (G := G) (ad := ad) hok ((((681 : Int32) * u3) + (1 : Int32)) + ((3 : Int32) * u4)) I J u12 I13 J14 e15) kLM_0 rfl (gG_V q_1509 q_1511 q_108 q_139 q_1512) nm_X7_isPlayed ⟨Nat.le_of_ble_eq_true rfl, Nat.le_of_ble_eq_true rfl⟩ rfl rfl (Nat.le_of_ble_eq_true rfl) ⟨Nat.zero_le _, Nat.zero_le _⟩ dX7_played_47 (fun z16 H locs hW => ?_)
      refine lv_if_ne (tgt := 55) hx hb dX7_played_50 (by decide) (fun c17 => ?_) (fun c17 => ?_)
      · replace h := gi_f h c17
        obtain ⟨u18, e19, h⟩ := lz_o h
        refine lv_iinc (v := u18) (lv' := [(2, .int u18), (0, .ref (ad 0)), (1, .int u3)]) hx hb dX7_played_55 hl (k := 2) rfl (by rw [e19]; rfl) (by decide) rfl (fun ls hl => ?_)
        refine lv_goto (tgt := 21) hx hb dX7_played_58 (by decide) ?_
        exact ih u3 u18 I13 J14 _ h hn _ _ hW _ (lv_sub hl [1, 2, 0] rfl) hx1 hx2
      · replace h := gi_t h c17
        exact hx1 u4 I13 J14 h _ _ hW _ (lv_sub hl [2] rfl)
noncomputable def fX7_played  (x1 : Int32) (I : gI) (J : gJ) : Option (Int32 × gI × gJ) :=
  gi ((fX7_isIn x1 (0 : Int32) ((I 1 1) - (1 : Int32))) = 0)
 (some ((-2 : Int32), I, J))
 (bd (fX7_played_21 FU x1 (0 : Int32) I J) (sm (pr (fun (u22 : Int32) => (pr (fun (I23 : gI) (J24 : gJ) => some (u22, I23, J24))))) (pr (fun (I26 : gI) (J27 : gJ) => some ((-1 : Int32), I26, J27)))))
set_option maxHeartbeats 4000000 in
set_option maxRecDepth 100000 in
theorem kX7_played {l : Launch} {G : gG} {ad : Nat → Nat} (hok : gInj LM ad)    (x1 : Int32) (I : gI) (J : gJ) (r : Int32) (I' : gI) (J' : gJ) (h : fX7_played x1 I J = some (r, I', J')) : gMi l yX7_played cX7_played 3 (some .int) 10 G LM ad [.ref (ad 0), .int x1] I J r True I' J' := by
  refine gMi_of (lst := [(0, .ref (ad 0)), (1, .int x1)]) (by decide) hok (Nat.le_of_ble_eq_true rfl) rfl ?_
  intro p e s m args below meth c Q ls K hW hl hfin
  have hn : (some (r, I', J') : Option (Int32 × gI × gJ)) ≠ none := Option.some_ne_none _
  have hx := K.1; have hb := K.2.1; have hown := K.2.2.2.1; have hts := K.2.2.2.2.1
  unfold fX7_played at h
  refine lv_iload_n hx hb dX7_played_0 rfl (lv_at hl 1 rfl) ?_
  refine lv_iconst (v := (0 : Int32)) hx hb dX7_played_1 (by decide) ?_
  refine lv_aload_n hx hb dX7_played_2 rfl (lv_at hl 0 rfl) ?_
  refine g_get K hW (t := 2) (ci := 6) (k := 0) (v := .ref (ad 1)) kLM_0 rfl rfl i_X7 (by decide) q_1077 rfl (gfv2 rLM_0_0) dX7_played_3 ?_
  refine lv_iconst (v := (1 : Int32)) hx hb dX7_played_6 (by decide) ?_
  refine g_iald K hW kLM_1 in_1_1592 tn_1 dX7_played_7 ?_
  refine lv_iconst (v := (1 : Int32)) hx hb dX7_played_8 (by decide) ?_
  refine lv_isub hx hb dX7_played_9 ?_
  refine g_callSi (rest := []) K hW hl (kX7_isIn (l := l) (G := G) (ad := ad) hok x1 (0 : Int32) ((I 1 1) - (1 : Int32)) I J (fX7_isIn x1 (0 : Int32) ((I 1 1) - (1 : Int32))) rfl) q_1171 q_1172 q_139 q_1173 nm_X7_isIn ⟨Nat.le_of_ble_eq_true rfl, Nat.le_of_ble_eq_true rfl⟩ rfl rfl (Nat.le_of_ble_eq_true rfl) ⟨Nat.zero_le _, Nat.zero_le _⟩ dX7_played_10 (fun z1 H locs hW => ?_)
  refine lv_if_ne (tgt := 19) hx hb dX7_played_13 (by decide) (fun c2 => ?_) (fun c2 => ?_)
  · replace h := gi_f h c2
    refine lv_iconst (v := (0 : Int32)) hx hb dX7_played_19 (by decide) ?_
    refine lv_istore_n (lv' := [(2, .int (0 : Int32)), (0, .ref (ad 0)), (1, .int x1)]) hx hb dX7_played_20 rfl hl (by decide) rfl (fun ls hl => ?_)
    obtain ⟨r20, e21, h⟩ := bd_o h hn
    refine tX7_played_21 hok K FU x1 (0 : Int32) I J (some r20) e21 (Option.some_ne_none _) _ _ hW _ (lv_sub hl [1, 2, 0] rfl) ?_ ?_
    · intro u22 I23 J24 q25 H locs hW ls hl
      replace q25 := Option.some.inj q25
      subst q25
      replace h := sm_l h
      replace h := pr_o h
      replace h := pr_o h
      refine lv_iload_n hx hb dX7_played_53 rfl (lv_at hl 0 rfl) ?_
      obtain ⟨a1, a2, a3⟩ := so3 h
      replace hW := gWd_nI a2 hW
      replace hW := gWd_nJ a3 hW
      exact g_nmi a1 (hfin _ _ _ _ hW dX7_played_54)
    · intro I26 J27 q28 H locs hW ls hl
      replace q28 := Option.some.inj q28
      subst q28
      replace h := sm_r h
      replace h := pr_o h
      refine lv_iconst (v := (-1 : Int32)) hx hb dX7_played_61 (by decide) ?_
      obtain ⟨a1, a2, a3⟩ := so3 h
      replace hW := gWd_nI a2 hW
      replace hW := gWd_nJ a3 hW
      exact g_nmi a1 (hfin _ _ _ _ hW dX7_played_62)
  · replace h := gi_t h c2
    refine lv_bipush (v := (-2 : Int32)) hx hb dX7_played_16 (by decide) ?_
    obtain ⟨a1, a2, a3⟩ := so3 h
    replace hW := gWd_nI a2 hW
    replace hW := gWd_nJ a3 hW
    exact g_nmi a1 (hfin _ _ _ _ hW dX7_played_18)
noncomputable def fX7_happens  (x1 : Int32) (I : gI) (J : gJ) : Option (gI × gJ) :=
  lz ((jrem (x1 / (6 : Int32)) (6 : Int32))) (fun (u1 : Int32) => lz ((jrem x1 (6 : Int32))) (fun (u3 : Int32) => gi (u3 = (0 : Int32))
 (bd (fX7_canSell u1 I J) (pr (fun (u6 : Int32) => pr (fun (I7 : gI) (J8 : gJ) => gi (u6 = 0)
 (some (I7, J8))
 (bd (fX7_sellNow u1 I7 J8) (pr (fun (u12 : Int32) => pr (fun (I13 : gI) (J14 : gJ) => some (I13, J14)))))))))
 (gi (u3 = (1 : Int32))
 (bd (fX7_canSell u1 I J) (pr (fun (u18 : Int32) => pr (fun (I19 : gI) (J20 : gJ) => gi (u18 = 0)
 (some (I19, J20))
 (bd (fX7_sellNow u1 I19 J20) (pr (fun (u24 : Int32) => pr (fun (I25 : gI) (J26 : gJ) => some (I25, J26)))))))))
 (gi (u3 = (2 : Int32))
 (gi ((jrem (x1 / (6 : Int32)) (3 : Int32)) = (1 : Int32))
 (bd (fX7_canGive (jrem x1 (12 : Int32)) I) (fun (u31 : Int32) => gi (u31 = 0)
 (some (I, J))
 (bd (fX7_giveNow (jrem x1 (12 : Int32)) I) (fun (I35 : gI) => some (I35, J)))))
 (some (I, J)))
 (gi (u3 = (3 : Int32))
 (gi ((jrem x1 (4 : Int32)) = (3 : Int32))
 (bd (fX7_canTurn u1 I) (fun (u40 : Int32) => gi (u40 = 0)
 (some (I, J))
 (bd (fX7_turnNow u1 I) (fun (I44 : gI) => some (I44, J)))))
 (some (I, J)))
 (gi ((9999 : Int32) ≤ (I 1 6))
 (some (I, J))
 (bd (fX7_passDay I J) (pr (fun (I48 : gI) (J49 : gJ) => some (I48, J49))))))))))
set_option maxHeartbeats 4000000 in
set_option maxRecDepth 100000 in
theorem kX7_happens {l : Launch} {G : gG} {ad : Nat → Nat} (hok : gInj LM ad)    (x1 : Int32) (I : gI) (J : gJ) (I' : gI) (J' : gJ) (h : fX7_happens x1 I J = some (I', J')) : gMv l yX7_happens cX7_happens 3 none 8 G LM ad [.ref (ad 0), .int x1] I J I' J' := by
  refine gMv_of (lst := [(0, .ref (ad 0)), (1, .int x1)]) (by decide) hok (Nat.le_of_ble_eq_true rfl) rfl ?_
  intro p e s m args below meth c Q ls K hW hl hfin
  have hn : (some (I', J') : Option (gI × gJ)) ≠ none := Option.some_ne_none _
  have hx := K.1; have hb := K.2.1; have hown := K.2.2.2.1; have hts := K.2.2.2.2.1
  unfold fX7_happens at h
  refine lv_iload_n hx hb dX7_happens_0 rfl (lv_at hl 1 rfl) ?_
  refine lv_bipush (v := (6 : Int32)) hx hb dX7_happens_1 (by decide) ?_
  refine lv_idiv hx hb dX7_happens_3 (by decide) ?_
  refine lv_bipush (v := (6 : Int32)) hx hb dX7_happens_4 (by decide) ?_
  refine g_irem hx hb dX7_happens_6 (by decide) ?_
  obtain ⟨u1, e2, h⟩ := lz_o h
  refine g_nmi e2 ?_
  refine lv_istore_n (lv' := [(2, .int u1), (0, .ref (ad 0)), (1, .int x1)]) hx hb dX7_happens_7 rfl hl (by decide) rfl (fun ls hl => ?_)
  refine lv_iload_n hx hb dX7_happens_8 rfl (lv_at hl 2 rfl) ?_
  refine lv_bipush (v := (6 : Int32)) hx hb dX7_happens_9 (by decide) ?_
  refine g_irem hx hb dX7_happens_11 (by decide) ?_
  obtain ⟨u3, e4, h⟩ := lz_o h
  refine g_nmi e4 ?_
  rcases Classical.em (u3 = (0 : Int32)) with c5 | c5
  · replace h := gi_t h c5
    refine g_tabIn (k := (0 : Int32)) (tgt := 44) (off := 32) hx hb c5 dX7_happens_12 (by decide) (by decide) (by decide) (by decide) ?_
    refine lv_aload_n hx hb dX7_happens_44 rfl (lv_at hl 1 rfl) ?_
    refine lv_iload_n hx hb dX7_happens_45 rfl (lv_at hl 0 rfl) ?_
    obtain ⟨⟨u6, I7, J8⟩, e9, h⟩ := bd_o h hn
    replace h := pr_o h
    replace h := pr_o h
    refine g_callVi (rest := []) K hW hl (kX7_canSell (l := l) (G := G) (ad := ad) hok u1 I J u6 I7 J8 e9) kLM_0 rfl (gG_V q_1346 q_1348 q_79 q_139 q_1349) nm_X7_canSell ⟨Nat.le_of_ble_eq_true rfl, Nat.le_of_ble_eq_true rfl⟩ rfl rfl (Nat.le_of_ble_eq_true rfl) ⟨Nat.zero_le _, Nat.zero_le _⟩ dX7_happens_46 (fun z10 H locs hW => ?_)
    refine lv_if_eq (tgt := 133) hx hb dX7_happens_49 (by decide) (fun c11 => ?_) (fun c11 => ?_)
    · replace h := gi_t h c11
      obtain ⟨a1, a2⟩ := so2 h
      replace hW := gWd_nI a1 hW
      replace hW := gWd_nJ a2 hW
      exact hfin _ _ _ _ hW dX7_happens_133
    · replace h := gi_f h c11
      refine lv_aload_n hx hb dX7_happens_52 rfl (lv_at hl 1 rfl) ?_
      refine lv_iload_n hx hb dX7_happens_53 rfl (lv_at hl 0 rfl) ?_
      obtain ⟨⟨u12, I13, J14⟩, e15, h⟩ := bd_o h hn
      replace h := pr_o h
      replace h := pr_o h
      refine g_callVi (rest := []) K hW hl (kX7_sellNow (l := l) (G := G) (ad := ad) hok u1 I7 J8 u12 I13 J14 e15) kLM_0 rfl (gG_V q_1427 q_1429 q_94 q_139 q_1430) nm_X7_sellNow ⟨Nat.le_of_ble_eq_true rfl, Nat.le_of_ble_eq_true rfl⟩ rfl rfl (Nat.le_of_ble_eq_true rfl) ⟨Nat.zero_le _, Nat.zero_le _⟩ dX7_happens_54 (fun z16 H locs hW => ?_)
      refine lv_pop hx hb dX7_happens_57 rfl ?_
      refine lv_goto (tgt := 133) hx hb dX7_happens_58 (by decide) ?_
      obtain ⟨a1, a2⟩ := so2 h
      replace hW := gWd_nI a1 hW
      replace hW := gWd_nJ a2 hW
      exact hfin _ _ _ _ hW dX7_happens_133
  · replace h := gi_f h c5
    rcases Classical.em (u3 = (1 : Int32)) with c17 | c17
    · replace h := gi_t h c17
      refine g_tabIn (k := (1 : Int32)) (tgt := 44) (off := 32) hx hb c17 dX7_happens_12 (by decide) (by decide) (by decide) (by decide) ?_
      refine lv_aload_n hx hb dX7_happens_44 rfl (lv_at hl 1 rfl) ?_
      refine lv_iload_n hx hb dX7_happens_45 rfl (lv_at hl 0 rfl) ?_
      obtain ⟨⟨u18, I19, J20⟩, e21, h⟩ := bd_o h hn
      replace h := pr_o h
      replace h := pr_o h
      refine g_callVi (rest := []) K hW hl (kX7_canSell (l := l) (G := G) (ad := ad) hok u1 I J u18 I19 J20 e21) kLM_0 rfl (gG_V q_1346 q_1348 q_79 q_139 q_1349) nm_X7_canSell ⟨Nat.le_of_ble_eq_true rfl, Nat.le_of_ble_eq_true rfl⟩ rfl rfl (Nat.le_of_ble_eq_true rfl) ⟨Nat.zero_le _, Nat.zero_le _⟩ dX7_happens_46 (fun z22 H locs hW => ?_)
      refine lv_if_eq (tgt := 133) hx hb dX7_happens_49 (by decide) (fun c23 => ?_) (fun c23 => ?_)
      · replace h := gi_t h c23
        obtain ⟨a1, a2⟩ := so2 h
        replace hW := gWd_nI a1 hW
        replace hW := gWd_nJ a2 hW
        exact hfin _ _ _ _ hW dX7_happens_133
      · replace h := gi_f h c23
        refine lv_aload_n hx hb dX7_happens_52 rfl (lv_at hl 1 rfl) ?_
        refine lv_iload_n hx hb dX7_happens_53 rfl (lv_at hl 0 rfl) ?_
        obtain ⟨⟨u24, I25, J26⟩, e27, h⟩ := bd_o h hn
        replace h := pr_o h
        replace h := pr_o h
        refine g_callVi (rest := []) K hW hl (kX7_sellNow (l := l) (G := G) (ad := ad) hok u1 I19 J20 u24 I25 J26 e27) kLM_0 rfl (gG_V q_1427 q_1429 q_94 q_139 q_1430) nm_X7_sellNow ⟨Nat.le_of_ble_eq_true rfl, Nat.le_of_ble_eq_true rfl⟩ rfl rfl (Nat.le_of_ble_eq_true rfl) ⟨Nat.zero_le _, Nat.zero_le _⟩ dX7_happens_54 (fun z28 H locs hW => ?_)
        refine lv_pop hx hb dX7_happens_57 rfl ?_
        refine lv_goto (tgt := 133) hx hb dX7_happens_58 (by decide) ?_
        obtain ⟨a1, a2⟩ := so2 h
        replace hW := gWd_nI a1 hW
        replace hW := gWd_nJ a2 hW
        exact hfin _ _ _ _ hW dX7_happens_133
    · replace h := gi_f h c17
      rcases Classical.em (u3 = (2 : Int32)) with c29 | c29
      · replace h := gi_t h c29
        refine g_tabIn (k := (2 : Int32)) (tgt := 61) (off := 49) hx hb c29 dX7_happens_12 (by decide) (by decide) (by decide) (by decide) ?_
        refine lv_iload_n hx hb dX7_happens_61 rfl (lv_at hl 2 rfl) ?_
        refine lv_bipush (v := (6 : Int32)) hx hb dX7_happens_62 (by decide) ?_
        refine lv_idiv hx hb dX7_happens_64 (by decide) ?_
        refine lv_iconst (v := (3 : Int32)) hx hb dX7_happens_65 (by decide) ?_
        refine g_irem hx hb dX7_happens_66 (by decide) ?_
        refine lv_iconst (v := (1 : Int32)) hx hb dX7_happens_67 (by decide) ?_
        refine lv_icmp_ne (tgt := 133) hx hb dX7_happens_68 (by decide) (fun c30 => ?_) (fun c30 => ?_)
        · replace h := gi_f h c30
          obtain ⟨a1, a2⟩ := so2 h
          replace hW := gWd_nI a1 hW
          replace hW := gWd_nJ a2 hW
          exact hfin _ _ _ _ hW dX7_happens_133
        · replace h := gi_t h c30
          refine lv_aload_n hx hb dX7_happens_71 rfl (lv_at hl 1 rfl) ?_
          refine lv_iload_n hx hb dX7_happens_72 rfl (lv_at hl 2 rfl) ?_
          refine lv_bipush (v := (12 : Int32)) hx hb dX7_happens_73 (by decide) ?_
          refine g_irem hx hb dX7_happens_75 (by decide) ?_
          obtain ⟨u31, e32, h⟩ := bd_o h hn
          refine g_callVi (rest := []) K hW hl (kX7_canGive (l := l) (G := G) (ad := ad) hok (jrem x1 (12 : Int32)) I J u31 e32) kLM_0 rfl (gG_V q_1439 q_1441 q_96 q_139 q_1442) nm_X7_canGive ⟨Nat.le_of_ble_eq_true rfl, Nat.le_of_ble_eq_true rfl⟩ rfl rfl (Nat.le_of_ble_eq_true rfl) ⟨Nat.zero_le _, Nat.zero_le _⟩ dX7_happens_76 (fun z33 H locs hW => ?_)
          refine lv_if_eq (tgt := 133) hx hb dX7_happens_79 (by decide) (fun c34 => ?_) (fun c34 => ?_)
          · replace h := gi_t h c34
            obtain ⟨a1, a2⟩ := so2 h
            replace hW := gWd_nI a1 hW
            replace hW := gWd_nJ a2 hW
            exact hfin _ _ _ _ hW dX7_happens_133
          · replace h := gi_f h c34
            refine lv_aload_n hx hb dX7_happens_82 rfl (lv_at hl 1 rfl) ?_
            refine lv_iload_n hx hb dX7_happens_83 rfl (lv_at hl 2 rfl) ?_
            refine lv_bipush (v := (12 : Int32)) hx hb dX7_happens_84 (by decide) ?_
            refine g_irem hx hb dX7_happens_86 (by decide) ?_
            obtain ⟨I35, e36, h⟩ := bd_o h hn
            refine g_callVv (rest := []) K hW hl (kX7_giveNow (l := l) (G := G) (ad := ad) hok (jrem x1 (12 : Int32)) I J I35 e36) kLM_0 rfl (gG_V q_1446 q_1448 q_97 q_139 q_1449) nm_X7_giveNow ⟨Nat.le_of_ble_eq_true rfl, Nat.le_of_ble_eq_true rfl⟩ rfl rfl (Nat.le_of_ble_eq_true rfl) ⟨Nat.zero_le _, Nat.zero_le _⟩ dX7_happens_87 (fun H locs hW => ?_)
            refine lv_goto (tgt := 133) hx hb dX7_happens_90 (by decide) ?_
            obtain ⟨a1, a2⟩ := so2 h
            replace hW := gWd_nI a1 hW
            replace hW := gWd_nJ a2 hW
            exact hfin _ _ _ _ hW dX7_happens_133
      · replace h := gi_f h c29
        rcases Classical.em (u3 = (3 : Int32)) with c38 | c38
        · replace h := gi_t h c38
          refine g_tabIn (k := (3 : Int32)) (tgt := 93) (off := 81) hx hb c38 dX7_happens_12 (by decide) (by decide) (by decide) (by decide) ?_
          refine lv_iload_n hx hb dX7_happens_93 rfl (lv_at hl 2 rfl) ?_
          refine lv_iconst (v := (4 : Int32)) hx hb dX7_happens_94 (by decide) ?_
          refine g_irem hx hb dX7_happens_95 (by decide) ?_
          refine lv_iconst (v := (3 : Int32)) hx hb dX7_happens_96 (by decide) ?_
          refine lv_icmp_ne (tgt := 133) hx hb dX7_happens_97 (by decide) (fun c39 => ?_) (fun c39 => ?_)
          · replace h := gi_f h c39
            obtain ⟨a1, a2⟩ := so2 h
            replace hW := gWd_nI a1 hW
            replace hW := gWd_nJ a2 hW
            exact hfin _ _ _ _ hW dX7_happens_133
          · replace h := gi_t h c39
            refine lv_aload_n hx hb dX7_happens_100 rfl (lv_at hl 1 rfl) ?_
            refine lv_iload_n hx hb dX7_happens_101 rfl (lv_at hl 0 rfl) ?_
            obtain ⟨u40, e41, h⟩ := bd_o h hn
            refine g_callVi (rest := []) K hW hl (kX7_canTurn (l := l) (G := G) (ad := ad) hok u1 I J u40 e41) kLM_0 rfl (gG_V q_1454 q_1456 q_98 q_139 q_1457) nm_X7_canTurn ⟨Nat.le_of_ble_eq_true rfl, Nat.le_of_ble_eq_true rfl⟩ rfl rfl (Nat.le_of_ble_eq_true rfl) ⟨Nat.zero_le _, Nat.zero_le _⟩ dX7_happens_102 (fun z42 H locs hW => ?_)
            refine lv_if_eq (tgt := 133) hx hb dX7_happens_105 (by decide) (fun c43 => ?_) (fun c43 => ?_)
            · replace h := gi_t h c43
              obtain ⟨a1, a2⟩ := so2 h
              replace hW := gWd_nI a1 hW
              replace hW := gWd_nJ a2 hW
              exact hfin _ _ _ _ hW dX7_happens_133
            · replace h := gi_f h c43
              refine lv_aload_n hx hb dX7_happens_108 rfl (lv_at hl 1 rfl) ?_
              refine lv_iload_n hx hb dX7_happens_109 rfl (lv_at hl 0 rfl) ?_
              obtain ⟨I44, e45, h⟩ := bd_o h hn
              refine g_callVv (rest := []) K hW hl (kX7_turnNow (l := l) (G := G) (ad := ad) hok u1 I J I44 e45) kLM_0 rfl (gG_V q_1458 q_1460 q_99 q_139 q_1461) nm_X7_turnNow ⟨Nat.le_of_ble_eq_true rfl, Nat.le_of_ble_eq_true rfl⟩ rfl rfl (Nat.le_of_ble_eq_true rfl) ⟨Nat.zero_le _, Nat.zero_le _⟩ dX7_happens_110 (fun H locs hW => ?_)
              refine lv_goto (tgt := 133) hx hb dX7_happens_113 (by decide) ?_
              obtain ⟨a1, a2⟩ := so2 h
              replace hW := gWd_nI a1 hW
              replace hW := gWd_nJ a2 hW
              exact hfin _ _ _ _ hW dX7_happens_133
        · replace h := gi_f h c38
          refine lv_tableOut (tgt := 116) hx hb dX7_happens_12 (by have := lv_neT (a := 0) c5 (by decide); have := lv_neT (a := 1) c17 (by decide); have := lv_neT (a := 2) c29 (by decide); have := lv_neT (a := 3) c38 (by decide); omega) (by decide) ?_
          refine lv_aload_n hx hb dX7_happens_116 rfl (lv_at hl 1 rfl) ?_
          refine g_get K hW (t := 2) (ci := 6) (k := 0) (v := .ref (ad 1)) kLM_0 rfl rfl i_X7 (by decide) q_1077 rfl (gfv2 rLM_0_0) dX7_happens_117 ?_
          refine lv_bipush (v := (6 : Int32)) hx hb dX7_happens_120 (by decide) ?_
          refine g_iald K hW kLM_1 in_6_1592 tn_6 dX7_happens_122 ?_
          refine lv_sipush (v := (9999 : Int32)) hx hb dX7_happens_123 (by decide) ?_
          refine lv_icmp_ge (tgt := 133) hx hb dX7_happens_126 (by decide) (fun c47 => ?_) (fun c47 => ?_)
          · replace h := gi_t h c47
            obtain ⟨a1, a2⟩ := so2 h
            replace hW := gWd_nI a1 hW
            replace hW := gWd_nJ a2 hW
            exact hfin _ _ _ _ hW dX7_happens_133
          · replace h := gi_f h c47
            refine lv_aload_n hx hb dX7_happens_129 rfl (lv_at hl 1 rfl) ?_
            obtain ⟨⟨I48, J49⟩, e50, h⟩ := bd_o h hn
            replace h := pr_o h
            refine g_callVv (rest := []) K hW hl (kX7_passDay (l := l) (G := G) (ad := ad) hok I J I48 J49 e50) kLM_0 rfl (gG_V q_1478 q_1480 q_102 q_139 q_1481) nm_X7_passDay ⟨Nat.le_of_ble_eq_true rfl, Nat.le_of_ble_eq_true rfl⟩ rfl rfl (Nat.le_of_ble_eq_true rfl) ⟨Nat.zero_le _, Nat.zero_le _⟩ dX7_happens_130 (fun H locs hW => ?_)
            obtain ⟨a1, a2⟩ := so2 h
            replace hW := gWd_nI a1 hW
            replace hW := gWd_nJ a2 hW
            exact hfin _ _ _ _ hW dX7_happens_133
theorem nm_X7_happens : gNm yX7_happens 1 := by decide +kernel
noncomputable def fX7_years_43b  (rec : Int32 → Int32 → gI → gJ → Option ((gI × gJ))) (u10 : Int32) (u11 : Int32) (I : gI) (J : gJ) : Option ((gI × gJ)) :=
  gi (u10 ≤ u11)
 (some (I, J))
 (lz ((I 1 7)) (fun (u15 : Int32) => lz (fX7_anew I) (fun (I17 : gI) => bd (fX7_happens u15 I17 J) (pr (fun (I20 : gI) (J21 : gJ) => lz ((u11 + (1 : Int32))) (fun (u24 : Int32) => rec u10 u24 I20 J21))))))
noncomputable def fX7_years_43  : Nat → Int32 → Int32 → gI → gJ → Option ((gI × gJ))
  | 0 => fun _ _ _ _ => none
  | n + 1 => fX7_years_43b  (fX7_years_43  n)
set_option maxHeartbeats 4000000 in
set_option maxRecDepth 100000 in
theorem tX7_years_43 {l : Launch} {G : gG} {ad : Nat → Nat} {p : Program} {e : Env} {s : State} {m : MethodId} {args : Array Value} {below : List Frame} {meth : Method} {c : Code} {Q : State → Prop} (hok : gInj LM ad) (K : gCx G (gA LM ad) p s m args c cX7_years 5 RX7)  : ∀ (n : Nat) (u10 : Int32) (u11 : Int32) (I : gI) (J : gJ) (out : Option ((gI × gJ))), fX7_years_43  n u10 u11 I J = out → out ≠ none → ∀ (H : Heap) (locs : List Loc), gWd G LM ad (gA LM ad) s.heap I J H locs → ∀ (ls : Array Slot), lv_has ls 5 [(0, .ref (ad 0)), (2, .int u10), (3, .int u11)] → (∀ (I12 : gI) (J13 : gJ), some (I12, J13) = out → ∀ (H : Heap) (locs : List Loc), gWd G LM ad (gA LM ad) s.heap I12 J13 H locs → ∀ (ls : Array Slot), lv_has ls 5 [(0, .ref (ad 0))] → W p l e (gRm 9) s m args below meth c H locs 0 0 Q (F0 m 73 ls [])) → W p l e (gRm 9) s m args below meth c H locs 0 0 Q (F0 m 43 ls []) := by
  have hx := K.1; have hb := K.2.1; have hown := K.2.2.2.1; have hts := K.2.2.2.2.1
  intro n
  induction n with
  | zero => intro u10 u11 I J out h hn; exact absurd h.symm hn
  | succ n ih =>
    intro u10 u11 I J out h hn H locs hW ls hl hx1
    replace h : fX7_years_43b  (fX7_years_43  n) u10 u11 I J = out := h
    unfold fX7_years_43b at h
    refine lv_iload_n hx hb dX7_years_43 rfl (lv_at hl 2 rfl) ?_
    refine lv_iload_n hx hb dX7_years_44 rfl (lv_at hl 1 rfl) ?_
    refine lv_icmp_ge (tgt := 73) hx hb dX7_years_45 (by decide) (fun c14 => ?_) (fun c14 => ?_)
    · replace h := gi_t h c14
      exact hx1 I J h _ _ hW _ (lv_sub hl [0] rfl)
    · replace h := gi_f h c14
      refine lv_aload_n hx hb dX7_years_48 rfl (lv_at hl 0 rfl) ?_
      refine g_get K hW (t := 2) (ci := 6) (k := 0) (v := .ref (ad 1)) kLM_0 rfl rfl i_X7 (by decide) q_1077 rfl (gfv2 rLM_0_0) dX7_years_49 ?_
      refine lv_bipush (v := (7 : Int32)) hx hb dX7_years_52 (by decide) ?_
      refine g_iald K hW kLM_1 in_7_1592 tn_7 dX7_years_54 ?_
      obtain ⟨u15, e16, h⟩ := lz_o h
      refine g_nmi e16 ?_
      refine lv_istore (lv' := [(4, .int u15), (0, .ref (ad 0)), (2, .int u10), (3, .int u11)]) hx hb dX7_years_55 hl (by decide) rfl (fun ls hl => ?_)
      refine lv_aload_n hx hb dX7_years_57 rfl (lv_at hl 1 rfl) ?_
      obtain ⟨I17, e18, h⟩ := lz_o h
      refine g_callVv (rest := []) K hW hl (kX7_anew (l := l) (G := G) (ad := ad) hok I J I17 e18.symm) kLM_0 rfl (gG_V q_1498 q_1500 q_107 q_139 q_1501) nm_X7_anew ⟨Nat.le_of_ble_eq_true rfl, Nat.le_of_ble_eq_true rfl⟩ rfl rfl (Nat.le_of_ble_eq_true rfl) ⟨Nat.zero_le _, Nat.zero_le _⟩ dX7_years_58 (fun H locs hW => ?_)
      refine lv_aload_n hx hb dX7_years_61 rfl (lv_at hl 1 rfl) ?_
      refine lv_iload hx hb dX7_years_62 (lv_at hl 0 rfl) ?_
      obtain ⟨⟨I20, J21⟩, e22, h⟩ := bd_o h hn
      replace h := pr_o h
      refine g_callVv (rest := []) K hW hl (kX7_happens (l := l) (G := G) (ad := ad) hok u15 I17 J I20 J21 e22) kLM_0 rfl (gG_V q_1522 q_1524 q_109 q_139 q_1525) nm_X7_happens ⟨Nat.le_of_ble_eq_true rfl, Nat.le_of_ble_eq_true rfl⟩ rfl rfl (Nat.le_of_ble_eq_true rfl) ⟨Nat.zero_le _, Nat.zero_le _⟩ dX7_years_64 (fun H locs hW => ?_)
      obtain ⟨u24, e25, h⟩ := lz_o h
      refine lv_iinc (v := u24) (lv' := [(3, .int u24), (4, .int u15), (0, .ref (ad 0)), (2, .int u10)]) hx hb dX7_years_67 hl (k := 3) rfl (by rw [e25]; rfl) (by decide) rfl (fun ls hl => ?_)
      refine lv_goto (tgt := 43) hx hb dX7_years_70 (by decide) ?_
      exact ih u10 u24 I20 J21 _ h hn _ _ hW _ (lv_sub hl [2, 3, 0] rfl) hx1
noncomputable def fX7_years  (x1 : Int32) (x2 : Int32) (I : gI) (J : gJ) : Option (Int32 × gI × gJ) :=
  gi ((fX7_isIn x1 (0 : Int32) (9999 : Int32)) = 0)
 (some ((-1 : Int32), I, J))
 (gi ((fX7_isIn x2 (1 : Int32) (40 : Int32)) = 0)
 (some ((-1 : Int32), I, J))
 (bd (fX7_keepStep I) (fun (I5 : gI) => lz (wI I5 1 7 ((x1 * (2 : Int32)) + (457 : Int32))) (fun (I9 : gI) => bd (fX7_years_43 FU x2 (0 : Int32) I9 J) (pr (fun (I28 : gI) (J29 : gJ) => some ((I28 1 6), I28, J29)))))))
set_option maxHeartbeats 4000000 in
set_option maxRecDepth 100000 in
theorem kX7_years {l : Launch} {G : gG} {ad : Nat → Nat} (hok : gInj LM ad)    (x1 : Int32) (x2 : Int32) (I : gI) (J : gJ) (r : Int32) (I' : gI) (J' : gJ) (h : fX7_years x1 x2 I J = some (r, I', J')) : gMi l yX7_years cX7_years 5 (some .int) 9 G LM ad [.ref (ad 0), .int x1, .int x2] I J r True I' J' := by
  refine gMi_of (lst := [(0, .ref (ad 0)), (1, .int x1), (2, .int x2)]) (by decide) hok (Nat.le_of_ble_eq_true rfl) rfl ?_
  intro p e s m args below meth c Q ls K hW hl hfin
  have hn : (some (r, I', J') : Option (Int32 × gI × gJ)) ≠ none := Option.some_ne_none _
  have hx := K.1; have hb := K.2.1; have hown := K.2.2.2.1; have hts := K.2.2.2.2.1
  unfold fX7_years at h
  refine lv_iload_n hx hb dX7_years_0 rfl (lv_at hl 1 rfl) ?_
  refine lv_iconst (v := (0 : Int32)) hx hb dX7_years_1 (by decide) ?_
  refine lv_sipush (v := (9999 : Int32)) hx hb dX7_years_2 (by decide) ?_
  refine g_callSi (rest := []) K hW hl (kX7_isIn (l := l) (G := G) (ad := ad) hok x1 (0 : Int32) (9999 : Int32) I J (fX7_isIn x1 (0 : Int32) (9999 : Int32)) rfl) q_1171 q_1172 q_139 q_1173 nm_X7_isIn ⟨Nat.le_of_ble_eq_true rfl, Nat.le_of_ble_eq_true rfl⟩ rfl rfl (Nat.le_of_ble_eq_true rfl) ⟨Nat.zero_le _, Nat.zero_le _⟩ dX7_years_5 (fun z1 H locs hW => ?_)
  refine lv_if_eq (tgt := 21) hx hb dX7_years_8 (by decide) (fun c2 => ?_) (fun c2 => ?_)
  · replace h := gi_t h c2
    refine lv_iconst (v := (-1 : Int32)) hx hb dX7_years_21 (by decide) ?_
    obtain ⟨a1, a2, a3⟩ := so3 h
    replace hW := gWd_nI a2 hW
    replace hW := gWd_nJ a3 hW
    exact g_nmi a1 (hfin _ _ _ _ hW dX7_years_22)
  · replace h := gi_f h c2
    refine lv_iload_n hx hb dX7_years_11 rfl (lv_at hl 2 rfl) ?_
    refine lv_iconst (v := (1 : Int32)) hx hb dX7_years_12 (by decide) ?_
    refine lv_bipush (v := (40 : Int32)) hx hb dX7_years_13 (by decide) ?_
    refine g_callSi (rest := []) K hW hl (kX7_isIn (l := l) (G := G) (ad := ad) hok x2 (1 : Int32) (40 : Int32) I J (fX7_isIn x2 (1 : Int32) (40 : Int32)) rfl) q_1171 q_1172 q_139 q_1173 nm_X7_isIn ⟨Nat.le_of_ble_eq_true rfl, Nat.le_of_ble_eq_true rfl⟩ rfl rfl (Nat.le_of_ble_eq_true rfl) ⟨Nat.zero_le _, Nat.zero_le _⟩ dX7_years_15 (fun z3 H locs hW => ?_)
    refine lv_if_ne (tgt := 23) hx hb dX7_years_18 (by decide) (fun c4 => ?_) (fun c4 => ?_)
    · replace h := gi_f h c4
      refine lv_aload_n hx hb dX7_years_23 rfl (lv_at hl 0 rfl) ?_
      obtain ⟨I5, e6, h⟩ := bd_o h hn
      refine g_callVv (rest := []) K hW hl (kX7_keepStep (l := l) (G := G) (ad := ad) hok I J I5 e6) kLM_0 rfl (gG_V q_1423 q_1425 q_93 q_139 q_1426) nm_X7_keepStep ⟨Nat.le_of_ble_eq_true rfl, Nat.le_of_ble_eq_true rfl⟩ rfl rfl (Nat.le_of_ble_eq_true rfl) ⟨Nat.zero_le _, Nat.zero_le _⟩ dX7_years_24 (fun H locs hW => ?_)
      refine lv_aload_n hx hb dX7_years_27 rfl (lv_at hl 0 rfl) ?_
      refine g_get K hW (t := 2) (ci := 6) (k := 0) (v := .ref (ad 1)) kLM_0 rfl rfl i_X7 (by decide) q_1077 rfl (gfv2 rLM_0_0) dX7_years_28 ?_
      refine lv_bipush (v := (7 : Int32)) hx hb dX7_years_31 (by decide) ?_
      refine lv_iload_n hx hb dX7_years_33 rfl (lv_at hl 1 rfl) ?_
      refine lv_iconst (v := (2 : Int32)) hx hb dX7_years_34 (by decide) ?_
      refine lv_imul hx hb dX7_years_35 ?_
      refine lv_sipush (v := (457 : Int32)) hx hb dX7_years_36 (by decide) ?_
      refine lv_iadd hx hb dX7_years_39 ?_
      refine g_iast K hW kLM_1 in_7_1592 tn_7 dX7_years_40 (fun H locs hW => ?_)
      obtain ⟨I9, e8, h⟩ := lz_o h
      replace hW := gWd_nI e8 hW
      refine lv_iconst (v := (0 : Int32)) hx hb dX7_years_41 (by decide) ?_
      refine lv_istore_n (lv' := [(3, .int (0 : Int32)), (0, .ref (ad 0)), (1, .int x1), (2, .int x2)]) hx hb dX7_years_42 rfl hl (by decide) rfl (fun ls hl => ?_)
      obtain ⟨r26, e27, h⟩ := bd_o h hn
      refine tX7_years_43 hok K FU x2 (0 : Int32) I9 J (some r26) e27 (Option.some_ne_none _) _ _ hW _ (lv_sub hl [1, 3, 0] rfl) ?_
      · intro I28 J29 q30 H locs hW ls hl
        replace q30 := Option.some.inj q30
        subst q30
        replace h := pr_o h
        refine lv_aload_n hx hb dX7_years_73 rfl (lv_at hl 0 rfl) ?_
        refine g_get K hW (t := 2) (ci := 6) (k := 0) (v := .ref (ad 1)) kLM_0 rfl rfl i_X7 (by decide) q_1077 rfl (gfv2 rLM_0_0) dX7_years_74 ?_
        refine lv_bipush (v := (6 : Int32)) hx hb dX7_years_77 (by decide) ?_
        refine g_iald K hW kLM_1 in_6_1592 tn_6 dX7_years_79 ?_
        obtain ⟨a1, a2, a3⟩ := so3 h
        replace hW := gWd_nI a2 hW
        replace hW := gWd_nJ a3 hW
        exact g_nmi a1 (hfin _ _ _ _ hW dX7_years_80)
    · replace h := gi_t h c4
      refine lv_iconst (v := (-1 : Int32)) hx hb dX7_years_21 (by decide) ?_
      obtain ⟨a1, a2, a3⟩ := so3 h
      replace hW := gWd_nI a2 hW
      replace hW := gWd_nJ a3 hW
      exact g_nmi a1 (hfin _ _ _ _ hW dX7_years_22)
noncomputable def fX7_of  (x1 : Int32) (x2 : Int32) (I : gI) (J : gJ) : Option (Int32 × gI × gJ) :=
  gi ((fX7_isBuyer x1 I) = 0)
 (some ((-10 : Int32), I, J))
 (gi (x2 = (0 : Int32))
 (gd (vp_in ((39 : Int32) + x1) 1592) (some ((I 1 (((39 : Int32) + x1)).toNatClampNeg), I, J)))
 (gi (x2 = (1 : Int32))
 (gd (vp_in ((45 : Int32) + x1) 1592) (some ((I 1 (((45 : Int32) + x1)).toNatClampNeg), I, J)))
 (gi (x2 = (2 : Int32))
 (gd (vp_in ((51 : Int32) + x1) 1592) (some ((I 1 (((51 : Int32) + x1)).toNatClampNeg), I, J)))
 (gi (x2 = (3 : Int32))
 (gd (vp_in ((23 : Int32) + x1) 1592) (some ((I 1 (((23 : Int32) + x1)).toNatClampNeg), I, J)))
 (gi (x2 = (4 : Int32))
 (bd (fX7_bidsNow x1 I J) (pr (fun (u12 : Int32) => pr (fun (I13 : gI) (J14 : gJ) => some (u12, I13, J14)))))
 (gi (x2 = (5 : Int32))
 (bd (fX7_earnsOf x1 I J) (pr (fun (u18 : Int32) => pr (fun (I19 : gI) (J20 : gJ) => some (u18, I19, J20)))))
 (gi (x2 = (6 : Int32))
 (bd (fX7_hasNow x1 I) (fun (u24 : Int32) => some (u24, I, J)))
 (some ((-10 : Int32), I, J)))))))))
set_option maxHeartbeats 4000000 in
set_option maxRecDepth 100000 in
theorem kX7_of {l : Launch} {G : gG} {ad : Nat → Nat} (hok : gInj LM ad)    (x1 : Int32) (x2 : Int32) (I : gI) (J : gJ) (r : Int32) (I' : gI) (J' : gJ) (h : fX7_of x1 x2 I J = some (r, I', J')) : gMi l yX7_of cX7_of 3 (some .int) 7 G LM ad [.ref (ad 0), .int x1, .int x2] I J r True I' J' := by
  refine gMi_of (lst := [(0, .ref (ad 0)), (1, .int x1), (2, .int x2)]) (by decide) hok (Nat.le_of_ble_eq_true rfl) rfl ?_
  intro p e s m args below meth c Q ls K hW hl hfin
  have hn : (some (r, I', J') : Option (Int32 × gI × gJ)) ≠ none := Option.some_ne_none _
  have hx := K.1; have hb := K.2.1; have hown := K.2.2.2.1; have hts := K.2.2.2.2.1
  unfold fX7_of at h
  refine lv_aload_n hx hb dX7_of_0 rfl (lv_at hl 0 rfl) ?_
  refine lv_iload_n hx hb dX7_of_1 rfl (lv_at hl 1 rfl) ?_
  refine g_callVi (rest := []) K hW hl (kX7_isBuyer (l := l) (G := G) (ad := ad) hok x1 I J (fX7_isBuyer x1 I) rfl) kLM_0 rfl (gG_V q_1350 q_1352 q_80 q_139 q_1353) nm_X7_isBuyer ⟨Nat.le_of_ble_eq_true rfl, Nat.le_of_ble_eq_true rfl⟩ rfl rfl (Nat.le_of_ble_eq_true rfl) ⟨Nat.zero_le _, Nat.zero_le _⟩ dX7_of_2 (fun z1 H locs hW => ?_)
  refine lv_if_ne (tgt := 11) hx hb dX7_of_5 (by decide) (fun c2 => ?_) (fun c2 => ?_)
  · replace h := gi_f h c2
    refine lv_iload_n hx hb dX7_of_11 rfl (lv_at hl 2 rfl) ?_
    rcases Classical.em (x2 = (0 : Int32)) with c3 | c3
    · replace h := gi_t h c3
      refine g_tabIn (k := (0 : Int32)) (tgt := 56) (off := 44) hx hb c3 dX7_of_12 (by decide) (by decide) (by decide) (by decide) ?_
      refine lv_aload_n hx hb dX7_of_56 rfl (lv_at hl 0 rfl) ?_
      refine g_get K hW (t := 2) (ci := 6) (k := 0) (v := .ref (ad 1)) kLM_0 rfl rfl i_X7 (by decide) q_1077 rfl (gfv2 rLM_0_0) dX7_of_57 ?_
      refine lv_bipush (v := (39 : Int32)) hx hb dX7_of_60 (by decide) ?_
      refine lv_iload_n hx hb dX7_of_62 rfl (lv_at hl 1 rfl) ?_
      refine lv_iadd hx hb dX7_of_63 ?_
      obtain ⟨g4, h⟩ := gd_o h hn
      refine g_iald K hW kLM_1 g4 rfl dX7_of_64 ?_
      obtain ⟨a1, a2, a3⟩ := so3 h
      replace hW := gWd_nI a2 hW
      replace hW := gWd_nJ a3 hW
      exact g_nmi a1 (hfin _ _ _ _ hW dX7_of_65)
    · replace h := gi_f h c3
      rcases Classical.em (x2 = (1 : Int32)) with c5 | c5
      · replace h := gi_t h c5
        refine g_tabIn (k := (1 : Int32)) (tgt := 66) (off := 54) hx hb c5 dX7_of_12 (by decide) (by decide) (by decide) (by decide) ?_
        refine lv_aload_n hx hb dX7_of_66 rfl (lv_at hl 0 rfl) ?_
        refine g_get K hW (t := 2) (ci := 6) (k := 0) (v := .ref (ad 1)) kLM_0 rfl rfl i_X7 (by decide) q_1077 rfl (gfv2 rLM_0_0) dX7_of_67 ?_
        refine lv_bipush (v := (45 : Int32)) hx hb dX7_of_70 (by decide) ?_
        refine lv_iload_n hx hb dX7_of_72 rfl (lv_at hl 1 rfl) ?_
        refine lv_iadd hx hb dX7_of_73 ?_
        obtain ⟨g6, h⟩ := gd_o h hn
        refine g_iald K hW kLM_1 g6 rfl dX7_of_74 ?_
        obtain ⟨a1, a2, a3⟩ := so3 h
        replace hW := gWd_nI a2 hW
        replace hW := gWd_nJ a3 hW
        exact g_nmi a1 (hfin _ _ _ _ hW dX7_of_75)
      · replace h := gi_f h c5
        rcases Classical.em (x2 = (2 : Int32)) with c7 | c7
        · replace h := gi_t h c7
          refine g_tabIn (k := (2 : Int32)) (tgt := 76) (off := 64) hx hb c7 dX7_of_12 (by decide) (by decide) (by decide) (by decide) ?_
          refine lv_aload_n hx hb dX7_of_76 rfl (lv_at hl 0 rfl) ?_
          refine g_get K hW (t := 2) (ci := 6) (k := 0) (v := .ref (ad 1)) kLM_0 rfl rfl i_X7 (by decide) q_1077 rfl (gfv2 rLM_0_0) dX7_of_77 ?_
          refine lv_bipush (v := (51 : Int32)) hx hb dX7_of_80 (by decide) ?_
          refine lv_iload_n hx hb dX7_of_82 rfl (lv_at hl 1 rfl) ?_
          refine lv_iadd hx hb dX7_of_83 ?_
          obtain ⟨g8, h⟩ := gd_o h hn
          refine g_iald K hW kLM_1 g8 rfl dX7_of_84 ?_
          obtain ⟨a1, a2, a3⟩ := so3 h
          replace hW := gWd_nI a2 hW
          replace hW := gWd_nJ a3 hW
          exact g_nmi a1 (hfin _ _ _ _ hW dX7_of_85)
        · replace h := gi_f h c7
          rcases Classical.em (x2 = (3 : Int32)) with c9 | c9
          · replace h := gi_t h c9
            refine g_tabIn (k := (3 : Int32)) (tgt := 86) (off := 74) hx hb c9 dX7_of_12 (by decide) (by decide) (by decide) (by decide) ?_
            refine lv_aload_n hx hb dX7_of_86 rfl (lv_at hl 0 rfl) ?_
            refine g_get K hW (t := 2) (ci := 6) (k := 0) (v := .ref (ad 1)) kLM_0 rfl rfl i_X7 (by decide) q_1077 rfl (gfv2 rLM_0_0) dX7_of_87 ?_
            refine lv_bipush (v := (23 : Int32)) hx hb dX7_of_90 (by decide) ?_
            refine lv_iload_n hx hb dX7_of_92 rfl (lv_at hl 1 rfl) ?_
            refine lv_iadd hx hb dX7_of_93 ?_
            obtain ⟨g10, h⟩ := gd_o h hn
            refine g_iald K hW kLM_1 g10 rfl dX7_of_94 ?_
            obtain ⟨a1, a2, a3⟩ := so3 h
            replace hW := gWd_nI a2 hW
            replace hW := gWd_nJ a3 hW
            exact g_nmi a1 (hfin _ _ _ _ hW dX7_of_95)
          · replace h := gi_f h c9
            rcases Classical.em (x2 = (4 : Int32)) with c11 | c11
            · replace h := gi_t h c11
              refine g_tabIn (k := (4 : Int32)) (tgt := 96) (off := 84) hx hb c11 dX7_of_12 (by decide) (by decide) (by decide) (by decide) ?_
              refine lv_aload_n hx hb dX7_of_96 rfl (lv_at hl 0 rfl) ?_
              refine lv_iload_n hx hb dX7_of_97 rfl (lv_at hl 1 rfl) ?_
              obtain ⟨⟨u12, I13, J14⟩, e15, h⟩ := bd_o h hn
              replace h := pr_o h
              replace h := pr_o h
              refine g_callVi (rest := []) K hW hl (kX7_bidsNow (l := l) (G := G) (ad := ad) hok x1 I J u12 I13 J14 e15) kLM_0 rfl (gG_V q_1370 q_1372 q_85 q_139 q_1373) nm_X7_bidsNow ⟨Nat.le_of_ble_eq_true rfl, Nat.le_of_ble_eq_true rfl⟩ rfl rfl (Nat.le_of_ble_eq_true rfl) ⟨Nat.zero_le _, Nat.zero_le _⟩ dX7_of_98 (fun z16 H locs hW => ?_)
              obtain ⟨a1, a2, a3⟩ := so3 h
              replace hW := gWd_nI a2 hW
              replace hW := gWd_nJ a3 hW
              exact g_nmi a1 (hfin _ _ _ _ hW dX7_of_101)
            · replace h := gi_f h c11
              rcases Classical.em (x2 = (5 : Int32)) with c17 | c17
              · replace h := gi_t h c17
                refine g_tabIn (k := (5 : Int32)) (tgt := 102) (off := 90) hx hb c17 dX7_of_12 (by decide) (by decide) (by decide) (by decide) ?_
                refine lv_aload_n hx hb dX7_of_102 rfl (lv_at hl 0 rfl) ?_
                refine lv_iload_n hx hb dX7_of_103 rfl (lv_at hl 1 rfl) ?_
                obtain ⟨⟨u18, I19, J20⟩, e21, h⟩ := bd_o h hn
                replace h := pr_o h
                replace h := pr_o h
                refine g_callVi (rest := []) K hW hl (kX7_earnsOf (l := l) (G := G) (ad := ad) hok x1 I J u18 I19 J20 e21) kLM_0 rfl (gG_V q_1482 q_1484 q_103 q_139 q_1485) nm_X7_earnsOf ⟨Nat.le_of_ble_eq_true rfl, Nat.le_of_ble_eq_true rfl⟩ rfl rfl (Nat.le_of_ble_eq_true rfl) ⟨Nat.zero_le _, Nat.zero_le _⟩ dX7_of_104 (fun z22 H locs hW => ?_)
                obtain ⟨a1, a2, a3⟩ := so3 h
                replace hW := gWd_nI a2 hW
                replace hW := gWd_nJ a3 hW
                exact g_nmi a1 (hfin _ _ _ _ hW dX7_of_107)
              · replace h := gi_f h c17
                rcases Classical.em (x2 = (6 : Int32)) with c23 | c23
                · replace h := gi_t h c23
                  refine g_tabIn (k := (6 : Int32)) (tgt := 108) (off := 96) hx hb c23 dX7_of_12 (by decide) (by decide) (by decide) (by decide) ?_
                  refine lv_aload_n hx hb dX7_of_108 rfl (lv_at hl 0 rfl) ?_
                  refine lv_iload_n hx hb dX7_of_109 rfl (lv_at hl 1 rfl) ?_
                  obtain ⟨u24, e25, h⟩ := bd_o h hn
                  refine g_callVi (rest := []) K hW hl (kX7_hasNow (l := l) (G := G) (ad := ad) hok x1 I J u24 e25) kLM_0 rfl (gG_V q_1385 q_1387 q_88 q_139 q_1388) nm_X7_hasNow ⟨Nat.le_of_ble_eq_true rfl, Nat.le_of_ble_eq_true rfl⟩ rfl rfl (Nat.le_of_ble_eq_true rfl) ⟨Nat.zero_le _, Nat.zero_le _⟩ dX7_of_110 (fun z26 H locs hW => ?_)
                  obtain ⟨a1, a2, a3⟩ := so3 h
                  replace hW := gWd_nI a2 hW
                  replace hW := gWd_nJ a3 hW
                  exact g_nmi a1 (hfin _ _ _ _ hW dX7_of_113)
                · replace h := gi_f h c23
                  refine lv_tableOut (tgt := 114) hx hb dX7_of_12 (by have := lv_neT (a := 0) c3 (by decide); have := lv_neT (a := 1) c5 (by decide); have := lv_neT (a := 2) c7 (by decide); have := lv_neT (a := 3) c9 (by decide); have := lv_neT (a := 4) c11 (by decide); have := lv_neT (a := 5) c17 (by decide); have := lv_neT (a := 6) c23 (by decide); omega) (by decide) ?_
                  refine lv_bipush (v := (-10 : Int32)) hx hb dX7_of_114 (by decide) ?_
                  obtain ⟨a1, a2, a3⟩ := so3 h
                  replace hW := gWd_nI a2 hW
                  replace hW := gWd_nJ a3 hW
                  exact g_nmi a1 (hfin _ _ _ _ hW dX7_of_116)
  · replace h := gi_t h c2
    refine lv_bipush (v := (-10 : Int32)) hx hb dX7_of_8 (by decide) ?_
    obtain ⟨a1, a2, a3⟩ := so3 h
    replace hW := gWd_nI a2 hW
    replace hW := gWd_nJ a3 hW
    exact g_nmi a1 (hfin _ _ _ _ hW dX7_of_10)
noncomputable def fX7_ofSort  (x1 : Int32) (x2 : Int32) (I : gI) : Option (Int32) :=
  gi ((fX7_isSort x1) = 0)
 (some (-1 : Int32))
 (gi (x2 = 0)
 (gd (vp_in ((29 : Int32) + x1) 1592) (some (I 1 (((29 : Int32) + x1)).toNatClampNeg)))
 (gi (x2 = (1 : Int32))
 (gd (vp_in ((34 : Int32) + x1) 1592) (some (I 1 (((34 : Int32) + x1)).toNatClampNeg)))
 (some (-1 : Int32))))
set_option maxHeartbeats 4000000 in
set_option maxRecDepth 100000 in
theorem kX7_ofSort {l : Launch} {G : gG} {ad : Nat → Nat} (hok : gInj LM ad)    (x1 : Int32) (x2 : Int32) (I : gI) (J : gJ) (r : Int32) (h : fX7_ofSort x1 x2 I = some r) : gMi l yX7_ofSort cX7_ofSort 3 (some .int) 3 G LM ad [.ref (ad 0), .int x1, .int x2] I J r True I J := by
  refine gMi_of (lst := [(0, .ref (ad 0)), (1, .int x1), (2, .int x2)]) (by decide) hok (Nat.le_of_ble_eq_true rfl) rfl ?_
  intro p e s m args below meth c Q ls K hW hl hfin
  have hn : (some r : Option (Int32)) ≠ none := Option.some_ne_none _
  have hx := K.1; have hb := K.2.1; have hown := K.2.2.2.1; have hts := K.2.2.2.2.1
  unfold fX7_ofSort at h
  refine lv_iload_n hx hb dX7_ofSort_0 rfl (lv_at hl 1 rfl) ?_
  refine g_callSi (rest := []) K hW hl (kX7_isSort (l := l) (G := G) (ad := ad) hok x1 I J (fX7_isSort x1) rfl) q_1168 q_1169 q_139 q_1170 nm_X7_isSort ⟨Nat.le_of_ble_eq_true rfl, Nat.le_of_ble_eq_true rfl⟩ rfl rfl (Nat.le_of_ble_eq_true rfl) ⟨Nat.zero_le _, Nat.zero_le _⟩ dX7_ofSort_1 (fun z1 H locs hW => ?_)
  refine lv_if_ne (tgt := 11) hx hb dX7_ofSort_4 (by decide) (fun c2 => ?_) (fun c2 => ?_)
  · replace h := gi_f h c2
    refine lv_iload_n hx hb dX7_ofSort_11 rfl (lv_at hl 2 rfl) ?_
    refine lv_if_ne (tgt := 27) hx hb dX7_ofSort_12 (by decide) (fun c3 => ?_) (fun c3 => ?_)
    · replace h := gi_f h c3
      refine lv_iload_n hx hb dX7_ofSort_27 rfl (lv_at hl 2 rfl) ?_
      refine lv_iconst (v := (1 : Int32)) hx hb dX7_ofSort_28 (by decide) ?_
      refine lv_icmp_ne (tgt := 44) hx hb dX7_ofSort_29 (by decide) (fun c4 => ?_) (fun c4 => ?_)
      · replace h := gi_f h c4
        refine lv_iconst (v := (-1 : Int32)) hx hb dX7_ofSort_44 (by decide) ?_
        obtain a1 := so1 h
        exact g_nmi a1 (hfin _ _ _ _ hW dX7_ofSort_45)
      · replace h := gi_t h c4
        refine lv_aload_n hx hb dX7_ofSort_32 rfl (lv_at hl 0 rfl) ?_
        refine g_get K hW (t := 2) (ci := 6) (k := 0) (v := .ref (ad 1)) kLM_0 rfl rfl i_X7 (by decide) q_1077 rfl (gfv2 rLM_0_0) dX7_ofSort_33 ?_
        refine lv_bipush (v := (34 : Int32)) hx hb dX7_ofSort_36 (by decide) ?_
        refine lv_iload_n hx hb dX7_ofSort_38 rfl (lv_at hl 1 rfl) ?_
        refine lv_iadd hx hb dX7_ofSort_39 ?_
        obtain ⟨g5, h⟩ := gd_o h hn
        refine g_iald K hW kLM_1 g5 rfl dX7_ofSort_40 ?_
        refine lv_goto (tgt := 45) hx hb dX7_ofSort_41 (by decide) ?_
        obtain a1 := so1 h
        exact g_nmi a1 (hfin _ _ _ _ hW dX7_ofSort_45)
    · replace h := gi_t h c3
      refine lv_aload_n hx hb dX7_ofSort_15 rfl (lv_at hl 0 rfl) ?_
      refine g_get K hW (t := 2) (ci := 6) (k := 0) (v := .ref (ad 1)) kLM_0 rfl rfl i_X7 (by decide) q_1077 rfl (gfv2 rLM_0_0) dX7_ofSort_16 ?_
      refine lv_bipush (v := (29 : Int32)) hx hb dX7_ofSort_19 (by decide) ?_
      refine lv_iload_n hx hb dX7_ofSort_21 rfl (lv_at hl 1 rfl) ?_
      refine lv_iadd hx hb dX7_ofSort_22 ?_
      obtain ⟨g6, h⟩ := gd_o h hn
      refine g_iald K hW kLM_1 g6 rfl dX7_ofSort_23 ?_
      refine lv_goto (tgt := 45) hx hb dX7_ofSort_24 (by decide) ?_
      obtain a1 := so1 h
      exact g_nmi a1 (hfin _ _ _ _ hW dX7_ofSort_45)
  · replace h := gi_t h c2
    refine lv_iconst (v := (-1 : Int32)) hx hb dX7_ofSort_7 (by decide) ?_
    refine lv_goto (tgt := 45) hx hb dX7_ofSort_8 (by decide) ?_
    obtain a1 := so1 h
    exact g_nmi a1 (hfin _ _ _ _ hW dX7_ofSort_45)
noncomputable def fX7_at  (x1 : Int32) (I : gI) : Option (Int32) :=
  gi ((fX7_isSlice x1) = 0)
 (some (-2 : Int32))
 (gd (vp_in ((11 : Int32) + x1) 1592) (some (I 1 (((11 : Int32) + x1)).toNatClampNeg)))
set_option maxHeartbeats 4000000 in
set_option maxRecDepth 100000 in
theorem kX7_at {l : Launch} {G : gG} {ad : Nat → Nat} (hok : gInj LM ad)    (x1 : Int32) (I : gI) (J : gJ) (r : Int32) (h : fX7_at x1 I = some r) : gMi l yX7_at cX7_at 2 (some .int) 3 G LM ad [.ref (ad 0), .int x1] I J r True I J := by
  refine gMi_of (lst := [(0, .ref (ad 0)), (1, .int x1)]) (by decide) hok (Nat.le_of_ble_eq_true rfl) rfl ?_
  intro p e s m args below meth c Q ls K hW hl hfin
  have hn : (some r : Option (Int32)) ≠ none := Option.some_ne_none _
  have hx := K.1; have hb := K.2.1; have hown := K.2.2.2.1; have hts := K.2.2.2.2.1
  unfold fX7_at at h
  refine lv_iload_n hx hb dX7_at_0 rfl (lv_at hl 1 rfl) ?_
  refine g_callSi (rest := []) K hW hl (kX7_isSlice (l := l) (G := G) (ad := ad) hok x1 I J (fX7_isSlice x1) rfl) q_1443 q_1444 q_139 q_1445 nm_X7_isSlice ⟨Nat.le_of_ble_eq_true rfl, Nat.le_of_ble_eq_true rfl⟩ rfl rfl (Nat.le_of_ble_eq_true rfl) ⟨Nat.zero_le _, Nat.zero_le _⟩ dX7_at_1 (fun z1 H locs hW => ?_)
  refine lv_if_eq (tgt := 19) hx hb dX7_at_4 (by decide) (fun c2 => ?_) (fun c2 => ?_)
  · replace h := gi_t h c2
    refine lv_bipush (v := (-2 : Int32)) hx hb dX7_at_19 (by decide) ?_
    obtain a1 := so1 h
    exact g_nmi a1 (hfin _ _ _ _ hW dX7_at_21)
  · replace h := gi_f h c2
    refine lv_aload_n hx hb dX7_at_7 rfl (lv_at hl 0 rfl) ?_
    refine g_get K hW (t := 2) (ci := 6) (k := 0) (v := .ref (ad 1)) kLM_0 rfl rfl i_X7 (by decide) q_1077 rfl (gfv2 rLM_0_0) dX7_at_8 ?_
    refine lv_bipush (v := (11 : Int32)) hx hb dX7_at_11 (by decide) ?_
    refine lv_iload_n hx hb dX7_at_13 rfl (lv_at hl 1 rfl) ?_
    refine lv_iadd hx hb dX7_at_14 ?_
    obtain ⟨g3, h⟩ := gd_o h hn
    refine g_iald K hW kLM_1 g3 rfl dX7_at_15 ?_
    refine lv_goto (tgt := 21) hx hb dX7_at_16 (by decide) ?_
    obtain a1 := so1 h
    exact g_nmi a1 (hfin _ _ _ _ hW dX7_at_21)
noncomputable def fX7_is  (x1 : Int32) (I : gI) : Option (Int32) :=
  gi ((fX7_isIn x1 (0 : Int32) (3 : Int32)) = 0)
 (gi (x1 = (4 : Int32))
 (bd (fX7_freeNow I) (fun (u4 : Int32) => some u4))
 (some (-2 : Int32)))
 (gd (vp_in ((6 : Int32) + x1) 1592) (some (I 1 (((6 : Int32) + x1)).toNatClampNeg)))
set_option maxHeartbeats 4000000 in
set_option maxRecDepth 100000 in
theorem kX7_is {l : Launch} {G : gG} {ad : Nat → Nat} (hok : gInj LM ad)    (x1 : Int32) (I : gI) (J : gJ) (r : Int32) (h : fX7_is x1 I = some r) : gMi l yX7_is cX7_is 2 (some .int) 2 G LM ad [.ref (ad 0), .int x1] I J r True I J := by
  refine gMi_of (lst := [(0, .ref (ad 0)), (1, .int x1)]) (by decide) hok (Nat.le_of_ble_eq_true rfl) rfl ?_
  intro p e s m args below meth c Q ls K hW hl hfin
  have hn : (some r : Option (Int32)) ≠ none := Option.some_ne_none _
  have hx := K.1; have hb := K.2.1; have hown := K.2.2.2.1; have hts := K.2.2.2.2.1
  unfold fX7_is at h
  refine lv_iload_n hx hb dX7_is_0 rfl (lv_at hl 1 rfl) ?_
  refine lv_iconst (v := (0 : Int32)) hx hb dX7_is_1 (by decide) ?_
  refine lv_iconst (v := (3 : Int32)) hx hb dX7_is_2 (by decide) ?_
  refine g_callSi (rest := []) K hW hl (kX7_isIn (l := l) (G := G) (ad := ad) hok x1 (0 : Int32) (3 : Int32) I J (fX7_isIn x1 (0 : Int32) (3 : Int32)) rfl) q_1171 q_1172 q_139 q_1173 nm_X7_isIn ⟨Nat.le_of_ble_eq_true rfl, Nat.le_of_ble_eq_true rfl⟩ rfl rfl (Nat.le_of_ble_eq_true rfl) ⟨Nat.zero_le _, Nat.zero_le _⟩ dX7_is_3 (fun z1 H locs hW => ?_)
  refine lv_if_eq (tgt := 21) hx hb dX7_is_6 (by decide) (fun c2 => ?_) (fun c2 => ?_)
  · replace h := gi_t h c2
    refine lv_iload_n hx hb dX7_is_21 rfl (lv_at hl 1 rfl) ?_
    refine lv_iconst (v := (4 : Int32)) hx hb dX7_is_22 (by decide) ?_
    refine lv_icmp_ne (tgt := 33) hx hb dX7_is_23 (by decide) (fun c3 => ?_) (fun c3 => ?_)
    · replace h := gi_f h c3
      refine lv_bipush (v := (-2 : Int32)) hx hb dX7_is_33 (by decide) ?_
      obtain a1 := so1 h
      exact g_nmi a1 (hfin _ _ _ _ hW dX7_is_35)
    · replace h := gi_t h c3
      refine lv_aload_n hx hb dX7_is_26 rfl (lv_at hl 0 rfl) ?_
      obtain ⟨u4, e5, h⟩ := bd_o h hn
      refine g_callVi (rest := []) K hW hl (kX7_freeNow (l := l) (G := G) (ad := ad) hok I J u4 e5) kLM_0 rfl (gG_V q_1366 q_1368 q_84 q_139 q_1369) nm_X7_freeNow ⟨Nat.le_of_ble_eq_true rfl, Nat.le_of_ble_eq_true rfl⟩ rfl rfl (Nat.le_of_ble_eq_true rfl) ⟨Nat.zero_le _, Nat.zero_le _⟩ dX7_is_27 (fun z6 H locs hW => ?_)
      refine lv_goto (tgt := 35) hx hb dX7_is_30 (by decide) ?_
      obtain a1 := so1 h
      exact g_nmi a1 (hfin _ _ _ _ hW dX7_is_35)
  · replace h := gi_f h c2
    refine lv_aload_n hx hb dX7_is_9 rfl (lv_at hl 0 rfl) ?_
    refine g_get K hW (t := 2) (ci := 6) (k := 0) (v := .ref (ad 1)) kLM_0 rfl rfl i_X7 (by decide) q_1077 rfl (gfv2 rLM_0_0) dX7_is_10 ?_
    refine lv_bipush (v := (6 : Int32)) hx hb dX7_is_13 (by decide) ?_
    refine lv_iload_n hx hb dX7_is_15 rfl (lv_at hl 1 rfl) ?_
    refine lv_iadd hx hb dX7_is_16 ?_
    obtain ⟨g7, h⟩ := gd_o h hn
    refine g_iald K hW kLM_1 g7 rfl dX7_is_17 ?_
    refine lv_goto (tgt := 35) hx hb dX7_is_18 (by decide) ?_
    obtain a1 := so1 h
    exact g_nmi a1 (hfin _ _ _ _ hW dX7_is_35)
noncomputable def fX7_lineOf  (x1 : Int32) (x2 : Int32) (I : gI) : Option (Int32) :=
  gd (vp_in ((1567 : Int32) + x1) 1592) (lz ((I 1 (((1567 : Int32) + x1)).toNatClampNeg)) (fun (u2 : Int32) => gi (x2 = 0)
 (some (u2 / (6000 : Int32)))
 (gi (x2 = (1 : Int32))
 (some (jrem (u2 / (1200 : Int32)) (5 : Int32)))
 (gi (x2 = (2 : Int32))
 (some (jrem (u2 / (100 : Int32)) (12 : Int32)))
 (some (jrem u2 (100 : Int32)))))))
set_option maxHeartbeats 4000000 in
set_option maxRecDepth 100000 in
theorem kX7_lineOf {l : Launch} {G : gG} {ad : Nat → Nat} (hok : gInj LM ad)    (x1 : Int32) (x2 : Int32) (I : gI) (J : gJ) (r : Int32) (h : fX7_lineOf x1 x2 I = some r) : gMi l yX7_lineOf cX7_lineOf 4 (some .int) 1 G LM ad [.ref (ad 0), .int x1, .int x2] I J r True I J := by
  refine gMi_of (lst := [(0, .ref (ad 0)), (1, .int x1), (2, .int x2)]) (by decide) hok (Nat.le_of_ble_eq_true rfl) rfl ?_
  intro p e s m args below meth c Q ls K hW hl hfin
  have hn : (some r : Option (Int32)) ≠ none := Option.some_ne_none _
  have hx := K.1; have hb := K.2.1; have hown := K.2.2.2.1; have hts := K.2.2.2.2.1
  unfold fX7_lineOf at h
  refine lv_aload_n hx hb dX7_lineOf_0 rfl (lv_at hl 0 rfl) ?_
  refine g_get K hW (t := 2) (ci := 6) (k := 0) (v := .ref (ad 1)) kLM_0 rfl rfl i_X7 (by decide) q_1077 rfl (gfv2 rLM_0_0) dX7_lineOf_1 ?_
  refine lv_sipush (v := (1567 : Int32)) hx hb dX7_lineOf_4 (by decide) ?_
  refine lv_iload_n hx hb dX7_lineOf_7 rfl (lv_at hl 1 rfl) ?_
  refine lv_iadd hx hb dX7_lineOf_8 ?_
  obtain ⟨g1, h⟩ := gd_o h hn
  refine g_iald K hW kLM_1 g1 rfl dX7_lineOf_9 ?_
  obtain ⟨u2, e3, h⟩ := lz_o h
  refine g_nmi e3 ?_
  refine lv_istore_n (lv' := [(3, .int u2), (0, .ref (ad 0)), (1, .int x1), (2, .int x2)]) hx hb dX7_lineOf_10 rfl hl (by decide) rfl (fun ls hl => ?_)
  refine lv_iload_n hx hb dX7_lineOf_11 rfl (lv_at hl 3 rfl) ?_
  refine lv_if_ne (tgt := 23) hx hb dX7_lineOf_12 (by decide) (fun c4 => ?_) (fun c4 => ?_)
  · replace h := gi_f h c4
    refine lv_iload_n hx hb dX7_lineOf_23 rfl (lv_at hl 3 rfl) ?_
    refine lv_iconst (v := (1 : Int32)) hx hb dX7_lineOf_24 (by decide) ?_
    refine lv_icmp_ne (tgt := 38) hx hb dX7_lineOf_25 (by decide) (fun c5 => ?_) (fun c5 => ?_)
    · replace h := gi_f h c5
      refine lv_iload_n hx hb dX7_lineOf_38 rfl (lv_at hl 3 rfl) ?_
      refine lv_iconst (v := (2 : Int32)) hx hb dX7_lineOf_39 (by decide) ?_
      refine lv_icmp_ne (tgt := 53) hx hb dX7_lineOf_40 (by decide) (fun c6 => ?_) (fun c6 => ?_)
      · replace h := gi_f h c6
        refine lv_iload_n hx hb dX7_lineOf_53 rfl (lv_at hl 0 rfl) ?_
        refine lv_bipush (v := (100 : Int32)) hx hb dX7_lineOf_54 (by decide) ?_
        refine g_irem hx hb dX7_lineOf_56 (by decide) ?_
        obtain a1 := so1 h
        exact g_nmi a1 (hfin _ _ _ _ hW dX7_lineOf_57)
      · replace h := gi_t h c6
        refine lv_iload_n hx hb dX7_lineOf_43 rfl (lv_at hl 0 rfl) ?_
        refine lv_bipush (v := (100 : Int32)) hx hb dX7_lineOf_44 (by decide) ?_
        refine lv_idiv hx hb dX7_lineOf_46 (by decide) ?_
        refine lv_bipush (v := (12 : Int32)) hx hb dX7_lineOf_47 (by decide) ?_
        refine g_irem hx hb dX7_lineOf_49 (by decide) ?_
        refine lv_goto (tgt := 57) hx hb dX7_lineOf_50 (by decide) ?_
        obtain a1 := so1 h
        exact g_nmi a1 (hfin _ _ _ _ hW dX7_lineOf_57)
    · replace h := gi_t h c5
      refine lv_iload_n hx hb dX7_lineOf_28 rfl (lv_at hl 0 rfl) ?_
      refine lv_sipush (v := (1200 : Int32)) hx hb dX7_lineOf_29 (by decide) ?_
      refine lv_idiv hx hb dX7_lineOf_32 (by decide) ?_
      refine lv_iconst (v := (5 : Int32)) hx hb dX7_lineOf_33 (by decide) ?_
      refine g_irem hx hb dX7_lineOf_34 (by decide) ?_
      refine lv_goto (tgt := 57) hx hb dX7_lineOf_35 (by decide) ?_
      obtain a1 := so1 h
      exact g_nmi a1 (hfin _ _ _ _ hW dX7_lineOf_57)
  · replace h := gi_t h c4
    refine lv_iload_n hx hb dX7_lineOf_15 rfl (lv_at hl 0 rfl) ?_
    refine lv_sipush (v := (6000 : Int32)) hx hb dX7_lineOf_16 (by decide) ?_
    refine lv_idiv hx hb dX7_lineOf_19 (by decide) ?_
    refine lv_goto (tgt := 57) hx hb dX7_lineOf_20 (by decide) ?_
    obtain a1 := so1 h
    exact g_nmi a1 (hfin _ _ _ _ hW dX7_lineOf_57)
theorem nm_X7_lineOf : gNm yX7_lineOf 2 := by decide +kernel
noncomputable def fX7_book  (x1 : Int32) (x2 : Int32) (I : gI) : Option (Int32) :=
  gi (x1 = (-1 : Int32))
 (some (I 1 10))
 (gi ((fX7_isIn x1 (0 : Int32) ((I 1 10) - (1 : Int32))) = 0)
 (some (-2 : Int32))
 (gi ((fX7_isIn x2 (0 : Int32) (3 : Int32)) = 0)
 (some (-2 : Int32))
 (bd (fX7_lineOf x1 x2 I) (fun (u6 : Int32) => some u6))))
set_option maxHeartbeats 4000000 in
set_option maxRecDepth 100000 in
theorem kX7_book {l : Launch} {G : gG} {ad : Nat → Nat} (hok : gInj LM ad)    (x1 : Int32) (x2 : Int32) (I : gI) (J : gJ) (r : Int32) (h : fX7_book x1 x2 I = some r) : gMi l yX7_book cX7_book 3 (some .int) 2 G LM ad [.ref (ad 0), .int x1, .int x2] I J r True I J := by
  refine gMi_of (lst := [(0, .ref (ad 0)), (1, .int x1), (2, .int x2)]) (by decide) hok (Nat.le_of_ble_eq_true rfl) rfl ?_
  intro p e s m args below meth c Q ls K hW hl hfin
  have hn : (some r : Option (Int32)) ≠ none := Option.some_ne_none _
  have hx := K.1; have hb := K.2.1; have hown := K.2.2.2.1; have hts := K.2.2.2.2.1
  unfold fX7_book at h
  refine lv_iload_n hx hb dX7_book_0 rfl (lv_at hl 1 rfl) ?_
  refine lv_iconst (v := (-1 : Int32)) hx hb dX7_book_1 (by decide) ?_
  refine lv_icmp_ne (tgt := 13) hx hb dX7_book_2 (by decide) (fun c1 => ?_) (fun c1 => ?_)
  · replace h := gi_f h c1
    refine lv_iload_n hx hb dX7_book_13 rfl (lv_at hl 1 rfl) ?_
    refine lv_iconst (v := (0 : Int32)) hx hb dX7_book_14 (by decide) ?_
    refine lv_aload_n hx hb dX7_book_15 rfl (lv_at hl 0 rfl) ?_
    refine g_get K hW (t := 2) (ci := 6) (k := 0) (v := .ref (ad 1)) kLM_0 rfl rfl i_X7 (by decide) q_1077 rfl (gfv2 rLM_0_0) dX7_book_16 ?_
    refine lv_bipush (v := (10 : Int32)) hx hb dX7_book_19 (by decide) ?_
    refine g_iald K hW kLM_1 in_10_1592 tn_10 dX7_book_21 ?_
    refine lv_iconst (v := (1 : Int32)) hx hb dX7_book_22 (by decide) ?_
    refine lv_isub hx hb dX7_book_23 ?_
    refine g_callSi (rest := []) K hW hl (kX7_isIn (l := l) (G := G) (ad := ad) hok x1 (0 : Int32) ((I 1 10) - (1 : Int32)) I J (fX7_isIn x1 (0 : Int32) ((I 1 10) - (1 : Int32))) rfl) q_1171 q_1172 q_139 q_1173 nm_X7_isIn ⟨Nat.le_of_ble_eq_true rfl, Nat.le_of_ble_eq_true rfl⟩ rfl rfl (Nat.le_of_ble_eq_true rfl) ⟨Nat.zero_le _, Nat.zero_le _⟩ dX7_book_24 (fun z2 H locs hW => ?_)
    refine lv_if_eq (tgt := 48) hx hb dX7_book_27 (by decide) (fun c3 => ?_) (fun c3 => ?_)
    · replace h := gi_t h c3
      refine lv_bipush (v := (-2 : Int32)) hx hb dX7_book_48 (by decide) ?_
      obtain a1 := so1 h
      exact g_nmi a1 (hfin _ _ _ _ hW dX7_book_50)
    · replace h := gi_f h c3
      refine lv_iload_n hx hb dX7_book_30 rfl (lv_at hl 2 rfl) ?_
      refine lv_iconst (v := (0 : Int32)) hx hb dX7_book_31 (by decide) ?_
      refine lv_iconst (v := (3 : Int32)) hx hb dX7_book_32 (by decide) ?_
      refine g_callSi (rest := []) K hW hl (kX7_isIn (l := l) (G := G) (ad := ad) hok x2 (0 : Int32) (3 : Int32) I J (fX7_isIn x2 (0 : Int32) (3 : Int32)) rfl) q_1171 q_1172 q_139 q_1173 nm_X7_isIn ⟨Nat.le_of_ble_eq_true rfl, Nat.le_of_ble_eq_true rfl⟩ rfl rfl (Nat.le_of_ble_eq_true rfl) ⟨Nat.zero_le _, Nat.zero_le _⟩ dX7_book_33 (fun z4 H locs hW => ?_)
      refine lv_if_eq (tgt := 48) hx hb dX7_book_36 (by decide) (fun c5 => ?_) (fun c5 => ?_)
      · replace h := gi_t h c5
        refine lv_bipush (v := (-2 : Int32)) hx hb dX7_book_48 (by decide) ?_
        obtain a1 := so1 h
        exact g_nmi a1 (hfin _ _ _ _ hW dX7_book_50)
      · replace h := gi_f h c5
        refine lv_aload_n hx hb dX7_book_39 rfl (lv_at hl 0 rfl) ?_
        refine lv_iload_n hx hb dX7_book_40 rfl (lv_at hl 1 rfl) ?_
        refine lv_iload_n hx hb dX7_book_41 rfl (lv_at hl 2 rfl) ?_
        obtain ⟨u6, e7, h⟩ := bd_o h hn
        refine g_callVi (rest := []) K hW hl (kX7_lineOf (l := l) (G := G) (ad := ad) hok x1 x2 I J u6 e7) kLM_0 rfl (gG_V q_1546 q_1548 q_110 q_139 q_1549) nm_X7_lineOf ⟨Nat.le_of_ble_eq_true rfl, Nat.le_of_ble_eq_true rfl⟩ rfl rfl (Nat.le_of_ble_eq_true rfl) ⟨Nat.zero_le _, Nat.zero_le _⟩ dX7_book_42 (fun z8 H locs hW => ?_)
        refine lv_goto (tgt := 50) hx hb dX7_book_45 (by decide) ?_
        obtain a1 := so1 h
        exact g_nmi a1 (hfin _ _ _ _ hW dX7_book_50)
  · replace h := gi_t h c1
    refine lv_aload_n hx hb dX7_book_5 rfl (lv_at hl 0 rfl) ?_
    refine g_get K hW (t := 2) (ci := 6) (k := 0) (v := .ref (ad 1)) kLM_0 rfl rfl i_X7 (by decide) q_1077 rfl (gfv2 rLM_0_0) dX7_book_6 ?_
    refine lv_bipush (v := (10 : Int32)) hx hb dX7_book_9 (by decide) ?_
    refine g_iald K hW kLM_1 in_10_1592 tn_10 dX7_book_11 ?_
    obtain a1 := so1 h
    exact g_nmi a1 (hfin _ _ _ _ hW dX7_book_12)
noncomputable def fX7_ledger_16b  (rec : Int32 → Int32 → Int32 → gI → Option ((Int32))) (u3 : Int32) (u4 : Int32) (u5 : Int32) (I : gI) : Option ((Int32)) :=
  gi ((I 1 10) ≤ u5)
 (some u4)
 (bd (fX7_lineOf u5 (1 : Int32) I) (fun (u8 : Int32) => lz (fun (u11 : Int32) => lz ((u4 + u11)) (fun (u15 : Int32) => lz ((u5 + (1 : Int32))) (fun (u17 : Int32) => rec u3 u15 u17 I))) (fun j12 => gi (u8 = u3)
 (j12 (1 : Int32))
 (j12 (0 : Int32)))))
noncomputable def fX7_ledger_16  : Nat → Int32 → Int32 → Int32 → gI → Option ((Int32))
  | 0 => fun _ _ _ _ => none
  | n + 1 => fX7_ledger_16b  (fX7_ledger_16  n)
set_option maxHeartbeats 4000000 in
set_option maxRecDepth 100000 in
theorem tX7_ledger_16 {l : Launch} {G : gG} {ad : Nat → Nat} {p : Program} {e : Env} {s : State} {m : MethodId} {args : Array Value} {below : List Frame} {meth : Method} {c : Code} {Q : State → Prop} (hok : gInj LM ad) (K : gCx G (gA LM ad) p s m args c cX7_ledger 4 RX7)  : ∀ (n : Nat) (u3 : Int32) (u4 : Int32) (u5 : Int32) (I : gI) (J : gJ) (out : Option ((Int32))), fX7_ledger_16  n u3 u4 u5 I = out → out ≠ none → ∀ (H : Heap) (locs : List Loc), gWd G LM ad (gA LM ad) s.heap I J H locs → ∀ (ls : Array Slot), lv_has ls 4 [(0, .ref (ad 0)), (1, .int u3), (2, .int u4), (3, .int u5)] → (∀ (y6 : Int32), some y6 = out → ∀ (H : Heap) (locs : List Loc), gWd G LM ad (gA LM ad) s.heap I J H locs → ∀ (ls : Array Slot), lv_has ls 4 [(2, .int y6)] → W p l e (gRm 2) s m args below meth c H locs 0 0 Q (F0 m 51 ls [])) → W p l e (gRm 2) s m args below meth c H locs 0 0 Q (F0 m 16 ls []) := by
  have hx := K.1; have hb := K.2.1; have hown := K.2.2.2.1; have hts := K.2.2.2.2.1
  intro n
  induction n with
  | zero => intro u3 u4 u5 I J out h hn; exact absurd h.symm hn
  | succ n ih =>
    intro u3 u4 u5 I J out h hn H locs hW ls hl hx1
    replace h : fX7_ledger_16b  (fX7_ledger_16  n) u3 u4 u5 I = out := h
    unfold fX7_ledger_16b at h
    refine lv_iload_n hx hb dX7_ledger_16 rfl (lv_at hl 3 rfl) ?_
    refine lv_aload_n hx hb dX7_ledger_17 rfl (lv_at hl 0 rfl) ?_
    refine g_get K hW (t := 2) (ci := 6) (k := 0) (v := .ref (ad 1)) kLM_0 rfl rfl i_X7 (by decide) q_1077 rfl (gfv2 rLM_0_0) dX7_ledger_18 ?_
    refine lv_bipush (v := (10 : Int32)) hx hb dX7_ledger_21 (by decide) ?_
    refine g_iald K hW kLM_1 in_10_1592 tn_10 dX7_ledger_23 ?_
    refine lv_icmp_ge (tgt := 51) hx hb dX7_ledger_24 (by decide) (fun c7 => ?_) (fun c7 => ?_)
    · replace h := gi_t h c7
      exact hx1 u4 h _ _ hW _ (lv_sub hl [2] rfl)
    · replace h := gi_f h c7
      refine lv_iload_n hx hb dX7_ledger_27 rfl (lv_at hl 2 rfl) ?_
      refine lv_aload_n hx hb dX7_ledger_28 rfl (lv_at hl 0 rfl) ?_
      refine lv_iload_n hx hb dX7_ledger_29 rfl (lv_at hl 3 rfl) ?_
      refine lv_iconst (v := (1 : Int32)) hx hb dX7_ledger_30 (by decide) ?_
      obtain ⟨u8, e9, h⟩ := bd_o h hn
      refine g_callVi (rest := [.int u4]) K hW hl (kX7_lineOf (l := l) (G := G) (ad := ad) hok u5 (1 : Int32) I J u8 e9) kLM_0 rfl (gG_V q_1546 q_1548 q_110 q_139 q_1549) nm_X7_lineOf ⟨Nat.le_of_ble_eq_true rfl, Nat.le_of_ble_eq_true rfl⟩ rfl rfl (Nat.le_of_ble_eq_true rfl) ⟨Nat.zero_le _, Nat.zero_le _⟩ dX7_ledger_31 (fun z10 H locs hW => ?_)
      refine lv_iload_n hx hb dX7_ledger_34 rfl (lv_at hl 1 rfl) ?_
      obtain ⟨j12, e13, h⟩ := lz_o h
      have hj14 : ∀ (u11 : Int32), j12 u11 = out → ∀ (H : Heap) (locs : List Loc), gWd G LM ad (gA LM ad) s.heap I J H locs → ∀ (ls : Array Slot), lv_has ls 4 [(0, .ref (ad 0)), (1, .int u3), (3, .int u5)] → W p l e (gRm 2) s m args below meth c H locs 0 0 Q (F0 m 43 ls [.int u11, .int u4]) := by
        intro u11 h H locs hW ls hl
        replace h := jn1 e13 h
        refine lv_iadd hx hb dX7_ledger_43 ?_
        obtain ⟨u15, e16, h⟩ := lz_o h
        refine g_nmi e16 ?_
        refine lv_istore_n (lv' := [(2, .int u15), (0, .ref (ad 0)), (1, .int u3), (3, .int u5)]) hx hb dX7_ledger_44 rfl hl (by decide) rfl (fun ls hl => ?_)
        obtain ⟨u17, e18, h⟩ := lz_o h
        refine lv_iinc (v := u17) (lv' := [(3, .int u17), (2, .int u15), (0, .ref (ad 0)), (1, .int u3)]) hx hb dX7_ledger_45 hl (k := 3) rfl (by rw [e18]; rfl) (by decide) rfl (fun ls hl => ?_)
        refine lv_goto (tgt := 16) hx hb dX7_ledger_48 (by decide) ?_
        exact ih u3 u15 u17 I J _ h hn _ _ hW _ (lv_sub hl [2, 3, 1, 0] rfl) hx1
      refine lv_icmp_ne (tgt := 42) hx hb dX7_ledger_35 (by decide) (fun c19 => ?_) (fun c19 => ?_)
      · replace h := gi_f h c19
        refine lv_iconst (v := (0 : Int32)) hx hb dX7_ledger_42 (by decide) ?_
        exact hj14 (0 : Int32) h _ _ hW _ (lv_sub hl [0, 1, 3] rfl)
      · replace h := gi_t h c19
        refine lv_iconst (v := (1 : Int32)) hx hb dX7_ledger_38 (by decide) ?_
        refine lv_goto (tgt := 43) hx hb dX7_ledger_39 (by decide) ?_
        exact hj14 (1 : Int32) h _ _ hW _ (lv_sub hl [0, 1, 3] rfl)
noncomputable def fX7_ledger  (x1 : Int32) (I : gI) : Option (Int32) :=
  gi ((fX7_isIn x1 (0 : Int32) (4 : Int32)) = 0)
 (some (-2 : Int32))
 (bd (fX7_ledger_16 FU x1 (0 : Int32) (0 : Int32) I) (fun (u22 : Int32) => some u22))
set_option maxHeartbeats 4000000 in
set_option maxRecDepth 100000 in
theorem kX7_ledger {l : Launch} {G : gG} {ad : Nat → Nat} (hok : gInj LM ad)    (x1 : Int32) (I : gI) (J : gJ) (r : Int32) (h : fX7_ledger x1 I = some r) : gMi l yX7_ledger cX7_ledger 4 (some .int) 2 G LM ad [.ref (ad 0), .int x1] I J r True I J := by
  refine gMi_of (lst := [(0, .ref (ad 0)), (1, .int x1)]) (by decide) hok (Nat.le_of_ble_eq_true rfl) rfl ?_
  intro p e s m args below meth c Q ls K hW hl hfin
  have hn : (some r : Option (Int32)) ≠ none := Option.some_ne_none _
  have hx := K.1; have hb := K.2.1; have hown := K.2.2.2.1; have hts := K.2.2.2.2.1
  unfold fX7_ledger at h
  refine lv_iload_n hx hb dX7_ledger_0 rfl (lv_at hl 1 rfl) ?_
  refine lv_iconst (v := (0 : Int32)) hx hb dX7_ledger_1 (by decide) ?_
  refine lv_iconst (v := (4 : Int32)) hx hb dX7_ledger_2 (by decide) ?_
  refine g_callSi (rest := []) K hW hl (kX7_isIn (l := l) (G := G) (ad := ad) hok x1 (0 : Int32) (4 : Int32) I J (fX7_isIn x1 (0 : Int32) (4 : Int32)) rfl) q_1171 q_1172 q_139 q_1173 nm_X7_isIn ⟨Nat.le_of_ble_eq_true rfl, Nat.le_of_ble_eq_true rfl⟩ rfl rfl (Nat.le_of_ble_eq_true rfl) ⟨Nat.zero_le _, Nat.zero_le _⟩ dX7_ledger_3 (fun z1 H locs hW => ?_)
  refine lv_if_ne (tgt := 12) hx hb dX7_ledger_6 (by decide) (fun c2 => ?_) (fun c2 => ?_)
  · replace h := gi_f h c2
    refine lv_iconst (v := (0 : Int32)) hx hb dX7_ledger_12 (by decide) ?_
    refine lv_istore_n (lv' := [(2, .int (0 : Int32)), (0, .ref (ad 0)), (1, .int x1)]) hx hb dX7_ledger_13 rfl hl (by decide) rfl (fun ls hl => ?_)
    refine lv_iconst (v := (0 : Int32)) hx hb dX7_ledger_14 (by decide) ?_
    refine lv_istore_n (lv' := [(3, .int (0 : Int32)), (2, .int (0 : Int32)), (0, .ref (ad 0)), (1, .int x1)]) hx hb dX7_ledger_15 rfl hl (by decide) rfl (fun ls hl => ?_)
    obtain ⟨r20, e21, h⟩ := bd_o h hn
    refine tX7_ledger_16 hok K FU x1 (0 : Int32) (0 : Int32) I J (some r20) e21 (Option.some_ne_none _) _ _ hW _ (lv_sub hl [2, 3, 1, 0] rfl) ?_
    · intro u22 q23 H locs hW ls hl
      replace q23 := Option.some.inj q23
      subst q23
      refine lv_iload_n hx hb dX7_ledger_51 rfl (lv_at hl 0 rfl) ?_
      obtain a1 := so1 h
      exact g_nmi a1 (hfin _ _ _ _ hW dX7_ledger_52)
  · replace h := gi_t h c2
    refine lv_bipush (v := (-2 : Int32)) hx hb dX7_ledger_9 (by decide) ?_
    obtain a1 := so1 h
    exact g_nmi a1 (hfin _ _ _ _ hW dX7_ledger_11)
noncomputable def fX7_richest_4b  (rec : Int32 → Int32 → gI → Option ((Int32))) (u1 : Int32) (u2 : Int32) (I : gI) : Option ((Int32)) :=
  gi ((I 1 0) ≤ u2)
 (some u1)
 (gd (vp_in ((23 : Int32) + u2) 1592) (lz (fun (u6 : Int32) => lz (fun (u10 : Int32) => lz ((u2 + (1 : Int32))) (fun (u14 : Int32) => rec u10 u14 I)) (fun j11 => gi ((I 1 (((23 : Int32) + u2)).toNatClampNeg) ≤ u6)
 (j11 u1)
 (j11 u2))) (fun j7 => gi (u1 = (-1 : Int32))
 (j7 (0 : Int32))
 (gd (vp_in ((23 : Int32) + u1) 1592) (j7 (I 1 (((23 : Int32) + u1)).toNatClampNeg))))))
noncomputable def fX7_richest_4  : Nat → Int32 → Int32 → gI → Option ((Int32))
  | 0 => fun _ _ _ => none
  | n + 1 => fX7_richest_4b  (fX7_richest_4  n)
set_option maxHeartbeats 4000000 in
set_option maxRecDepth 100000 in
theorem tX7_richest_4 {l : Launch} {G : gG} {ad : Nat → Nat} {p : Program} {e : Env} {s : State} {m : MethodId} {args : Array Value} {below : List Frame} {meth : Method} {c : Code} {Q : State → Prop} (hok : gInj LM ad) (K : gCx G (gA LM ad) p s m args c cX7_richest 3 RX7)  : ∀ (n : Nat) (u1 : Int32) (u2 : Int32) (I : gI) (J : gJ) (out : Option ((Int32))), fX7_richest_4  n u1 u2 I = out → out ≠ none → ∀ (H : Heap) (locs : List Loc), gWd G LM ad (gA LM ad) s.heap I J H locs → ∀ (ls : Array Slot), lv_has ls 3 [(0, .ref (ad 0)), (1, .int u1), (2, .int u2)] → (∀ (y3 : Int32), some y3 = out → ∀ (H : Heap) (locs : List Loc), gWd G LM ad (gA LM ad) s.heap I J H locs → ∀ (ls : Array Slot), lv_has ls 3 [(1, .int y3)] → W p l e (gRm 1) s m args below meth c H locs 0 0 Q (F0 m 52 ls [])) → W p l e (gRm 1) s m args below meth c H locs 0 0 Q (F0 m 4 ls []) := by
  have hx := K.1; have hb := K.2.1; have hown := K.2.2.2.1; have hts := K.2.2.2.2.1
  intro n
  induction n with
  | zero => intro u1 u2 I J out h hn; exact absurd h.symm hn
  | succ n ih =>
    intro u1 u2 I J out h hn H locs hW ls hl hx1
    replace h : fX7_richest_4b  (fX7_richest_4  n) u1 u2 I = out := h
    unfold fX7_richest_4b at h
    refine lv_iload_n hx hb dX7_richest_4 rfl (lv_at hl 2 rfl) ?_
    refine lv_aload_n hx hb dX7_richest_5 rfl (lv_at hl 0 rfl) ?_
    refine g_get K hW (t := 2) (ci := 6) (k := 0) (v := .ref (ad 1)) kLM_0 rfl rfl i_X7 (by decide) q_1077 rfl (gfv2 rLM_0_0) dX7_richest_6 ?_
    refine lv_iconst (v := (0 : Int32)) hx hb dX7_richest_9 (by decide) ?_
    refine g_iald K hW kLM_1 in_0_1592 tn_0 dX7_richest_10 ?_
    refine lv_icmp_ge (tgt := 52) hx hb dX7_richest_11 (by decide) (fun c4 => ?_) (fun c4 => ?_)
    · replace h := gi_t h c4
      exact hx1 u1 h _ _ hW _ (lv_sub hl [1] rfl)
    · replace h := gi_f h c4
      refine lv_aload_n hx hb dX7_richest_14 rfl (lv_at hl 0 rfl) ?_
      refine g_get K hW (t := 2) (ci := 6) (k := 0) (v := .ref (ad 1)) kLM_0 rfl rfl i_X7 (by decide) q_1077 rfl (gfv2 rLM_0_0) dX7_richest_15 ?_
      refine lv_bipush (v := (23 : Int32)) hx hb dX7_richest_18 (by decide) ?_
      refine lv_iload_n hx hb dX7_richest_20 rfl (lv_at hl 2 rfl) ?_
      refine lv_iadd hx hb dX7_richest_21 ?_
      obtain ⟨g5, h⟩ := gd_o h hn
      refine g_iald K hW kLM_1 g5 rfl dX7_richest_22 ?_
      refine lv_iload_n hx hb dX7_richest_23 rfl (lv_at hl 1 rfl) ?_
      refine lv_iconst (v := (-1 : Int32)) hx hb dX7_richest_24 (by decide) ?_
      obtain ⟨j7, e8, h⟩ := lz_o h
      have hj9 : ∀ (u6 : Int32), j7 u6 = out → ∀ (H : Heap) (locs : List Loc), gWd G LM ad (gA LM ad) s.heap I J H locs → ∀ (ls : Array Slot), lv_has ls 3 [(0, .ref (ad 0)), (1, .int u1), (2, .int u2)] → W p l e (gRm 1) s m args below meth c H locs 0 0 Q (F0 m 41 ls [.int u6, .int (I 1 (((23 : Int32) + u2)).toNatClampNeg)]) := by
        intro u6 h H locs hW ls hl
        replace h := jn1 e8 h
        obtain ⟨j11, e12, h⟩ := lz_o h
        have hj13 : ∀ (u10 : Int32), j11 u10 = out → ∀ (H : Heap) (locs : List Loc), gWd G LM ad (gA LM ad) s.heap I J H locs → ∀ (ls : Array Slot), lv_has ls 3 [(0, .ref (ad 0)), (1, .int u10), (2, .int u2)] → W p l e (gRm 1) s m args below meth c H locs 0 0 Q (F0 m 46 ls []) := by
          intro u10 h H locs hW ls hl
          replace h := jn1 e12 h
          obtain ⟨u14, e15, h⟩ := lz_o h
          refine lv_iinc (v := u14) (lv' := [(2, .int u14), (0, .ref (ad 0)), (1, .int u10)]) hx hb dX7_richest_46 hl (k := 2) rfl (by rw [e15]; rfl) (by decide) rfl (fun ls hl => ?_)
          refine lv_goto (tgt := 4) hx hb dX7_richest_49 (by decide) ?_
          exact ih u10 u14 I J _ h hn _ _ hW _ (lv_sub hl [1, 2, 0] rfl) hx1
        refine lv_icmp_le (tgt := 46) hx hb dX7_richest_41 (by decide) (fun c16 => ?_) (fun c16 => ?_)
        · replace h := gi_t h c16
          exact hj13 u1 h _ _ hW _ (lv_sub hl [0, 1, 2] rfl)
        · replace h := gi_f h c16
          refine lv_iload_n hx hb dX7_richest_44 rfl (lv_at hl 2 rfl) ?_
          refine lv_istore_n (lv' := [(1, .int u2), (0, .ref (ad 0)), (2, .int u2)]) hx hb dX7_richest_45 rfl hl (by decide) rfl (fun ls hl => ?_)
          exact hj13 u2 h _ _ hW _ (lv_sub hl [1, 0, 2] rfl)
      refine lv_icmp_ne (tgt := 32) hx hb dX7_richest_25 (by decide) (fun c17 => ?_) (fun c17 => ?_)
      · replace h := gi_f h c17
        refine lv_aload_n hx hb dX7_richest_32 rfl (lv_at hl 0 rfl) ?_
        refine g_get K hW (t := 2) (ci := 6) (k := 0) (v := .ref (ad 1)) kLM_0 rfl rfl i_X7 (by decide) q_1077 rfl (gfv2 rLM_0_0) dX7_richest_33 ?_
        refine lv_bipush (v := (23 : Int32)) hx hb dX7_richest_36 (by decide) ?_
        refine lv_iload_n hx hb dX7_richest_38 rfl (lv_at hl 1 rfl) ?_
        refine lv_iadd hx hb dX7_richest_39 ?_
        obtain ⟨g18, h⟩ := gd_o h hn
        refine g_iald K hW kLM_1 g18 rfl dX7_richest_40 ?_
        exact hj9 (I 1 (((23 : Int32) + u1)).toNatClampNeg) h _ _ hW _ (lv_sub hl [0, 1, 2] rfl)
      · replace h := gi_t h c17
        refine lv_iconst (v := (0 : Int32)) hx hb dX7_richest_28 (by decide) ?_
        refine lv_goto (tgt := 41) hx hb dX7_richest_29 (by decide) ?_
        exact hj9 (0 : Int32) h _ _ hW _ (lv_sub hl [0, 1, 2] rfl)
noncomputable def fX7_richest   (I : gI) : Option (Int32) :=
  bd (fX7_richest_4 FU (-1 : Int32) (0 : Int32) I) (fun (u21 : Int32) => some u21)
set_option maxHeartbeats 4000000 in
set_option maxRecDepth 100000 in
theorem kX7_richest {l : Launch} {G : gG} {ad : Nat → Nat} (hok : gInj LM ad)     (I : gI) (J : gJ) (r : Int32) (h : fX7_richest I = some r) : gMi l yX7_richest cX7_richest 3 (some .int) 1 G LM ad [.ref (ad 0)] I J r True I J := by
  refine gMi_of (lst := [(0, .ref (ad 0))]) (by decide) hok (Nat.le_of_ble_eq_true rfl) rfl ?_
  intro p e s m args below meth c Q ls K hW hl hfin
  have hn : (some r : Option (Int32)) ≠ none := Option.some_ne_none _
  have hx := K.1; have hb := K.2.1; have hown := K.2.2.2.1; have hts := K.2.2.2.2.1
  unfold fX7_richest at h
  refine lv_iconst (v := (-1 : Int32)) hx hb dX7_richest_0 (by decide) ?_
  refine lv_istore_n (lv' := [(1, .int (-1 : Int32)), (0, .ref (ad 0))]) hx hb dX7_richest_1 rfl hl (by decide) rfl (fun ls hl => ?_)
  refine lv_iconst (v := (0 : Int32)) hx hb dX7_richest_2 (by decide) ?_
  refine lv_istore_n (lv' := [(2, .int (0 : Int32)), (1, .int (-1 : Int32)), (0, .ref (ad 0))]) hx hb dX7_richest_3 rfl hl (by decide) rfl (fun ls hl => ?_)
  obtain ⟨r19, e20, h⟩ := bd_o h hn
  refine tX7_richest_4 hok K FU (-1 : Int32) (0 : Int32) I J (some r19) e20 (Option.some_ne_none _) _ _ hW _ (lv_sub hl [2, 1, 0] rfl) ?_
  · intro u21 q22 H locs hW ls hl
    replace q22 := Option.some.inj q22
    subst q22
    refine lv_iload_n hx hb dX7_richest_52 rfl (lv_at hl 0 rfl) ?_
    obtain a1 := so1 h
    exact g_nmi a1 (hfin _ _ _ _ hW dX7_richest_53)
noncomputable def fX7_rival_14b  (rec : Int32 → Int32 → Int32 → gI → Option ((Int32))) (u3 : Int32) (u4 : Int32) (u5 : Int32) (I : gI) : Option ((Int32)) :=
  gi ((I 1 0) ≤ u5)
 (some u4)
 (lz (fun (u8 : Int32) => lz ((u5 + (1 : Int32))) (fun (u12 : Int32) => rec u3 u8 u12 I)) (fun j9 => gi (u5 = u3)
 (j9 u4)
 (gd (vp_in ((39 : Int32) + u5) 1592) (gd (vp_in ((39 : Int32) + u3) 1592) (gi (((I 1 (((39 : Int32) + u5)).toNatClampNeg) &&& (I 1 (((39 : Int32) + u3)).toNatClampNeg)) = 0)
 (j9 u4)
 (bd (fX7_slicesOf u5 I) (fun (u18 : Int32) => bd (fX7_slicesOf u3 I) (fun (u21 : Int32) => gi ((u18 &&& u21) = 0)
 (j9 u4)
 (lz ((u4 ||| (jshl (1 : Int32) u5))) (fun (u25 : Int32) => j9 u25))))))))))
noncomputable def fX7_rival_14  : Nat → Int32 → Int32 → Int32 → gI → Option ((Int32))
  | 0 => fun _ _ _ _ => none
  | n + 1 => fX7_rival_14b  (fX7_rival_14  n)
set_option maxHeartbeats 4000000 in
set_option maxRecDepth 100000 in
theorem tX7_rival_14 {l : Launch} {G : gG} {ad : Nat → Nat} {p : Program} {e : Env} {s : State} {m : MethodId} {args : Array Value} {below : List Frame} {meth : Method} {c : Code} {Q : State → Prop} (hok : gInj LM ad) (K : gCx G (gA LM ad) p s m args c cX7_rival 4 RX7)  : ∀ (n : Nat) (u3 : Int32) (u4 : Int32) (u5 : Int32) (I : gI) (J : gJ) (out : Option ((Int32))), fX7_rival_14  n u3 u4 u5 I = out → out ≠ none → ∀ (H : Heap) (locs : List Loc), gWd G LM ad (gA LM ad) s.heap I J H locs → ∀ (ls : Array Slot), lv_has ls 4 [(0, .ref (ad 0)), (1, .int u3), (2, .int u4), (3, .int u5)] → (∀ (y6 : Int32), some y6 = out → ∀ (H : Heap) (locs : List Loc), gWd G LM ad (gA LM ad) s.heap I J H locs → ∀ (ls : Array Slot), lv_has ls 4 [(2, .int y6)] → W p l e (gRm 3) s m args below meth c H locs 0 0 Q (F0 m 77 ls [])) → W p l e (gRm 3) s m args below meth c H locs 0 0 Q (F0 m 14 ls []) := by
  have hx := K.1; have hb := K.2.1; have hown := K.2.2.2.1; have hts := K.2.2.2.2.1
  intro n
  induction n with
  | zero => intro u3 u4 u5 I J out h hn; exact absurd h.symm hn
  | succ n ih =>
    intro u3 u4 u5 I J out h hn H locs hW ls hl hx1
    replace h : fX7_rival_14b  (fX7_rival_14  n) u3 u4 u5 I = out := h
    unfold fX7_rival_14b at h
    refine lv_iload_n hx hb dX7_rival_14 rfl (lv_at hl 3 rfl) ?_
    refine lv_aload_n hx hb dX7_rival_15 rfl (lv_at hl 0 rfl) ?_
    refine g_get K hW (t := 2) (ci := 6) (k := 0) (v := .ref (ad 1)) kLM_0 rfl rfl i_X7 (by decide) q_1077 rfl (gfv2 rLM_0_0) dX7_rival_16 ?_
    refine lv_iconst (v := (0 : Int32)) hx hb dX7_rival_19 (by decide) ?_
    refine g_iald K hW kLM_1 in_0_1592 tn_0 dX7_rival_20 ?_
    refine lv_icmp_ge (tgt := 77) hx hb dX7_rival_21 (by decide) (fun c7 => ?_) (fun c7 => ?_)
    · replace h := gi_t h c7
      exact hx1 u4 h _ _ hW _ (lv_sub hl [2] rfl)
    · replace h := gi_f h c7
      refine lv_iload_n hx hb dX7_rival_24 rfl (lv_at hl 3 rfl) ?_
      refine lv_iload_n hx hb dX7_rival_25 rfl (lv_at hl 1 rfl) ?_
      obtain ⟨j9, e10, h⟩ := lz_o h
      have hj11 : ∀ (u8 : Int32), j9 u8 = out → ∀ (H : Heap) (locs : List Loc), gWd G LM ad (gA LM ad) s.heap I J H locs → ∀ (ls : Array Slot), lv_has ls 4 [(0, .ref (ad 0)), (1, .int u3), (2, .int u8), (3, .int u5)] → W p l e (gRm 3) s m args below meth c H locs 0 0 Q (F0 m 71 ls []) := by
        intro u8 h H locs hW ls hl
        replace h := jn1 e10 h
        obtain ⟨u12, e13, h⟩ := lz_o h
        refine lv_iinc (v := u12) (lv' := [(3, .int u12), (0, .ref (ad 0)), (1, .int u3), (2, .int u8)]) hx hb dX7_rival_71 hl (k := 3) rfl (by rw [e13]; rfl) (by decide) rfl (fun ls hl => ?_)
        refine lv_goto (tgt := 14) hx hb dX7_rival_74 (by decide) ?_
        exact ih u3 u8 u12 I J _ h hn _ _ hW _ (lv_sub hl [1, 2, 3, 0] rfl) hx1
      refine lv_icmp_eq (tgt := 71) hx hb dX7_rival_26 (by decide) (fun c14 => ?_) (fun c14 => ?_)
      · replace h := gi_t h c14
        exact hj11 u4 h _ _ hW _ (lv_sub hl [0, 1, 2, 3] rfl)
      · replace h := gi_f h c14
        refine lv_aload_n hx hb dX7_rival_29 rfl (lv_at hl 0 rfl) ?_
        refine g_get K hW (t := 2) (ci := 6) (k := 0) (v := .ref (ad 1)) kLM_0 rfl rfl i_X7 (by decide) q_1077 rfl (gfv2 rLM_0_0) dX7_rival_30 ?_
        refine lv_bipush (v := (39 : Int32)) hx hb dX7_rival_33 (by decide) ?_
        refine lv_iload_n hx hb dX7_rival_35 rfl (lv_at hl 3 rfl) ?_
        refine lv_iadd hx hb dX7_rival_36 ?_
        obtain ⟨g15, h⟩ := gd_o h hn
        refine g_iald K hW kLM_1 g15 rfl dX7_rival_37 ?_
        refine lv_aload_n hx hb dX7_rival_38 rfl (lv_at hl 0 rfl) ?_
        refine g_get K hW (t := 2) (ci := 6) (k := 0) (v := .ref (ad 1)) kLM_0 rfl rfl i_X7 (by decide) q_1077 rfl (gfv2 rLM_0_0) dX7_rival_39 ?_
        refine lv_bipush (v := (39 : Int32)) hx hb dX7_rival_42 (by decide) ?_
        refine lv_iload_n hx hb dX7_rival_44 rfl (lv_at hl 1 rfl) ?_
        refine lv_iadd hx hb dX7_rival_45 ?_
        obtain ⟨g16, h⟩ := gd_o h hn
        refine g_iald K hW kLM_1 g16 rfl dX7_rival_46 ?_
        refine lv_iand hx hb dX7_rival_47 ?_
        refine lv_if_eq (tgt := 71) hx hb dX7_rival_48 (by decide) (fun c17 => ?_) (fun c17 => ?_)
        · replace h := gi_t h c17
          exact hj11 u4 h _ _ hW _ (lv_sub hl [0, 1, 2, 3] rfl)
        · replace h := gi_f h c17
          refine lv_aload_n hx hb dX7_rival_51 rfl (lv_at hl 0 rfl) ?_
          refine lv_iload_n hx hb dX7_rival_52 rfl (lv_at hl 3 rfl) ?_
          obtain ⟨u18, e19, h⟩ := bd_o h hn
          refine g_callVi (rest := []) K hW hl (kX7_slicesOf (l := l) (G := G) (ad := ad) hok u5 I J u18 e19) kLM_0 rfl (gG_V q_1358 q_1360 q_82 q_139 q_1361) nm_X7_slicesOf ⟨Nat.le_of_ble_eq_true rfl, Nat.le_of_ble_eq_true rfl⟩ rfl rfl (Nat.le_of_ble_eq_true rfl) ⟨Nat.zero_le _, Nat.zero_le _⟩ dX7_rival_53 (fun z20 H locs hW => ?_)
          refine lv_aload_n hx hb dX7_rival_56 rfl (lv_at hl 0 rfl) ?_
          refine lv_iload_n hx hb dX7_rival_57 rfl (lv_at hl 1 rfl) ?_
          obtain ⟨u21, e22, h⟩ := bd_o h hn
          refine g_callVi (rest := [.int u18]) K hW hl (kX7_slicesOf (l := l) (G := G) (ad := ad) hok u3 I J u21 e22) kLM_0 rfl (gG_V q_1358 q_1360 q_82 q_139 q_1361) nm_X7_slicesOf ⟨Nat.le_of_ble_eq_true rfl, Nat.le_of_ble_eq_true rfl⟩ rfl rfl (Nat.le_of_ble_eq_true rfl) ⟨Nat.zero_le _, Nat.zero_le _⟩ dX7_rival_58 (fun z23 H locs hW => ?_)
          refine lv_iand hx hb dX7_rival_61 ?_
          refine lv_if_eq (tgt := 71) hx hb dX7_rival_62 (by decide) (fun c24 => ?_) (fun c24 => ?_)
          · replace h := gi_t h c24
            exact hj11 u4 h _ _ hW _ (lv_sub hl [0, 1, 2, 3] rfl)
          · replace h := gi_f h c24
            refine lv_iload_n hx hb dX7_rival_65 rfl (lv_at hl 2 rfl) ?_
            refine lv_iconst (v := (1 : Int32)) hx hb dX7_rival_66 (by decide) ?_
            refine lv_iload_n hx hb dX7_rival_67 rfl (lv_at hl 3 rfl) ?_
            refine g_ishl hx hb dX7_rival_68 ?_
            refine lv_ior hx hb dX7_rival_69 ?_
            obtain ⟨u25, e26, h⟩ := lz_o h
            refine g_nmi e26 ?_
            refine lv_istore_n (lv' := [(2, .int u25), (0, .ref (ad 0)), (1, .int u3), (3, .int u5)]) hx hb dX7_rival_70 rfl hl (by decide) rfl (fun ls hl => ?_)
            exact hj11 u25 h _ _ hW _ (lv_sub hl [1, 2, 0, 3] rfl)
noncomputable def fX7_rival  (x1 : Int32) (I : gI) : Option (Int32) :=
  gi ((fX7_isBuyer x1 I) = 0)
 (some (-1 : Int32))
 (bd (fX7_rival_14 FU x1 (0 : Int32) (0 : Int32) I) (fun (u29 : Int32) => some u29))
set_option maxHeartbeats 4000000 in
set_option maxRecDepth 100000 in
theorem kX7_rival {l : Launch} {G : gG} {ad : Nat → Nat} (hok : gInj LM ad)    (x1 : Int32) (I : gI) (J : gJ) (r : Int32) (h : fX7_rival x1 I = some r) : gMi l yX7_rival cX7_rival 4 (some .int) 3 G LM ad [.ref (ad 0), .int x1] I J r True I J := by
  refine gMi_of (lst := [(0, .ref (ad 0)), (1, .int x1)]) (by decide) hok (Nat.le_of_ble_eq_true rfl) rfl ?_
  intro p e s m args below meth c Q ls K hW hl hfin
  have hn : (some r : Option (Int32)) ≠ none := Option.some_ne_none _
  have hx := K.1; have hb := K.2.1; have hown := K.2.2.2.1; have hts := K.2.2.2.2.1
  unfold fX7_rival at h
  refine lv_aload_n hx hb dX7_rival_0 rfl (lv_at hl 0 rfl) ?_
  refine lv_iload_n hx hb dX7_rival_1 rfl (lv_at hl 1 rfl) ?_
  refine g_callVi (rest := []) K hW hl (kX7_isBuyer (l := l) (G := G) (ad := ad) hok x1 I J (fX7_isBuyer x1 I) rfl) kLM_0 rfl (gG_V q_1350 q_1352 q_80 q_139 q_1353) nm_X7_isBuyer ⟨Nat.le_of_ble_eq_true rfl, Nat.le_of_ble_eq_true rfl⟩ rfl rfl (Nat.le_of_ble_eq_true rfl) ⟨Nat.zero_le _, Nat.zero_le _⟩ dX7_rival_2 (fun z1 H locs hW => ?_)
  refine lv_if_ne (tgt := 10) hx hb dX7_rival_5 (by decide) (fun c2 => ?_) (fun c2 => ?_)
  · replace h := gi_f h c2
    refine lv_iconst (v := (0 : Int32)) hx hb dX7_rival_10 (by decide) ?_
    refine lv_istore_n (lv' := [(2, .int (0 : Int32)), (0, .ref (ad 0)), (1, .int x1)]) hx hb dX7_rival_11 rfl hl (by decide) rfl (fun ls hl => ?_)
    refine lv_iconst (v := (0 : Int32)) hx hb dX7_rival_12 (by decide) ?_
    refine lv_istore_n (lv' := [(3, .int (0 : Int32)), (2, .int (0 : Int32)), (0, .ref (ad 0)), (1, .int x1)]) hx hb dX7_rival_13 rfl hl (by decide) rfl (fun ls hl => ?_)
    obtain ⟨r27, e28, h⟩ := bd_o h hn
    refine tX7_rival_14 hok K FU x1 (0 : Int32) (0 : Int32) I J (some r27) e28 (Option.some_ne_none _) _ _ hW _ (lv_sub hl [2, 3, 1, 0] rfl) ?_
    · intro u29 q30 H locs hW ls hl
      replace q30 := Option.some.inj q30
      subst q30
      refine lv_iload_n hx hb dX7_rival_77 rfl (lv_at hl 0 rfl) ?_
      obtain a1 := so1 h
      exact g_nmi a1 (hfin _ _ _ _ hW dX7_rival_78)
  · replace h := gi_t h c2
    refine lv_iconst (v := (-1 : Int32)) hx hb dX7_rival_8 (by decide) ?_
    obtain a1 := so1 h
    exact g_nmi a1 (hfin _ _ _ _ hW dX7_rival_9)
noncomputable def fX7_can  (x1 : Int32) (I : gI) (J : gJ) : Option (Int32 × gI × gJ) :=
  bd (fX7_canSell x1 I J) (pr (fun (u1 : Int32) => pr (fun (I2 : gI) (J3 : gJ) => some (u1, I2, J3))))
set_option maxHeartbeats 4000000 in
set_option maxRecDepth 100000 in
theorem kX7_can {l : Launch} {G : gG} {ad : Nat → Nat} (hok : gInj LM ad)    (x1 : Int32) (I : gI) (J : gJ) (r : Int32) (I' : gI) (J' : gJ) (h : fX7_can x1 I J = some (r, I', J')) : gMi l yX7_can cX7_can 2 (some .boolean) 8 G LM ad [.ref (ad 0), .int x1] I J r (r = 0 ∨ r = 1) I' J' := by
  refine gMz_of (lst := [(0, .ref (ad 0)), (1, .int x1)]) (by decide) hok (Nat.le_of_ble_eq_true rfl) rfl ?_
  intro p e s m args below meth c Q ls K hW hl hfin
  have hn : (some (r, I', J') : Option (Int32 × gI × gJ)) ≠ none := Option.some_ne_none _
  have hx := K.1; have hb := K.2.1; have hown := K.2.2.2.1; have hts := K.2.2.2.2.1
  unfold fX7_can at h
  refine lv_aload_n hx hb dX7_can_0 rfl (lv_at hl 0 rfl) ?_
  refine lv_iload_n hx hb dX7_can_1 rfl (lv_at hl 1 rfl) ?_
  obtain ⟨⟨u1, I2, J3⟩, e4, h⟩ := bd_o h hn
  replace h := pr_o h
  replace h := pr_o h
  refine g_callVi (rest := []) K hW hl (kX7_canSell (l := l) (G := G) (ad := ad) hok x1 I J u1 I2 J3 e4) kLM_0 rfl (gG_V q_1346 q_1348 q_79 q_139 q_1349) nm_X7_canSell ⟨Nat.le_of_ble_eq_true rfl, Nat.le_of_ble_eq_true rfl⟩ rfl rfl (Nat.le_of_ble_eq_true rfl) ⟨Nat.zero_le _, Nat.zero_le _⟩ dX7_can_2 (fun z5 H locs hW => ?_)
  obtain ⟨a1, a2, a3⟩ := so3 h
  replace hW := gWd_nI a2 hW
  replace hW := gWd_nJ a3 hW
  exact g_nmi a1 (hfin _ _ _ _ (a1 ▸ z5) hW dX7_can_5)
