-- 12.m06: the reference: canGive giveNow canTurn turnNow nextSort passDay keepStep undo sell give turn canPass pass
theorem nm_X7_isSlice : gNm yX7_isSlice 1 := by decide +kernel
noncomputable def fX7_canGive  (x1 : Int32) (I : gI) : Option (Int32) :=
  gi ((fX7_isSlice x1) = 0)
 (some (0 : Int32))
 (gd (vp_in ((11 : Int32) + x1) 1592) (gi ((I 1 (((11 : Int32) + x1)).toNatClampNeg) = (-1 : Int32))
 (some (1 : Int32))
 (some (0 : Int32))))
set_option maxHeartbeats 4000000 in
set_option maxRecDepth 100000 in
theorem kX7_canGive {l : Launch} {G : gG} {ad : Nat → Nat} (hok : gInj LM ad)    (x1 : Int32) (I : gI) (J : gJ) (r : Int32) (h : fX7_canGive x1 I = some r) : gMi l yX7_canGive cX7_canGive 2 (some .boolean) 3 G LM ad [.ref (ad 0), .int x1] I J r (r = 0 ∨ r = 1) I J := by
  refine gMz_of (lst := [(0, .ref (ad 0)), (1, .int x1)]) (by decide) hok (Nat.le_of_ble_eq_true rfl) rfl ?_
  intro p e s m args below meth c Q ls K hW hl hfin
  have hn : (some r : Option (Int32)) ≠ none := Option.some_ne_none _
  have hx := K.1; have hb := K.2.1; have hown := K.2.2.2.1; have hts := K.2.2.2.2.1
  unfold fX7_canGive at h
  refine lv_iload_n hx hb dX7_canGive_0 rfl (lv_at hl 1 rfl) ?_
  refine g_callSi (rest := []) K hW hl (kX7_isSlice (l := l) (G := G) (ad := ad) hok x1 I J (fX7_isSlice x1) rfl) q_1443 q_1444 q_139 q_1445 nm_X7_isSlice ⟨Nat.le_of_ble_eq_true rfl, Nat.le_of_ble_eq_true rfl⟩ rfl rfl (Nat.le_of_ble_eq_true rfl) ⟨Nat.zero_le _, Nat.zero_le _⟩ dX7_canGive_1 (fun z1 H locs hW => ?_)
  refine lv_if_eq (tgt := 24) hx hb dX7_canGive_4 (by decide) (fun c2 => ?_) (fun c2 => ?_)
  · replace h := gi_t h c2
    refine lv_iconst (v := (0 : Int32)) hx hb dX7_canGive_24 (by decide) ?_
    obtain a1 := so1 h
    exact g_nmi a1 (hfin _ _ _ _ (a1 ▸ (Or.inl rfl)) hW dX7_canGive_25)
  · replace h := gi_f h c2
    refine lv_aload_n hx hb dX7_canGive_7 rfl (lv_at hl 0 rfl) ?_
    refine g_get K hW (t := 2) (ci := 6) (k := 0) (v := .ref (ad 1)) kLM_0 rfl rfl i_X7 (by decide) q_1077 rfl (gfv2 rLM_0_0) dX7_canGive_8 ?_
    refine lv_bipush (v := (11 : Int32)) hx hb dX7_canGive_11 (by decide) ?_
    refine lv_iload_n hx hb dX7_canGive_13 rfl (lv_at hl 1 rfl) ?_
    refine lv_iadd hx hb dX7_canGive_14 ?_
    obtain ⟨g3, h⟩ := gd_o h hn
    refine g_iald K hW kLM_1 g3 rfl dX7_canGive_15 ?_
    refine lv_iconst (v := (-1 : Int32)) hx hb dX7_canGive_16 (by decide) ?_
    refine lv_icmp_ne (tgt := 24) hx hb dX7_canGive_17 (by decide) (fun c4 => ?_) (fun c4 => ?_)
    · replace h := gi_f h c4
      refine lv_iconst (v := (0 : Int32)) hx hb dX7_canGive_24 (by decide) ?_
      obtain a1 := so1 h
      exact g_nmi a1 (hfin _ _ _ _ (a1 ▸ (Or.inl rfl)) hW dX7_canGive_25)
    · replace h := gi_t h c4
      refine lv_iconst (v := (1 : Int32)) hx hb dX7_canGive_20 (by decide) ?_
      refine lv_goto (tgt := 25) hx hb dX7_canGive_21 (by decide) ?_
      obtain a1 := so1 h
      exact g_nmi a1 (hfin _ _ _ _ (a1 ▸ (Or.inr rfl)) hW dX7_canGive_25)
noncomputable def fX7_giveNow  (x1 : Int32) (I : gI) : Option (gI) :=
  gd (vp_in ((11 : Int32) + x1) 1592) (lz (wI I 1 (((11 : Int32) + x1)).toNatClampNeg (6 : Int32)) (fun (I3 : gI) => bd (fX7_write (1 : Int32) x1 (0 : Int32) I3) (fun (I4 : gI) => some I4)))
set_option maxHeartbeats 4000000 in
set_option maxRecDepth 100000 in
theorem kX7_giveNow {l : Launch} {G : gG} {ad : Nat → Nat} (hok : gInj LM ad)    (x1 : Int32) (I : gI) (J : gJ) (I' : gI) (h : fX7_giveNow x1 I = some I') : gMv l yX7_giveNow cX7_giveNow 2 none 2 G LM ad [.ref (ad 0), .int x1] I J I' J := by
  refine gMv_of (lst := [(0, .ref (ad 0)), (1, .int x1)]) (by decide) hok (Nat.le_of_ble_eq_true rfl) rfl ?_
  intro p e s m args below meth c Q ls K hW hl hfin
  have hn : (some I' : Option (gI)) ≠ none := Option.some_ne_none _
  have hx := K.1; have hb := K.2.1; have hown := K.2.2.2.1; have hts := K.2.2.2.2.1
  unfold fX7_giveNow at h
  refine lv_aload_n hx hb dX7_giveNow_0 rfl (lv_at hl 0 rfl) ?_
  refine g_get K hW (t := 2) (ci := 6) (k := 0) (v := .ref (ad 1)) kLM_0 rfl rfl i_X7 (by decide) q_1077 rfl (gfv2 rLM_0_0) dX7_giveNow_1 ?_
  refine lv_bipush (v := (11 : Int32)) hx hb dX7_giveNow_4 (by decide) ?_
  refine lv_iload_n hx hb dX7_giveNow_6 rfl (lv_at hl 1 rfl) ?_
  refine lv_iadd hx hb dX7_giveNow_7 ?_
  refine lv_bipush (v := (6 : Int32)) hx hb dX7_giveNow_8 (by decide) ?_
  obtain ⟨g1, h⟩ := gd_o h hn
  refine g_iast K hW kLM_1 g1 rfl dX7_giveNow_10 (fun H locs hW => ?_)
  obtain ⟨I3, e2, h⟩ := lz_o h
  replace hW := gWd_nI e2 hW
  refine lv_aload_n hx hb dX7_giveNow_11 rfl (lv_at hl 0 rfl) ?_
  refine lv_iconst (v := (1 : Int32)) hx hb dX7_giveNow_12 (by decide) ?_
  refine lv_iload_n hx hb dX7_giveNow_13 rfl (lv_at hl 1 rfl) ?_
  refine lv_iconst (v := (0 : Int32)) hx hb dX7_giveNow_14 (by decide) ?_
  obtain ⟨I4, e5, h⟩ := bd_o h hn
  refine g_callVv (rest := []) K hW hl (kX7_write (l := l) (G := G) (ad := ad) hok (1 : Int32) x1 (0 : Int32) I3 J I4 e5) kLM_0 rfl (gG_V q_1431 q_1433 q_95 q_139 q_1434) nm_X7_write ⟨Nat.le_of_ble_eq_true rfl, Nat.le_of_ble_eq_true rfl⟩ rfl rfl (Nat.le_of_ble_eq_true rfl) ⟨Nat.zero_le _, Nat.zero_le _⟩ dX7_giveNow_15 (fun H locs hW => ?_)
  obtain a1 := so1 h
  replace hW := gWd_nI a1 hW
  exact hfin _ _ _ _ hW dX7_giveNow_18
noncomputable def fX7_canTurn  (x1 : Int32) (I : gI) : Option (Int32) :=
  gi ((fX7_isBuyer x1 I) = 0)
 (some (0 : Int32))
 (bd (fX7_hasNow x1 I) (fun (u3 : Int32) => gi (u3 ≤ 0)
 (some (0 : Int32))
 (some (1 : Int32))))
set_option maxHeartbeats 4000000 in
set_option maxRecDepth 100000 in
theorem kX7_canTurn {l : Launch} {G : gG} {ad : Nat → Nat} (hok : gInj LM ad)    (x1 : Int32) (I : gI) (J : gJ) (r : Int32) (h : fX7_canTurn x1 I = some r) : gMi l yX7_canTurn cX7_canTurn 2 (some .boolean) 3 G LM ad [.ref (ad 0), .int x1] I J r (r = 0 ∨ r = 1) I J := by
  refine gMz_of (lst := [(0, .ref (ad 0)), (1, .int x1)]) (by decide) hok (Nat.le_of_ble_eq_true rfl) rfl ?_
  intro p e s m args below meth c Q ls K hW hl hfin
  have hn : (some r : Option (Int32)) ≠ none := Option.some_ne_none _
  have hx := K.1; have hb := K.2.1; have hown := K.2.2.2.1; have hts := K.2.2.2.2.1
  unfold fX7_canTurn at h
  refine lv_aload_n hx hb dX7_canTurn_0 rfl (lv_at hl 0 rfl) ?_
  refine lv_iload_n hx hb dX7_canTurn_1 rfl (lv_at hl 1 rfl) ?_
  refine g_callVi (rest := []) K hW hl (kX7_isBuyer (l := l) (G := G) (ad := ad) hok x1 I J (fX7_isBuyer x1 I) rfl) kLM_0 rfl (gG_V q_1350 q_1352 q_80 q_139 q_1353) nm_X7_isBuyer ⟨Nat.le_of_ble_eq_true rfl, Nat.le_of_ble_eq_true rfl⟩ rfl rfl (Nat.le_of_ble_eq_true rfl) ⟨Nat.zero_le _, Nat.zero_le _⟩ dX7_canTurn_2 (fun z1 H locs hW => ?_)
  refine lv_if_eq (tgt := 20) hx hb dX7_canTurn_5 (by decide) (fun c2 => ?_) (fun c2 => ?_)
  · replace h := gi_t h c2
    refine lv_iconst (v := (0 : Int32)) hx hb dX7_canTurn_20 (by decide) ?_
    obtain a1 := so1 h
    exact g_nmi a1 (hfin _ _ _ _ (a1 ▸ (Or.inl rfl)) hW dX7_canTurn_21)
  · replace h := gi_f h c2
    refine lv_aload_n hx hb dX7_canTurn_8 rfl (lv_at hl 0 rfl) ?_
    refine lv_iload_n hx hb dX7_canTurn_9 rfl (lv_at hl 1 rfl) ?_
    obtain ⟨u3, e4, h⟩ := bd_o h hn
    refine g_callVi (rest := []) K hW hl (kX7_hasNow (l := l) (G := G) (ad := ad) hok x1 I J u3 e4) kLM_0 rfl (gG_V q_1385 q_1387 q_88 q_139 q_1388) nm_X7_hasNow ⟨Nat.le_of_ble_eq_true rfl, Nat.le_of_ble_eq_true rfl⟩ rfl rfl (Nat.le_of_ble_eq_true rfl) ⟨Nat.zero_le _, Nat.zero_le _⟩ dX7_canTurn_10 (fun z5 H locs hW => ?_)
    refine lv_if_le (tgt := 20) hx hb dX7_canTurn_13 (by decide) (fun c6 => ?_) (fun c6 => ?_)
    · replace h := gi_t h c6
      refine lv_iconst (v := (0 : Int32)) hx hb dX7_canTurn_20 (by decide) ?_
      obtain a1 := so1 h
      exact g_nmi a1 (hfin _ _ _ _ (a1 ▸ (Or.inl rfl)) hW dX7_canTurn_21)
    · replace h := gi_f h c6
      refine lv_iconst (v := (1 : Int32)) hx hb dX7_canTurn_16 (by decide) ?_
      refine lv_goto (tgt := 21) hx hb dX7_canTurn_17 (by decide) ?_
      obtain a1 := so1 h
      exact g_nmi a1 (hfin _ _ _ _ (a1 ▸ (Or.inr rfl)) hW dX7_canTurn_21)
noncomputable def fX7_turnNow_2b  (rec : Int32 → Int32 → gI → Option ((gI))) (u1 : Int32) (u2 : Int32) (I : gI) : Option ((gI)) :=
  gi ((12 : Int32) ≤ u2)
 (some I)
 (gd (vp_in ((11 : Int32) + u2) 1592) (lz (fun (I6 : gI) => lz ((u2 + (1 : Int32))) (fun (u10 : Int32) => rec u1 u10 I6)) (fun j7 => gi ((I 1 (((11 : Int32) + u2)).toNatClampNeg) = u1)
 (lz (wI I 1 (((11 : Int32) + u2)).toNatClampNeg (-1 : Int32)) (fun (I14 : gI) => j7 I14))
 (j7 I))))
noncomputable def fX7_turnNow_2  : Nat → Int32 → Int32 → gI → Option ((gI))
  | 0 => fun _ _ _ => none
  | n + 1 => fX7_turnNow_2b  (fX7_turnNow_2  n)
set_option maxHeartbeats 4000000 in
set_option maxRecDepth 100000 in
theorem tX7_turnNow_2 {l : Launch} {G : gG} {ad : Nat → Nat} {p : Program} {e : Env} {s : State} {m : MethodId} {args : Array Value} {below : List Frame} {meth : Method} {c : Code} {Q : State → Prop} (hok : gInj LM ad) (K : gCx G (gA LM ad) p s m args c cX7_turnNow 3 RX7)  : ∀ (n : Nat) (u1 : Int32) (u2 : Int32) (I : gI) (J : gJ) (out : Option ((gI))), fX7_turnNow_2  n u1 u2 I = out → out ≠ none → ∀ (H : Heap) (locs : List Loc), gWd G LM ad (gA LM ad) s.heap I J H locs → ∀ (ls : Array Slot), lv_has ls 3 [(0, .ref (ad 0)), (1, .int u1), (2, .int u2)] → (∀ (I3 : gI), some I3 = out → ∀ (H : Heap) (locs : List Loc), gWd G LM ad (gA LM ad) s.heap I3 J H locs → ∀ (ls : Array Slot), lv_has ls 3 [(0, .ref (ad 0)), (1, .int u1)] → W p l e (gRm 2) s m args below meth c H locs 0 0 Q (F0 m 37 ls [])) → W p l e (gRm 2) s m args below meth c H locs 0 0 Q (F0 m 2 ls []) := by
  have hx := K.1; have hb := K.2.1; have hown := K.2.2.2.1; have hts := K.2.2.2.2.1
  intro n
  induction n with
  | zero => intro u1 u2 I J out h hn; exact absurd h.symm hn
  | succ n ih =>
    intro u1 u2 I J out h hn H locs hW ls hl hx1
    replace h : fX7_turnNow_2b  (fX7_turnNow_2  n) u1 u2 I = out := h
    unfold fX7_turnNow_2b at h
    refine lv_iload_n hx hb dX7_turnNow_2 rfl (lv_at hl 2 rfl) ?_
    refine lv_bipush (v := (12 : Int32)) hx hb dX7_turnNow_3 (by decide) ?_
    refine lv_icmp_ge (tgt := 37) hx hb dX7_turnNow_5 (by decide) (fun c4 => ?_) (fun c4 => ?_)
    · replace h := gi_t h c4
      exact hx1 I h _ _ hW _ (lv_sub hl [0, 1] rfl)
    · replace h := gi_f h c4
      refine lv_aload_n hx hb dX7_turnNow_8 rfl (lv_at hl 0 rfl) ?_
      refine g_get K hW (t := 2) (ci := 6) (k := 0) (v := .ref (ad 1)) kLM_0 rfl rfl i_X7 (by decide) q_1077 rfl (gfv2 rLM_0_0) dX7_turnNow_9 ?_
      refine lv_bipush (v := (11 : Int32)) hx hb dX7_turnNow_12 (by decide) ?_
      refine lv_iload_n hx hb dX7_turnNow_14 rfl (lv_at hl 2 rfl) ?_
      refine lv_iadd hx hb dX7_turnNow_15 ?_
      obtain ⟨g5, h⟩ := gd_o h hn
      refine g_iald K hW kLM_1 g5 rfl dX7_turnNow_16 ?_
      refine lv_iload_n hx hb dX7_turnNow_17 rfl (lv_at hl 1 rfl) ?_
      obtain ⟨j7, e8, h⟩ := lz_o h
      have hj9 : ∀ (I6 : gI), j7 I6 = out → ∀ (H : Heap) (locs : List Loc), gWd G LM ad (gA LM ad) s.heap I6 J H locs → ∀ (ls : Array Slot), lv_has ls 3 [(0, .ref (ad 0)), (1, .int u1), (2, .int u2)] → W p l e (gRm 2) s m args below meth c H locs 0 0 Q (F0 m 31 ls []) := by
        intro I6 h H locs hW ls hl
        replace h := jn1 e8 h
        obtain ⟨u10, e11, h⟩ := lz_o h
        refine lv_iinc (v := u10) (lv' := [(2, .int u10), (0, .ref (ad 0)), (1, .int u1)]) hx hb dX7_turnNow_31 hl (k := 2) rfl (by rw [e11]; rfl) (by decide) rfl (fun ls hl => ?_)
        refine lv_goto (tgt := 2) hx hb dX7_turnNow_34 (by decide) ?_
        exact ih u1 u10 I6 J _ h hn _ _ hW _ (lv_sub hl [1, 2, 0] rfl) hx1
      refine lv_icmp_ne (tgt := 31) hx hb dX7_turnNow_18 (by decide) (fun c12 => ?_) (fun c12 => ?_)
      · replace h := gi_f h c12
        exact hj9 I h _ _ hW _ (lv_sub hl [0, 1, 2] rfl)
      · replace h := gi_t h c12
        refine lv_aload_n hx hb dX7_turnNow_21 rfl (lv_at hl 0 rfl) ?_
        refine g_get K hW (t := 2) (ci := 6) (k := 0) (v := .ref (ad 1)) kLM_0 rfl rfl i_X7 (by decide) q_1077 rfl (gfv2 rLM_0_0) dX7_turnNow_22 ?_
        refine lv_bipush (v := (11 : Int32)) hx hb dX7_turnNow_25 (by decide) ?_
        refine lv_iload_n hx hb dX7_turnNow_27 rfl (lv_at hl 2 rfl) ?_
        refine lv_iadd hx hb dX7_turnNow_28 ?_
        refine lv_iconst (v := (-1 : Int32)) hx hb dX7_turnNow_29 (by decide) ?_
        refine g_iast K hW kLM_1 g5 rfl dX7_turnNow_30 (fun H locs hW => ?_)
        obtain ⟨I14, e13, h⟩ := lz_o h
        replace hW := gWd_nI e13 hW
        exact hj9 I14 h _ _ hW _ (lv_sub hl [0, 1, 2] rfl)
noncomputable def fX7_turnNow  (x1 : Int32) (I : gI) : Option (gI) :=
  bd (fX7_turnNow_2 FU x1 (0 : Int32) I) (fun (I17 : gI) => bd (fX7_write (2 : Int32) x1 (0 : Int32) I17) (fun (I19 : gI) => some I19))
set_option maxHeartbeats 4000000 in
set_option maxRecDepth 100000 in
theorem kX7_turnNow {l : Launch} {G : gG} {ad : Nat → Nat} (hok : gInj LM ad)    (x1 : Int32) (I : gI) (J : gJ) (I' : gI) (h : fX7_turnNow x1 I = some I') : gMv l yX7_turnNow cX7_turnNow 3 none 2 G LM ad [.ref (ad 0), .int x1] I J I' J := by
  refine gMv_of (lst := [(0, .ref (ad 0)), (1, .int x1)]) (by decide) hok (Nat.le_of_ble_eq_true rfl) rfl ?_
  intro p e s m args below meth c Q ls K hW hl hfin
  have hn : (some I' : Option (gI)) ≠ none := Option.some_ne_none _
  have hx := K.1; have hb := K.2.1; have hown := K.2.2.2.1; have hts := K.2.2.2.2.1
  unfold fX7_turnNow at h
  refine lv_iconst (v := (0 : Int32)) hx hb dX7_turnNow_0 (by decide) ?_
  refine lv_istore_n (lv' := [(2, .int (0 : Int32)), (0, .ref (ad 0)), (1, .int x1)]) hx hb dX7_turnNow_1 rfl hl (by decide) rfl (fun ls hl => ?_)
  obtain ⟨r15, e16, h⟩ := bd_o h hn
  refine tX7_turnNow_2 hok K FU x1 (0 : Int32) I J (some r15) e16 (Option.some_ne_none _) _ _ hW _ (lv_sub hl [1, 2, 0] rfl) ?_
  · intro I17 q18 H locs hW ls hl
    replace q18 := Option.some.inj q18
    subst q18
    refine lv_aload_n hx hb dX7_turnNow_37 rfl (lv_at hl 0 rfl) ?_
    refine lv_iconst (v := (2 : Int32)) hx hb dX7_turnNow_38 (by decide) ?_
    refine lv_iload_n hx hb dX7_turnNow_39 rfl (lv_at hl 1 rfl) ?_
    refine lv_iconst (v := (0 : Int32)) hx hb dX7_turnNow_40 (by decide) ?_
    obtain ⟨I19, e20, h⟩ := bd_o h hn
    refine g_callVv (rest := []) K hW hl (kX7_write (l := l) (G := G) (ad := ad) hok (2 : Int32) x1 (0 : Int32) I17 J I19 e20) kLM_0 rfl (gG_V q_1431 q_1433 q_95 q_139 q_1434) nm_X7_write ⟨Nat.le_of_ble_eq_true rfl, Nat.le_of_ble_eq_true rfl⟩ rfl rfl (Nat.le_of_ble_eq_true rfl) ⟨Nat.zero_le _, Nat.zero_le _⟩ dX7_turnNow_41 (fun H locs hW => ?_)
    obtain a1 := so1 h
    replace hW := gWd_nI a1 hW
    exact hfin _ _ _ _ hW dX7_turnNow_44
theorem nm_X7_allOdds : gNm yX7_allOdds 0 := by decide +kernel
theorem nm_X7_drawnBy : gNm yX7_drawnBy 1 := by decide +kernel
theorem in_29_1592 : vp_in (29 : Int32) 1592 := in_c (by decide +kernel) (by decide +kernel)
theorem tn_29 : (29 : Int32).toNatClampNeg = 29 := by decide +kernel
noncomputable def fX7_nextSort_28b  (rec : Int32 → Int32 → Int32 → gI → Option ((Int32))) (u14 : Int32) (u15 : Int32) (u16 : Int32) (I : gI) : Option ((Int32)) :=
  gi (u14 < u16)
 (some u15)
 (lz ((u15 + (1 : Int32))) (fun (u19 : Int32) => gd (vp_in ((29 : Int32) + u19) 1592) (lz ((u16 + (I 1 (((29 : Int32) + u19)).toNatClampNeg))) (fun (u22 : Int32) => rec u14 u19 u22 I))))
noncomputable def fX7_nextSort_28  : Nat → Int32 → Int32 → Int32 → gI → Option ((Int32))
  | 0 => fun _ _ _ _ => none
  | n + 1 => fX7_nextSort_28b  (fX7_nextSort_28  n)
set_option maxHeartbeats 4000000 in
set_option maxRecDepth 100000 in
theorem tX7_nextSort_28 {l : Launch} {G : gG} {ad : Nat → Nat} {p : Program} {e : Env} {s : State} {m : MethodId} {args : Array Value} {below : List Frame} {meth : Method} {c : Code} {Q : State → Prop} (hok : gInj LM ad) (K : gCx G (gA LM ad) p s m args c cX7_nextSort 4 RX7)  : ∀ (n : Nat) (u14 : Int32) (u15 : Int32) (u16 : Int32) (I : gI) (J : gJ) (out : Option ((Int32))), fX7_nextSort_28  n u14 u15 u16 I = out → out ≠ none → ∀ (H : Heap) (locs : List Loc), gWd G LM ad (gA LM ad) s.heap I J H locs → ∀ (ls : Array Slot), lv_has ls 4 [(0, .ref (ad 0)), (1, .int u14), (2, .int u15), (3, .int u16)] → (∀ (y17 : Int32), some y17 = out → ∀ (H : Heap) (locs : List Loc), gWd G LM ad (gA LM ad) s.heap I J H locs → ∀ (ls : Array Slot), lv_has ls 4 [(2, .int y17)] → W p l e (gRm 3) s m args below meth c H locs 0 0 Q (F0 m 51 ls [])) → W p l e (gRm 3) s m args below meth c H locs 0 0 Q (F0 m 28 ls []) := by
  have hx := K.1; have hb := K.2.1; have hown := K.2.2.2.1; have hts := K.2.2.2.2.1
  intro n
  induction n with
  | zero => intro u14 u15 u16 I J out h hn; exact absurd h.symm hn
  | succ n ih =>
    intro u14 u15 u16 I J out h hn H locs hW ls hl hx1
    replace h : fX7_nextSort_28b  (fX7_nextSort_28  n) u14 u15 u16 I = out := h
    unfold fX7_nextSort_28b at h
    refine lv_iload_n hx hb dX7_nextSort_28 rfl (lv_at hl 3 rfl) ?_
    refine lv_iload_n hx hb dX7_nextSort_29 rfl (lv_at hl 1 rfl) ?_
    refine lv_icmp_gt (tgt := 51) hx hb dX7_nextSort_30 (by decide) (fun c18 => ?_) (fun c18 => ?_)
    · replace h := gi_t h c18
      exact hx1 u15 h _ _ hW _ (lv_sub hl [2] rfl)
    · replace h := gi_f h c18
      obtain ⟨u19, e20, h⟩ := lz_o h
      refine lv_iinc (v := u19) (lv' := [(2, .int u19), (0, .ref (ad 0)), (1, .int u14), (3, .int u16)]) hx hb dX7_nextSort_33 hl (k := 2) rfl (by rw [e20]; rfl) (by decide) rfl (fun ls hl => ?_)
      refine lv_iload_n hx hb dX7_nextSort_36 rfl (lv_at hl 3 rfl) ?_
      refine lv_aload_n hx hb dX7_nextSort_37 rfl (lv_at hl 1 rfl) ?_
      refine g_get K hW (t := 2) (ci := 6) (k := 0) (v := .ref (ad 1)) kLM_0 rfl rfl i_X7 (by decide) q_1077 rfl (gfv2 rLM_0_0) dX7_nextSort_38 ?_
      refine lv_bipush (v := (29 : Int32)) hx hb dX7_nextSort_41 (by decide) ?_
      refine lv_iload_n hx hb dX7_nextSort_43 rfl (lv_at hl 0 rfl) ?_
      refine lv_iadd hx hb dX7_nextSort_44 ?_
      obtain ⟨g21, h⟩ := gd_o h hn
      refine g_iald K hW kLM_1 g21 rfl dX7_nextSort_45 ?_
      refine lv_iadd hx hb dX7_nextSort_46 ?_
      obtain ⟨u22, e23, h⟩ := lz_o h
      refine g_nmi e23 ?_
      refine lv_istore_n (lv' := [(3, .int u22), (2, .int u19), (0, .ref (ad 0)), (1, .int u14)]) hx hb dX7_nextSort_47 rfl hl (by decide) rfl (fun ls hl => ?_)
      refine lv_goto (tgt := 28) hx hb dX7_nextSort_48 (by decide) ?_
      exact ih u14 u19 u22 I J _ h hn _ _ hW _ (lv_sub hl [2, 3, 1, 0] rfl) hx1
noncomputable def fX7_nextSort   (I : gI) : Option (Int32 × gI) :=
  bd (fX7_allOdds I) (fun (u1 : Int32) => gi (u1 = 0)
 (some ((0 : Int32), I))
 (bd (fX7_allOdds I) (fun (u5 : Int32) => bd (fX7_drawnBy u5 I) (pr (fun (u8 : Int32) (I9 : gI) => lz ((I9 1 29)) (fun (u12 : Int32) => bd (fX7_nextSort_28 FU u8 (0 : Int32) u12 I9) (fun (u26 : Int32) => some (u26, I9))))))))
set_option maxHeartbeats 4000000 in
set_option maxRecDepth 100000 in
theorem kX7_nextSort {l : Launch} {G : gG} {ad : Nat → Nat} (hok : gInj LM ad)     (I : gI) (J : gJ) (r : Int32) (I' : gI) (h : fX7_nextSort I = some (r, I')) : gMi l yX7_nextSort cX7_nextSort 4 (some .int) 3 G LM ad [.ref (ad 0)] I J r True I' J := by
  refine gMi_of (lst := [(0, .ref (ad 0))]) (by decide) hok (Nat.le_of_ble_eq_true rfl) rfl ?_
  intro p e s m args below meth c Q ls K hW hl hfin
  have hn : (some (r, I') : Option (Int32 × gI)) ≠ none := Option.some_ne_none _
  have hx := K.1; have hb := K.2.1; have hown := K.2.2.2.1; have hts := K.2.2.2.2.1
  unfold fX7_nextSort at h
  refine lv_aload_n hx hb dX7_nextSort_0 rfl (lv_at hl 0 rfl) ?_
  obtain ⟨u1, e2, h⟩ := bd_o h hn
  refine g_callVi (rest := []) K hW hl (kX7_allOdds (l := l) (G := G) (ad := ad) hok I J u1 e2) kLM_0 rfl (gG_V q_1490 q_1492 q_105 q_139 q_1493) nm_X7_allOdds ⟨Nat.le_of_ble_eq_true rfl, Nat.le_of_ble_eq_true rfl⟩ rfl rfl (Nat.le_of_ble_eq_true rfl) ⟨Nat.zero_le _, Nat.zero_le _⟩ dX7_nextSort_1 (fun z3 H locs hW => ?_)
  refine lv_if_ne (tgt := 9) hx hb dX7_nextSort_4 (by decide) (fun c4 => ?_) (fun c4 => ?_)
  · replace h := gi_f h c4
    refine lv_aload_n hx hb dX7_nextSort_9 rfl (lv_at hl 0 rfl) ?_
    refine lv_aload_n hx hb dX7_nextSort_10 rfl (lv_at hl 0 rfl) ?_
    obtain ⟨u5, e6, h⟩ := bd_o h hn
    refine g_callVi (rest := [.ref (ad 0)]) K hW hl (kX7_allOdds (l := l) (G := G) (ad := ad) hok I J u5 e6) kLM_0 rfl (gG_V q_1490 q_1492 q_105 q_139 q_1493) nm_X7_allOdds ⟨Nat.le_of_ble_eq_true rfl, Nat.le_of_ble_eq_true rfl⟩ rfl rfl (Nat.le_of_ble_eq_true rfl) ⟨Nat.zero_le _, Nat.zero_le _⟩ dX7_nextSort_11 (fun z7 H locs hW => ?_)
    obtain ⟨⟨u8, I9⟩, e10, h⟩ := bd_o h hn
    replace h := pr_o h
    refine g_callVi (rest := []) K hW hl (kX7_drawnBy (l := l) (G := G) (ad := ad) hok u5 I J u8 I9 e10) kLM_0 rfl (gG_V q_1494 q_1496 q_106 q_139 q_1497) nm_X7_drawnBy ⟨Nat.le_of_ble_eq_true rfl, Nat.le_of_ble_eq_true rfl⟩ rfl rfl (Nat.le_of_ble_eq_true rfl) ⟨Nat.zero_le _, Nat.zero_le _⟩ dX7_nextSort_14 (fun z11 H locs hW => ?_)
    refine lv_istore_n (lv' := [(1, .int u8), (0, .ref (ad 0))]) hx hb dX7_nextSort_17 rfl hl (by decide) rfl (fun ls hl => ?_)
    refine lv_iconst (v := (0 : Int32)) hx hb dX7_nextSort_18 (by decide) ?_
    refine lv_istore_n (lv' := [(2, .int (0 : Int32)), (1, .int u8), (0, .ref (ad 0))]) hx hb dX7_nextSort_19 rfl hl (by decide) rfl (fun ls hl => ?_)
    refine lv_aload_n hx hb dX7_nextSort_20 rfl (lv_at hl 2 rfl) ?_
    refine g_get K hW (t := 2) (ci := 6) (k := 0) (v := .ref (ad 1)) kLM_0 rfl rfl i_X7 (by decide) q_1077 rfl (gfv2 rLM_0_0) dX7_nextSort_21 ?_
    refine lv_bipush (v := (29 : Int32)) hx hb dX7_nextSort_24 (by decide) ?_
    refine g_iald K hW kLM_1 in_29_1592 tn_29 dX7_nextSort_26 ?_
    obtain ⟨u12, e13, h⟩ := lz_o h
    refine g_nmi e13 ?_
    refine lv_istore_n (lv' := [(3, .int u12), (2, .int (0 : Int32)), (1, .int u8), (0, .ref (ad 0))]) hx hb dX7_nextSort_27 rfl hl (by decide) rfl (fun ls hl => ?_)
    obtain ⟨r24, e25, h⟩ := bd_o h hn
    refine tX7_nextSort_28 hok K FU u8 (0 : Int32) u12 I9 J (some r24) e25 (Option.some_ne_none _) _ _ hW _ (lv_sub hl [3, 2, 1, 0] rfl) ?_
    · intro u26 q27 H locs hW ls hl
      replace q27 := Option.some.inj q27
      subst q27
      refine lv_iload_n hx hb dX7_nextSort_51 rfl (lv_at hl 0 rfl) ?_
      obtain ⟨a1, a2⟩ := so2 h
      replace hW := gWd_nI a2 hW
      exact g_nmi a1 (hfin _ _ _ _ hW dX7_nextSort_52)
  · replace h := gi_t h c4
    refine lv_iconst (v := (0 : Int32)) hx hb dX7_nextSort_7 (by decide) ?_
    obtain ⟨a1, a2⟩ := so2 h
    replace hW := gWd_nI a2 hW
    exact g_nmi a1 (hfin _ _ _ _ hW dX7_nextSort_8)
theorem nm_X7_earnsOf : gNm yX7_earnsOf 1 := by decide +kernel
theorem nm_X7_nextSort : gNm yX7_nextSort 0 := by decide +kernel
noncomputable def fX7_passDay_2b  (rec : Int32 → gI → gJ → Option ((gI × gJ))) (u1 : Int32) (I : gI) (J : gJ) : Option ((gI × gJ)) :=
  gi ((I 1 0) ≤ u1)
 (some (I, J))
 (gd (vp_in ((23 : Int32) + u1) 1592) (bd (fX7_earnsOf u1 I J) (pr (fun (u6 : Int32) => pr (fun (I7 : gI) (J8 : gJ) => lz ((fX7_held (((I 1 (((23 : Int32) + u1)).toNatClampNeg) + u6)).toInt64 (0 : Int32) (999 : Int32))) (fun (u12 : Int32) => lz (wI I7 1 (((23 : Int32) + u1)).toNatClampNeg u12) (fun (I15 : gI) => lz ((u1 + (1 : Int32))) (fun (u16 : Int32) => rec u16 I15 J8))))))))
noncomputable def fX7_passDay_2  : Nat → Int32 → gI → gJ → Option ((gI × gJ))
  | 0 => fun _ _ _ => none
  | n + 1 => fX7_passDay_2b  (fX7_passDay_2  n)
set_option maxHeartbeats 4000000 in
set_option maxRecDepth 100000 in
theorem tX7_passDay_2 {l : Launch} {G : gG} {ad : Nat → Nat} {p : Program} {e : Env} {s : State} {m : MethodId} {args : Array Value} {below : List Frame} {meth : Method} {c : Code} {Q : State → Prop} (hok : gInj LM ad) (K : gCx G (gA LM ad) p s m args c cX7_passDay 2 RX7)  : ∀ (n : Nat) (u1 : Int32) (I : gI) (J : gJ) (out : Option ((gI × gJ))), fX7_passDay_2  n u1 I J = out → out ≠ none → ∀ (H : Heap) (locs : List Loc), gWd G LM ad (gA LM ad) s.heap I J H locs → ∀ (ls : Array Slot), lv_has ls 2 [(0, .ref (ad 0)), (1, .int u1)] → (∀ (I2 : gI) (J3 : gJ), some (I2, J3) = out → ∀ (H : Heap) (locs : List Loc), gWd G LM ad (gA LM ad) s.heap I2 J3 H locs → ∀ (ls : Array Slot), lv_has ls 2 [(0, .ref (ad 0))] → W p l e (gRm 6) s m args below meth c H locs 0 0 Q (F0 m 50 ls [])) → W p l e (gRm 6) s m args below meth c H locs 0 0 Q (F0 m 2 ls []) := by
  have hx := K.1; have hb := K.2.1; have hown := K.2.2.2.1; have hts := K.2.2.2.2.1
  intro n
  induction n with
  | zero => intro u1 I J out h hn; exact absurd h.symm hn
  | succ n ih =>
    intro u1 I J out h hn H locs hW ls hl hx1
    replace h : fX7_passDay_2b  (fX7_passDay_2  n) u1 I J = out := h
    unfold fX7_passDay_2b at h
    refine lv_iload_n hx hb dX7_passDay_2 rfl (lv_at hl 1 rfl) ?_
    refine lv_aload_n hx hb dX7_passDay_3 rfl (lv_at hl 0 rfl) ?_
    refine g_get K hW (t := 2) (ci := 6) (k := 0) (v := .ref (ad 1)) kLM_0 rfl rfl i_X7 (by decide) q_1077 rfl (gfv2 rLM_0_0) dX7_passDay_4 ?_
    refine lv_iconst (v := (0 : Int32)) hx hb dX7_passDay_7 (by decide) ?_
    refine g_iald K hW kLM_1 in_0_1592 tn_0 dX7_passDay_8 ?_
    refine lv_icmp_ge (tgt := 50) hx hb dX7_passDay_9 (by decide) (fun c4 => ?_) (fun c4 => ?_)
    · replace h := gi_t h c4
      exact hx1 I J h _ _ hW _ (lv_sub hl [0] rfl)
    · replace h := gi_f h c4
      refine lv_aload_n hx hb dX7_passDay_12 rfl (lv_at hl 0 rfl) ?_
      refine g_get K hW (t := 2) (ci := 6) (k := 0) (v := .ref (ad 1)) kLM_0 rfl rfl i_X7 (by decide) q_1077 rfl (gfv2 rLM_0_0) dX7_passDay_13 ?_
      refine lv_bipush (v := (23 : Int32)) hx hb dX7_passDay_16 (by decide) ?_
      refine lv_iload_n hx hb dX7_passDay_18 rfl (lv_at hl 1 rfl) ?_
      refine lv_iadd hx hb dX7_passDay_19 ?_
      refine lv_aload_n hx hb dX7_passDay_20 rfl (lv_at hl 0 rfl) ?_
      refine g_get K hW (t := 2) (ci := 6) (k := 0) (v := .ref (ad 1)) kLM_0 rfl rfl i_X7 (by decide) q_1077 rfl (gfv2 rLM_0_0) dX7_passDay_21 ?_
      refine lv_bipush (v := (23 : Int32)) hx hb dX7_passDay_24 (by decide) ?_
      refine lv_iload_n hx hb dX7_passDay_26 rfl (lv_at hl 1 rfl) ?_
      refine lv_iadd hx hb dX7_passDay_27 ?_
      obtain ⟨g5, h⟩ := gd_o h hn
      refine g_iald K hW kLM_1 g5 rfl dX7_passDay_28 ?_
      refine lv_aload_n hx hb dX7_passDay_29 rfl (lv_at hl 0 rfl) ?_
      refine lv_iload_n hx hb dX7_passDay_30 rfl (lv_at hl 1 rfl) ?_
      obtain ⟨⟨u6, I7, J8⟩, e9, h⟩ := bd_o h hn
      replace h := pr_o h
      replace h := pr_o h
      refine g_callVi (rest := [.int (I 1 (((23 : Int32) + u1)).toNatClampNeg), .int ((23 : Int32) + u1), .ref (ad 1)]) K hW hl (kX7_earnsOf (l := l) (G := G) (ad := ad) hok u1 I J u6 I7 J8 e9) kLM_0 rfl (gG_V q_1482 q_1484 q_103 q_139 q_1485) nm_X7_earnsOf ⟨Nat.le_of_ble_eq_true rfl, Nat.le_of_ble_eq_true rfl⟩ rfl rfl (Nat.le_of_ble_eq_true rfl) ⟨Nat.zero_le _, Nat.zero_le _⟩ dX7_passDay_31 (fun z10 H locs hW => ?_)
      refine lv_iadd hx hb dX7_passDay_34 ?_
      refine lv_i2l hx hb dX7_passDay_35 rfl ?_
      refine lv_iconst (v := (0 : Int32)) hx hb dX7_passDay_36 (by decide) ?_
      refine lv_sipush (v := (999 : Int32)) hx hb dX7_passDay_37 (by decide) ?_
      refine g_callSi (rest := [.int ((23 : Int32) + u1), .ref (ad 1)]) K hW hl (kX7_held (l := l) (G := G) (ad := ad) hok (((I 1 (((23 : Int32) + u1)).toNatClampNeg) + u6)).toInt64 (0 : Int32) (999 : Int32) I7 J8 (fX7_held (((I 1 (((23 : Int32) + u1)).toNatClampNeg) + u6)).toInt64 (0 : Int32) (999 : Int32)) rfl) q_1420 q_1421 q_139 q_1422 nm_X7_held ⟨Nat.le_of_ble_eq_true rfl, Nat.le_of_ble_eq_true rfl⟩ rfl rfl (Nat.le_of_ble_eq_true rfl) ⟨Nat.zero_le _, Nat.zero_le _⟩ dX7_passDay_40 (fun z11 H locs hW => ?_)
      obtain ⟨u12, e13, h⟩ := lz_o h
      refine g_nmi e13 ?_
      refine g_iast K hW kLM_1 g5 rfl dX7_passDay_43 (fun H locs hW => ?_)
      obtain ⟨I15, e14, h⟩ := lz_o h
      replace hW := gWd_nI e14 hW
      obtain ⟨u16, e17, h⟩ := lz_o h
      refine lv_iinc (v := u16) (lv' := [(1, .int u16), (0, .ref (ad 0))]) hx hb dX7_passDay_44 hl (k := 1) rfl (by rw [e17]; rfl) (by decide) rfl (fun ls hl => ?_)
      refine lv_goto (tgt := 2) hx hb dX7_passDay_47 (by decide) ?_
      exact ih u16 I15 J8 _ h hn _ _ hW _ (lv_sub hl [1, 0] rfl) hx1
noncomputable def fX7_passDay_52b  (rec : Int32 → gI → Option ((gI))) (u23 : Int32) (I : gI) : Option ((gI)) :=
  gi ((12 : Int32) ≤ u23)
 (some I)
 (gd (vp_in ((11 : Int32) + u23) 1592) (lz (wI I 1 (((11 : Int32) + u23)).toNatClampNeg (-1 : Int32)) (fun (I28 : gI) => lz ((u23 + (1 : Int32))) (fun (u29 : Int32) => rec u29 I28))))
noncomputable def fX7_passDay_52  : Nat → Int32 → gI → Option ((gI))
  | 0 => fun _ _ => none
  | n + 1 => fX7_passDay_52b  (fX7_passDay_52  n)
set_option maxHeartbeats 4000000 in
set_option maxRecDepth 100000 in
theorem tX7_passDay_52 {l : Launch} {G : gG} {ad : Nat → Nat} {p : Program} {e : Env} {s : State} {m : MethodId} {args : Array Value} {below : List Frame} {meth : Method} {c : Code} {Q : State → Prop} (hok : gInj LM ad) (K : gCx G (gA LM ad) p s m args c cX7_passDay 2 RX7)  : ∀ (n : Nat) (u23 : Int32) (I : gI) (J : gJ) (out : Option ((gI))), fX7_passDay_52  n u23 I = out → out ≠ none → ∀ (H : Heap) (locs : List Loc), gWd G LM ad (gA LM ad) s.heap I J H locs → ∀ (ls : Array Slot), lv_has ls 2 [(0, .ref (ad 0)), (1, .int u23)] → (∀ (I24 : gI), some I24 = out → ∀ (H : Heap) (locs : List Loc), gWd G LM ad (gA LM ad) s.heap I24 J H locs → ∀ (ls : Array Slot), lv_has ls 2 [(0, .ref (ad 0))] → W p l e (gRm 6) s m args below meth c H locs 0 0 Q (F0 m 74 ls [])) → W p l e (gRm 6) s m args below meth c H locs 0 0 Q (F0 m 52 ls []) := by
  have hx := K.1; have hb := K.2.1; have hown := K.2.2.2.1; have hts := K.2.2.2.2.1
  intro n
  induction n with
  | zero => intro u23 I J out h hn; exact absurd h.symm hn
  | succ n ih =>
    intro u23 I J out h hn H locs hW ls hl hx1
    replace h : fX7_passDay_52b  (fX7_passDay_52  n) u23 I = out := h
    unfold fX7_passDay_52b at h
    refine lv_iload_n hx hb dX7_passDay_52 rfl (lv_at hl 1 rfl) ?_
    refine lv_bipush (v := (12 : Int32)) hx hb dX7_passDay_53 (by decide) ?_
    refine lv_icmp_ge (tgt := 74) hx hb dX7_passDay_55 (by decide) (fun c25 => ?_) (fun c25 => ?_)
    · replace h := gi_t h c25
      exact hx1 I h _ _ hW _ (lv_sub hl [0] rfl)
    · replace h := gi_f h c25
      refine lv_aload_n hx hb dX7_passDay_58 rfl (lv_at hl 0 rfl) ?_
      refine g_get K hW (t := 2) (ci := 6) (k := 0) (v := .ref (ad 1)) kLM_0 rfl rfl i_X7 (by decide) q_1077 rfl (gfv2 rLM_0_0) dX7_passDay_59 ?_
      refine lv_bipush (v := (11 : Int32)) hx hb dX7_passDay_62 (by decide) ?_
      refine lv_iload_n hx hb dX7_passDay_64 rfl (lv_at hl 1 rfl) ?_
      refine lv_iadd hx hb dX7_passDay_65 ?_
      refine lv_iconst (v := (-1 : Int32)) hx hb dX7_passDay_66 (by decide) ?_
      obtain ⟨g26, h⟩ := gd_o h hn
      refine g_iast K hW kLM_1 g26 rfl dX7_passDay_67 (fun H locs hW => ?_)
      obtain ⟨I28, e27, h⟩ := lz_o h
      replace hW := gWd_nI e27 hW
      obtain ⟨u29, e30, h⟩ := lz_o h
      refine lv_iinc (v := u29) (lv' := [(1, .int u29), (0, .ref (ad 0))]) hx hb dX7_passDay_68 hl (k := 1) rfl (by rw [e30]; rfl) (by decide) rfl (fun ls hl => ?_)
      refine lv_goto (tgt := 52) hx hb dX7_passDay_71 (by decide) ?_
      exact ih u29 I28 J _ h hn _ _ hW _ (lv_sub hl [1, 0] rfl) hx1
noncomputable def fX7_passDay   (I : gI) (J : gJ) : Option (gI × gJ) :=
  bd (fX7_passDay_2 FU (0 : Int32) I J) (pr (fun (I20 : gI) (J21 : gJ) => bd (fX7_passDay_52 FU (0 : Int32) I20) (fun (I33 : gI) => bd (fX7_nextSort I33) (pr (fun (u35 : Int32) (I36 : gI) => lz (wI I36 1 9 u35) (fun (I40 : gI) => lz (wI I40 1 6 ((I40 1 6) + (1 : Int32))) (fun (I42 : gI) => bd (fX7_write (3 : Int32) (I42 1 9) (0 : Int32) I42) (fun (I43 : gI) => some (I43, J21)))))))))
set_option maxHeartbeats 4000000 in
set_option maxRecDepth 100000 in
theorem kX7_passDay {l : Launch} {G : gG} {ad : Nat → Nat} (hok : gInj LM ad)     (I : gI) (J : gJ) (I' : gI) (J' : gJ) (h : fX7_passDay I J = some (I', J')) : gMv l yX7_passDay cX7_passDay 2 none 6 G LM ad [.ref (ad 0)] I J I' J' := by
  refine gMv_of (lst := [(0, .ref (ad 0))]) (by decide) hok (Nat.le_of_ble_eq_true rfl) rfl ?_
  intro p e s m args below meth c Q ls K hW hl hfin
  have hn : (some (I', J') : Option (gI × gJ)) ≠ none := Option.some_ne_none _
  have hx := K.1; have hb := K.2.1; have hown := K.2.2.2.1; have hts := K.2.2.2.2.1
  unfold fX7_passDay at h
  refine lv_iconst (v := (0 : Int32)) hx hb dX7_passDay_0 (by decide) ?_
  refine lv_istore_n (lv' := [(1, .int (0 : Int32)), (0, .ref (ad 0))]) hx hb dX7_passDay_1 rfl hl (by decide) rfl (fun ls hl => ?_)
  obtain ⟨r18, e19, h⟩ := bd_o h hn
  refine tX7_passDay_2 hok K FU (0 : Int32) I J (some r18) e19 (Option.some_ne_none _) _ _ hW _ (lv_sub hl [1, 0] rfl) ?_
  · intro I20 J21 q22 H locs hW ls hl
    replace q22 := Option.some.inj q22
    subst q22
    replace h := pr_o h
    refine lv_iconst (v := (0 : Int32)) hx hb dX7_passDay_50 (by decide) ?_
    refine lv_istore_n (lv' := [(1, .int (0 : Int32)), (0, .ref (ad 0))]) hx hb dX7_passDay_51 rfl hl (by decide) rfl (fun ls hl => ?_)
    obtain ⟨r31, e32, h⟩ := bd_o h hn
    refine tX7_passDay_52 hok K FU (0 : Int32) I20 J21 (some r31) e32 (Option.some_ne_none _) _ _ hW _ (lv_sub hl [1, 0] rfl) ?_
    · intro I33 q34 H locs hW ls hl
      replace q34 := Option.some.inj q34
      subst q34
      refine lv_aload_n hx hb dX7_passDay_74 rfl (lv_at hl 0 rfl) ?_
      refine g_get K hW (t := 2) (ci := 6) (k := 0) (v := .ref (ad 1)) kLM_0 rfl rfl i_X7 (by decide) q_1077 rfl (gfv2 rLM_0_0) dX7_passDay_75 ?_
      refine lv_bipush (v := (9 : Int32)) hx hb dX7_passDay_78 (by decide) ?_
      refine lv_aload_n hx hb dX7_passDay_80 rfl (lv_at hl 0 rfl) ?_
      obtain ⟨⟨u35, I36⟩, e37, h⟩ := bd_o h hn
      replace h := pr_o h
      refine g_callVi (rest := [.int (9 : Int32), .ref (ad 1)]) K hW hl (kX7_nextSort (l := l) (G := G) (ad := ad) hok I33 J21 u35 I36 e37) kLM_0 rfl (gG_V q_1486 q_1488 q_104 q_139 q_1489) nm_X7_nextSort ⟨Nat.le_of_ble_eq_true rfl, Nat.le_of_ble_eq_true rfl⟩ rfl rfl (Nat.le_of_ble_eq_true rfl) ⟨Nat.zero_le _, Nat.zero_le _⟩ dX7_passDay_81 (fun z38 H locs hW => ?_)
      refine g_iast K hW kLM_1 in_9_1592 tn_9 dX7_passDay_84 (fun H locs hW => ?_)
      obtain ⟨I40, e39, h⟩ := lz_o h
      replace hW := gWd_nI e39 hW
      refine lv_aload_n hx hb dX7_passDay_85 rfl (lv_at hl 0 rfl) ?_
      refine g_get K hW (t := 2) (ci := 6) (k := 0) (v := .ref (ad 1)) kLM_0 rfl rfl i_X7 (by decide) q_1077 rfl (gfv2 rLM_0_0) dX7_passDay_86 ?_
      refine lv_bipush (v := (6 : Int32)) hx hb dX7_passDay_89 (by decide) ?_
      refine lv_dup2_11 hx hb dX7_passDay_91 rfl rfl ?_
      refine g_iald K hW kLM_1 in_6_1592 tn_6 dX7_passDay_92 ?_
      refine lv_iconst (v := (1 : Int32)) hx hb dX7_passDay_93 (by decide) ?_
      refine lv_iadd hx hb dX7_passDay_94 ?_
      refine g_iast K hW kLM_1 in_6_1592 tn_6 dX7_passDay_95 (fun H locs hW => ?_)
      obtain ⟨I42, e41, h⟩ := lz_o h
      replace hW := gWd_nI e41 hW
      refine lv_aload_n hx hb dX7_passDay_96 rfl (lv_at hl 0 rfl) ?_
      refine lv_iconst (v := (3 : Int32)) hx hb dX7_passDay_97 (by decide) ?_
      refine lv_aload_n hx hb dX7_passDay_98 rfl (lv_at hl 0 rfl) ?_
      refine g_get K hW (t := 2) (ci := 6) (k := 0) (v := .ref (ad 1)) kLM_0 rfl rfl i_X7 (by decide) q_1077 rfl (gfv2 rLM_0_0) dX7_passDay_99 ?_
      refine lv_bipush (v := (9 : Int32)) hx hb dX7_passDay_102 (by decide) ?_
      refine g_iald K hW kLM_1 in_9_1592 tn_9 dX7_passDay_104 ?_
      refine lv_iconst (v := (0 : Int32)) hx hb dX7_passDay_105 (by decide) ?_
      obtain ⟨I43, e44, h⟩ := bd_o h hn
      refine g_callVv (rest := []) K hW hl (kX7_write (l := l) (G := G) (ad := ad) hok (3 : Int32) (I42 1 9) (0 : Int32) I42 J21 I43 e44) kLM_0 rfl (gG_V q_1431 q_1433 q_95 q_139 q_1434) nm_X7_write ⟨Nat.le_of_ble_eq_true rfl, Nat.le_of_ble_eq_true rfl⟩ rfl rfl (Nat.le_of_ble_eq_true rfl) ⟨Nat.zero_le _, Nat.zero_le _⟩ dX7_passDay_106 (fun H locs hW => ?_)
      obtain ⟨a1, a2⟩ := so2 h
      replace hW := gWd_nI a1 hW
      replace hW := gWd_nJ a2 hW
      exact hfin _ _ _ _ hW dX7_passDay_109
theorem in_3_1592 : vp_in (3 : Int32) 1592 := in_c (by decide +kernel) (by decide +kernel)
noncomputable def fX7_keepStep_82b  (rec : Int32 → Int32 → gI → Option ((gI))) (u10 : Int32) (u11 : Int32) (I : gI) : Option ((gI)) :=
  gi ((23 : Int32) ≤ u11)
 (some I)
 (gd (vp_in ((6 : Int32) + u11) 1592) (gd (vp_in ((u10 + (1 : Int32)) + u11) 1592) (lz (wI I 1 (((u10 + (1 : Int32)) + u11)).toNatClampNeg (I 1 (((6 : Int32) + u11)).toNatClampNeg)) (fun (I17 : gI) => lz ((u11 + (1 : Int32))) (fun (u18 : Int32) => rec u10 u18 I17)))))
noncomputable def fX7_keepStep_82  : Nat → Int32 → Int32 → gI → Option ((gI))
  | 0 => fun _ _ _ => none
  | n + 1 => fX7_keepStep_82b  (fX7_keepStep_82  n)
set_option maxHeartbeats 4000000 in
set_option maxRecDepth 100000 in
theorem tX7_keepStep_82 {l : Launch} {G : gG} {ad : Nat → Nat} {p : Program} {e : Env} {s : State} {m : MethodId} {args : Array Value} {below : List Frame} {meth : Method} {c : Code} {Q : State → Prop} (hok : gInj LM ad) (K : gCx G (gA LM ad) p s m args c cX7_keepStep 3 RX7)  : ∀ (n : Nat) (u10 : Int32) (u11 : Int32) (I : gI) (J : gJ) (out : Option ((gI))), fX7_keepStep_82  n u10 u11 I = out → out ≠ none → ∀ (H : Heap) (locs : List Loc), gWd G LM ad (gA LM ad) s.heap I J H locs → ∀ (ls : Array Slot), lv_has ls 3 [(0, .ref (ad 0)), (1, .int u10), (2, .int u11)] → (∀ (I12 : gI), some I12 = out → ∀ (H : Heap) (locs : List Loc), gWd G LM ad (gA LM ad) s.heap I12 J H locs → ∀ (ls : Array Slot), lv_has ls 3 [(0, .ref (ad 0)), (1, .int u10)] → W p l e (gRm 1) s m args below meth c H locs 0 0 Q (F0 m 113 ls [])) → W p l e (gRm 1) s m args below meth c H locs 0 0 Q (F0 m 82 ls []) := by
  have hx := K.1; have hb := K.2.1; have hown := K.2.2.2.1; have hts := K.2.2.2.2.1
  intro n
  induction n with
  | zero => intro u10 u11 I J out h hn; exact absurd h.symm hn
  | succ n ih =>
    intro u10 u11 I J out h hn H locs hW ls hl hx1
    replace h : fX7_keepStep_82b  (fX7_keepStep_82  n) u10 u11 I = out := h
    unfold fX7_keepStep_82b at h
    refine lv_iload_n hx hb dX7_keepStep_82 rfl (lv_at hl 2 rfl) ?_
    refine lv_bipush (v := (23 : Int32)) hx hb dX7_keepStep_83 (by decide) ?_
    refine lv_icmp_ge (tgt := 113) hx hb dX7_keepStep_85 (by decide) (fun c13 => ?_) (fun c13 => ?_)
    · replace h := gi_t h c13
      exact hx1 I h _ _ hW _ (lv_sub hl [0, 1] rfl)
    · replace h := gi_f h c13
      refine lv_aload_n hx hb dX7_keepStep_88 rfl (lv_at hl 0 rfl) ?_
      refine g_get K hW (t := 2) (ci := 6) (k := 0) (v := .ref (ad 1)) kLM_0 rfl rfl i_X7 (by decide) q_1077 rfl (gfv2 rLM_0_0) dX7_keepStep_89 ?_
      refine lv_iload_n hx hb dX7_keepStep_92 rfl (lv_at hl 1 rfl) ?_
      refine lv_iconst (v := (1 : Int32)) hx hb dX7_keepStep_93 (by decide) ?_
      refine lv_iadd hx hb dX7_keepStep_94 ?_
      refine lv_iload_n hx hb dX7_keepStep_95 rfl (lv_at hl 2 rfl) ?_
      refine lv_iadd hx hb dX7_keepStep_96 ?_
      refine lv_aload_n hx hb dX7_keepStep_97 rfl (lv_at hl 0 rfl) ?_
      refine g_get K hW (t := 2) (ci := 6) (k := 0) (v := .ref (ad 1)) kLM_0 rfl rfl i_X7 (by decide) q_1077 rfl (gfv2 rLM_0_0) dX7_keepStep_98 ?_
      refine lv_bipush (v := (6 : Int32)) hx hb dX7_keepStep_101 (by decide) ?_
      refine lv_iload_n hx hb dX7_keepStep_103 rfl (lv_at hl 2 rfl) ?_
      refine lv_iadd hx hb dX7_keepStep_104 ?_
      obtain ⟨g14, h⟩ := gd_o h hn
      refine g_iald K hW kLM_1 g14 rfl dX7_keepStep_105 ?_
      obtain ⟨g15, h⟩ := gd_o h hn
      refine g_iast K hW kLM_1 g15 rfl dX7_keepStep_106 (fun H locs hW => ?_)
      obtain ⟨I17, e16, h⟩ := lz_o h
      replace hW := gWd_nI e16 hW
      obtain ⟨u18, e19, h⟩ := lz_o h
      refine lv_iinc (v := u18) (lv' := [(2, .int u18), (0, .ref (ad 0)), (1, .int u10)]) hx hb dX7_keepStep_107 hl (k := 2) rfl (by rw [e19]; rfl) (by decide) rfl (fun ls hl => ?_)
      refine lv_goto (tgt := 82) hx hb dX7_keepStep_110 (by decide) ?_
      exact ih u10 u18 I17 J _ h hn _ _ hW _ (lv_sub hl [1, 2, 0] rfl) hx1
noncomputable def fX7_keepStep_115b  (rec : Int32 → Int32 → gI → Option ((gI))) (u24 : Int32) (u25 : Int32) (I : gI) : Option ((gI)) :=
  gi ((25 : Int32) ≤ u25)
 (some I)
 (gd (vp_in ((1567 : Int32) + u25) 1592) (gd (vp_in (((u24 + (1 : Int32)) + (23 : Int32)) + u25) 1592) (lz (wI I 1 ((((u24 + (1 : Int32)) + (23 : Int32)) + u25)).toNatClampNeg (I 1 (((1567 : Int32) + u25)).toNatClampNeg)) (fun (I31 : gI) => lz ((u25 + (1 : Int32))) (fun (u32 : Int32) => rec u24 u32 I31)))))
noncomputable def fX7_keepStep_115  : Nat → Int32 → Int32 → gI → Option ((gI))
  | 0 => fun _ _ _ => none
  | n + 1 => fX7_keepStep_115b  (fX7_keepStep_115  n)
set_option maxHeartbeats 4000000 in
set_option maxRecDepth 100000 in
theorem tX7_keepStep_115 {l : Launch} {G : gG} {ad : Nat → Nat} {p : Program} {e : Env} {s : State} {m : MethodId} {args : Array Value} {below : List Frame} {meth : Method} {c : Code} {Q : State → Prop} (hok : gInj LM ad) (K : gCx G (gA LM ad) p s m args c cX7_keepStep 3 RX7)  : ∀ (n : Nat) (u24 : Int32) (u25 : Int32) (I : gI) (J : gJ) (out : Option ((gI))), fX7_keepStep_115  n u24 u25 I = out → out ≠ none → ∀ (H : Heap) (locs : List Loc), gWd G LM ad (gA LM ad) s.heap I J H locs → ∀ (ls : Array Slot), lv_has ls 3 [(0, .ref (ad 0)), (1, .int u24), (2, .int u25)] → (∀ (I26 : gI), some I26 = out → ∀ (H : Heap) (locs : List Loc), gWd G LM ad (gA LM ad) s.heap I26 J H locs → ∀ (ls : Array Slot), lv_has ls 3 [(0, .ref (ad 0))] → W p l e (gRm 1) s m args below meth c H locs 0 0 Q (F0 m 150 ls [])) → W p l e (gRm 1) s m args below meth c H locs 0 0 Q (F0 m 115 ls []) := by
  have hx := K.1; have hb := K.2.1; have hown := K.2.2.2.1; have hts := K.2.2.2.2.1
  intro n
  induction n with
  | zero => intro u24 u25 I J out h hn; exact absurd h.symm hn
  | succ n ih =>
    intro u24 u25 I J out h hn H locs hW ls hl hx1
    replace h : fX7_keepStep_115b  (fX7_keepStep_115  n) u24 u25 I = out := h
    unfold fX7_keepStep_115b at h
    refine lv_iload_n hx hb dX7_keepStep_115 rfl (lv_at hl 2 rfl) ?_
    refine lv_bipush (v := (25 : Int32)) hx hb dX7_keepStep_116 (by decide) ?_
    refine lv_icmp_ge (tgt := 150) hx hb dX7_keepStep_118 (by decide) (fun c27 => ?_) (fun c27 => ?_)
    · replace h := gi_t h c27
      exact hx1 I h _ _ hW _ (lv_sub hl [0] rfl)
    · replace h := gi_f h c27
      refine lv_aload_n hx hb dX7_keepStep_121 rfl (lv_at hl 0 rfl) ?_
      refine g_get K hW (t := 2) (ci := 6) (k := 0) (v := .ref (ad 1)) kLM_0 rfl rfl i_X7 (by decide) q_1077 rfl (gfv2 rLM_0_0) dX7_keepStep_122 ?_
      refine lv_iload_n hx hb dX7_keepStep_125 rfl (lv_at hl 1 rfl) ?_
      refine lv_iconst (v := (1 : Int32)) hx hb dX7_keepStep_126 (by decide) ?_
      refine lv_iadd hx hb dX7_keepStep_127 ?_
      refine lv_bipush (v := (23 : Int32)) hx hb dX7_keepStep_128 (by decide) ?_
      refine lv_iadd hx hb dX7_keepStep_130 ?_
      refine lv_iload_n hx hb dX7_keepStep_131 rfl (lv_at hl 2 rfl) ?_
      refine lv_iadd hx hb dX7_keepStep_132 ?_
      refine lv_aload_n hx hb dX7_keepStep_133 rfl (lv_at hl 0 rfl) ?_
      refine g_get K hW (t := 2) (ci := 6) (k := 0) (v := .ref (ad 1)) kLM_0 rfl rfl i_X7 (by decide) q_1077 rfl (gfv2 rLM_0_0) dX7_keepStep_134 ?_
      refine lv_sipush (v := (1567 : Int32)) hx hb dX7_keepStep_137 (by decide) ?_
      refine lv_iload_n hx hb dX7_keepStep_140 rfl (lv_at hl 2 rfl) ?_
      refine lv_iadd hx hb dX7_keepStep_141 ?_
      obtain ⟨g28, h⟩ := gd_o h hn
      refine g_iald K hW kLM_1 g28 rfl dX7_keepStep_142 ?_
      obtain ⟨g29, h⟩ := gd_o h hn
      refine g_iast K hW kLM_1 g29 rfl dX7_keepStep_143 (fun H locs hW => ?_)
      obtain ⟨I31, e30, h⟩ := lz_o h
      replace hW := gWd_nI e30 hW
      obtain ⟨u32, e33, h⟩ := lz_o h
      refine lv_iinc (v := u32) (lv' := [(2, .int u32), (0, .ref (ad 0)), (1, .int u24)]) hx hb dX7_keepStep_144 hl (k := 2) rfl (by rw [e33]; rfl) (by decide) rfl (fun ls hl => ?_)
      refine lv_goto (tgt := 115) hx hb dX7_keepStep_147 (by decide) ?_
      exact ih u24 u32 I31 J _ h hn _ _ hW _ (lv_sub hl [1, 2, 0] rfl) hx1
noncomputable def fX7_keepStep_13b  (rec : Int32 → gI → Option ((gI))) (u41 : Int32) (I : gI) : Option ((gI)) :=
  gi ((1421 : Int32) ≤ u41)
 (some I)
 (gd (vp_in ((146 : Int32) + u41) 1592) (gd (vp_in ((97 : Int32) + u41) 1592) (lz (wI I 1 (((97 : Int32) + u41)).toNatClampNeg (I 1 (((146 : Int32) + u41)).toNatClampNeg)) (fun (I47 : gI) => lz ((u41 + (1 : Int32))) (fun (u48 : Int32) => rec u48 I47)))))
noncomputable def fX7_keepStep_13  : Nat → Int32 → gI → Option ((gI))
  | 0 => fun _ _ => none
  | n + 1 => fX7_keepStep_13b  (fX7_keepStep_13  n)
set_option maxHeartbeats 4000000 in
set_option maxRecDepth 100000 in
theorem tX7_keepStep_13 {l : Launch} {G : gG} {ad : Nat → Nat} {p : Program} {e : Env} {s : State} {m : MethodId} {args : Array Value} {below : List Frame} {meth : Method} {c : Code} {Q : State → Prop} (hok : gInj LM ad) (K : gCx G (gA LM ad) p s m args c cX7_keepStep 3 RX7)  : ∀ (n : Nat) (u41 : Int32) (I : gI) (J : gJ) (out : Option ((gI))), fX7_keepStep_13  n u41 I = out → out ≠ none → ∀ (H : Heap) (locs : List Loc), gWd G LM ad (gA LM ad) s.heap I J H locs → ∀ (ls : Array Slot), lv_has ls 3 [(0, .ref (ad 0)), (1, .int u41)] → (∀ (I42 : gI), some I42 = out → ∀ (H : Heap) (locs : List Loc), gWd G LM ad (gA LM ad) s.heap I42 J H locs → ∀ (ls : Array Slot), lv_has ls 3 [(0, .ref (ad 0))] → W p l e (gRm 1) s m args below meth c H locs 0 0 Q (F0 m 45 ls [])) → W p l e (gRm 1) s m args below meth c H locs 0 0 Q (F0 m 13 ls []) := by
  have hx := K.1; have hb := K.2.1; have hown := K.2.2.2.1; have hts := K.2.2.2.2.1
  intro n
  induction n with
  | zero => intro u41 I J out h hn; exact absurd h.symm hn
  | succ n ih =>
    intro u41 I J out h hn H locs hW ls hl hx1
    replace h : fX7_keepStep_13b  (fX7_keepStep_13  n) u41 I = out := h
    unfold fX7_keepStep_13b at h
    refine lv_iload_n hx hb dX7_keepStep_13 rfl (lv_at hl 1 rfl) ?_
    refine lv_sipush (v := (1421 : Int32)) hx hb dX7_keepStep_14 (by decide) ?_
    refine lv_icmp_ge (tgt := 45) hx hb dX7_keepStep_17 (by decide) (fun c43 => ?_) (fun c43 => ?_)
    · replace h := gi_t h c43
      exact hx1 I h _ _ hW _ (lv_sub hl [0] rfl)
    · replace h := gi_f h c43
      refine lv_aload_n hx hb dX7_keepStep_20 rfl (lv_at hl 0 rfl) ?_
      refine g_get K hW (t := 2) (ci := 6) (k := 0) (v := .ref (ad 1)) kLM_0 rfl rfl i_X7 (by decide) q_1077 rfl (gfv2 rLM_0_0) dX7_keepStep_21 ?_
      refine lv_bipush (v := (97 : Int32)) hx hb dX7_keepStep_24 (by decide) ?_
      refine lv_iload_n hx hb dX7_keepStep_26 rfl (lv_at hl 1 rfl) ?_
      refine lv_iadd hx hb dX7_keepStep_27 ?_
      refine lv_aload_n hx hb dX7_keepStep_28 rfl (lv_at hl 0 rfl) ?_
      refine g_get K hW (t := 2) (ci := 6) (k := 0) (v := .ref (ad 1)) kLM_0 rfl rfl i_X7 (by decide) q_1077 rfl (gfv2 rLM_0_0) dX7_keepStep_29 ?_
      refine lv_sipush (v := (146 : Int32)) hx hb dX7_keepStep_32 (by decide) ?_
      refine lv_iload_n hx hb dX7_keepStep_35 rfl (lv_at hl 1 rfl) ?_
      refine lv_iadd hx hb dX7_keepStep_36 ?_
      obtain ⟨g44, h⟩ := gd_o h hn
      refine g_iald K hW kLM_1 g44 rfl dX7_keepStep_37 ?_
      obtain ⟨g45, h⟩ := gd_o h hn
      refine g_iast K hW kLM_1 g45 rfl dX7_keepStep_38 (fun H locs hW => ?_)
      obtain ⟨I47, e46, h⟩ := lz_o h
      replace hW := gWd_nI e46 hW
      obtain ⟨u48, e49, h⟩ := lz_o h
      refine lv_iinc (v := u48) (lv' := [(1, .int u48), (0, .ref (ad 0))]) hx hb dX7_keepStep_39 hl (k := 1) rfl (by rw [e49]; rfl) (by decide) rfl (fun ls hl => ?_)
      refine lv_goto (tgt := 13) hx hb dX7_keepStep_42 (by decide) ?_
      exact ih u48 I47 J _ h hn _ _ hW _ (lv_sub hl [1, 0] rfl) hx1
noncomputable def fX7_keepStep   (I : gI) : Option (gI) :=
  lz (fun (I1 : gI) => lz (((97 : Int32) + ((49 : Int32) * (I1 1 3)))) (fun (u5 : Int32) => gd (vp_in u5 1592) (lz (wI I1 1 (u5).toNatClampNeg (I1 1 0)) (fun (I9 : gI) => bd (fX7_keepStep_82 FU u5 (0 : Int32) I9) (fun (I22 : gI) => bd (fX7_keepStep_115 FU u5 (0 : Int32) I22) (fun (I36 : gI) => lz (wI I36 1 3 ((I36 1 3) + (1 : Int32))) (fun (I39 : gI) => some I39))))))) (fun j2 => gi ((I 1 3) = (30 : Int32))
 (bd (fX7_keepStep_13 FU (0 : Int32) I) (fun (I52 : gI) => lz (wI I52 1 3 ((I52 1 3) - (1 : Int32))) (fun (I55 : gI) => j2 I55)))
 (j2 I))
set_option maxHeartbeats 4000000 in
set_option maxRecDepth 100000 in
theorem kX7_keepStep {l : Launch} {G : gG} {ad : Nat → Nat} (hok : gInj LM ad)     (I : gI) (J : gJ) (I' : gI) (h : fX7_keepStep I = some I') : gMv l yX7_keepStep cX7_keepStep 3 none 1 G LM ad [.ref (ad 0)] I J I' J := by
  refine gMv_of (lst := [(0, .ref (ad 0))]) (by decide) hok (Nat.le_of_ble_eq_true rfl) rfl ?_
  intro p e s m args below meth c Q ls K hW hl hfin
  have hn : (some I' : Option (gI)) ≠ none := Option.some_ne_none _
  have hx := K.1; have hb := K.2.1; have hown := K.2.2.2.1; have hts := K.2.2.2.2.1
  unfold fX7_keepStep at h
  refine lv_aload_n hx hb dX7_keepStep_0 rfl (lv_at hl 0 rfl) ?_
  refine g_get K hW (t := 2) (ci := 6) (k := 0) (v := .ref (ad 1)) kLM_0 rfl rfl i_X7 (by decide) q_1077 rfl (gfv2 rLM_0_0) dX7_keepStep_1 ?_
  refine lv_iconst (v := (3 : Int32)) hx hb dX7_keepStep_4 (by decide) ?_
  refine g_iald K hW kLM_1 in_3_1592 tn_3 dX7_keepStep_5 ?_
  refine lv_bipush (v := (30 : Int32)) hx hb dX7_keepStep_6 (by decide) ?_
  obtain ⟨j2, e3, h⟩ := lz_o h
  have hj4 : ∀ (I1 : gI), j2 I1 = (some I') → ∀ (H : Heap) (locs : List Loc), gWd G LM ad (gA LM ad) s.heap I1 J H locs → ∀ (ls : Array Slot), lv_has ls 3 [(0, .ref (ad 0))] → W p l e (gRm 1) s m args below meth c H locs 0 0 Q (F0 m 55 ls []) := by
    intro I1 h H locs hW ls hl
    replace h := jn1 e3 h
    refine lv_bipush (v := (97 : Int32)) hx hb dX7_keepStep_55 (by decide) ?_
    refine lv_bipush (v := (49 : Int32)) hx hb dX7_keepStep_57 (by decide) ?_
    refine lv_aload_n hx hb dX7_keepStep_59 rfl (lv_at hl 0 rfl) ?_
    refine g_get K hW (t := 2) (ci := 6) (k := 0) (v := .ref (ad 1)) kLM_0 rfl rfl i_X7 (by decide) q_1077 rfl (gfv2 rLM_0_0) dX7_keepStep_60 ?_
    refine lv_iconst (v := (3 : Int32)) hx hb dX7_keepStep_63 (by decide) ?_
    refine g_iald K hW kLM_1 in_3_1592 tn_3 dX7_keepStep_64 ?_
    refine lv_imul hx hb dX7_keepStep_65 ?_
    refine lv_iadd hx hb dX7_keepStep_66 ?_
    obtain ⟨u5, e6, h⟩ := lz_o h
    refine g_nmi e6 ?_
    refine lv_istore_n (lv' := [(1, .int u5), (0, .ref (ad 0))]) hx hb dX7_keepStep_67 rfl hl (by decide) rfl (fun ls hl => ?_)
    refine lv_aload_n hx hb dX7_keepStep_68 rfl (lv_at hl 1 rfl) ?_
    refine g_get K hW (t := 2) (ci := 6) (k := 0) (v := .ref (ad 1)) kLM_0 rfl rfl i_X7 (by decide) q_1077 rfl (gfv2 rLM_0_0) dX7_keepStep_69 ?_
    refine lv_iload_n hx hb dX7_keepStep_72 rfl (lv_at hl 0 rfl) ?_
    refine lv_aload_n hx hb dX7_keepStep_73 rfl (lv_at hl 1 rfl) ?_
    refine g_get K hW (t := 2) (ci := 6) (k := 0) (v := .ref (ad 1)) kLM_0 rfl rfl i_X7 (by decide) q_1077 rfl (gfv2 rLM_0_0) dX7_keepStep_74 ?_
    refine lv_iconst (v := (0 : Int32)) hx hb dX7_keepStep_77 (by decide) ?_
    refine g_iald K hW kLM_1 in_0_1592 tn_0 dX7_keepStep_78 ?_
    obtain ⟨g7, h⟩ := gd_o h hn
    refine g_iast K hW kLM_1 g7 rfl dX7_keepStep_79 (fun H locs hW => ?_)
    obtain ⟨I9, e8, h⟩ := lz_o h
    replace hW := gWd_nI e8 hW
    refine lv_iconst (v := (0 : Int32)) hx hb dX7_keepStep_80 (by decide) ?_
    refine lv_istore_n (lv' := [(2, .int (0 : Int32)), (1, .int u5), (0, .ref (ad 0))]) hx hb dX7_keepStep_81 rfl hl (by decide) rfl (fun ls hl => ?_)
    obtain ⟨r20, e21, h⟩ := bd_o h hn
    refine tX7_keepStep_82 hok K FU u5 (0 : Int32) I9 J (some r20) e21 (Option.some_ne_none _) _ _ hW _ (lv_sub hl [2, 1, 0] rfl) ?_
    · intro I22 q23 H locs hW ls hl
      replace q23 := Option.some.inj q23
      subst q23
      refine lv_iconst (v := (0 : Int32)) hx hb dX7_keepStep_113 (by decide) ?_
      refine lv_istore_n (lv' := [(2, .int (0 : Int32)), (0, .ref (ad 0)), (1, .int u5)]) hx hb dX7_keepStep_114 rfl hl (by decide) rfl (fun ls hl => ?_)
      obtain ⟨r34, e35, h⟩ := bd_o h hn
      refine tX7_keepStep_115 hok K FU u5 (0 : Int32) I22 J (some r34) e35 (Option.some_ne_none _) _ _ hW _ (lv_sub hl [1, 2, 0] rfl) ?_
      · intro I36 q37 H locs hW ls hl
        replace q37 := Option.some.inj q37
        subst q37
        refine lv_aload_n hx hb dX7_keepStep_150 rfl (lv_at hl 0 rfl) ?_
        refine g_get K hW (t := 2) (ci := 6) (k := 0) (v := .ref (ad 1)) kLM_0 rfl rfl i_X7 (by decide) q_1077 rfl (gfv2 rLM_0_0) dX7_keepStep_151 ?_
        refine lv_iconst (v := (3 : Int32)) hx hb dX7_keepStep_154 (by decide) ?_
        refine lv_dup2_11 hx hb dX7_keepStep_155 rfl rfl ?_
        refine g_iald K hW kLM_1 in_3_1592 tn_3 dX7_keepStep_156 ?_
        refine lv_iconst (v := (1 : Int32)) hx hb dX7_keepStep_157 (by decide) ?_
        refine lv_iadd hx hb dX7_keepStep_158 ?_
        refine g_iast K hW kLM_1 in_3_1592 tn_3 dX7_keepStep_159 (fun H locs hW => ?_)
        obtain ⟨I39, e38, h⟩ := lz_o h
        replace hW := gWd_nI e38 hW
        obtain a1 := so1 h
        replace hW := gWd_nI a1 hW
        exact hfin _ _ _ _ hW dX7_keepStep_160
  refine lv_icmp_ne (tgt := 55) hx hb dX7_keepStep_8 (by decide) (fun c40 => ?_) (fun c40 => ?_)
  · replace h := gi_f h c40
    exact hj4 I h _ _ hW _ (lv_sub hl [0] rfl)
  · replace h := gi_t h c40
    refine lv_iconst (v := (0 : Int32)) hx hb dX7_keepStep_11 (by decide) ?_
    refine lv_istore_n (lv' := [(1, .int (0 : Int32)), (0, .ref (ad 0))]) hx hb dX7_keepStep_12 rfl hl (by decide) rfl (fun ls hl => ?_)
    obtain ⟨r50, e51, h⟩ := bd_o h hn
    refine tX7_keepStep_13 hok K FU (0 : Int32) I J (some r50) e51 (Option.some_ne_none _) _ _ hW _ (lv_sub hl [1, 0] rfl) ?_
    · intro I52 q53 H locs hW ls hl
      replace q53 := Option.some.inj q53
      subst q53
      refine lv_aload_n hx hb dX7_keepStep_45 rfl (lv_at hl 0 rfl) ?_
      refine g_get K hW (t := 2) (ci := 6) (k := 0) (v := .ref (ad 1)) kLM_0 rfl rfl i_X7 (by decide) q_1077 rfl (gfv2 rLM_0_0) dX7_keepStep_46 ?_
      refine lv_iconst (v := (3 : Int32)) hx hb dX7_keepStep_49 (by decide) ?_
      refine lv_dup2_11 hx hb dX7_keepStep_50 rfl rfl ?_
      refine g_iald K hW kLM_1 in_3_1592 tn_3 dX7_keepStep_51 ?_
      refine lv_iconst (v := (1 : Int32)) hx hb dX7_keepStep_52 (by decide) ?_
      refine lv_isub hx hb dX7_keepStep_53 ?_
      refine g_iast K hW kLM_1 in_3_1592 tn_3 dX7_keepStep_54 (fun H locs hW => ?_)
      obtain ⟨I55, e54, h⟩ := lz_o h
      replace hW := gWd_nI e54 hW
      exact hj4 I55 h _ _ hW _ (lv_sub hl [0] rfl)
noncomputable def fX7_undo_36b  (rec : Int32 → Int32 → gI → Option ((gI))) (u6 : Int32) (u7 : Int32) (I : gI) : Option ((gI)) :=
  gi ((23 : Int32) ≤ u7)
 (some I)
 (gd (vp_in ((u6 + (1 : Int32)) + u7) 1592) (gd (vp_in ((6 : Int32) + u7) 1592) (lz (wI I 1 (((6 : Int32) + u7)).toNatClampNeg (I 1 (((u6 + (1 : Int32)) + u7)).toNatClampNeg)) (fun (I13 : gI) => lz ((u7 + (1 : Int32))) (fun (u14 : Int32) => rec u6 u14 I13)))))
noncomputable def fX7_undo_36  : Nat → Int32 → Int32 → gI → Option ((gI))
  | 0 => fun _ _ _ => none
  | n + 1 => fX7_undo_36b  (fX7_undo_36  n)
set_option maxHeartbeats 4000000 in
set_option maxRecDepth 100000 in
theorem tX7_undo_36 {l : Launch} {G : gG} {ad : Nat → Nat} {p : Program} {e : Env} {s : State} {m : MethodId} {args : Array Value} {below : List Frame} {meth : Method} {c : Code} {Q : State → Prop} (hok : gInj LM ad) (K : gCx G (gA LM ad) p s m args c cX7_undo 3 RX7)  : ∀ (n : Nat) (u6 : Int32) (u7 : Int32) (I : gI) (J : gJ) (out : Option ((gI))), fX7_undo_36  n u6 u7 I = out → out ≠ none → ∀ (H : Heap) (locs : List Loc), gWd G LM ad (gA LM ad) s.heap I J H locs → ∀ (ls : Array Slot), lv_has ls 3 [(0, .ref (ad 0)), (1, .int u6), (2, .int u7)] → (∀ (I8 : gI), some I8 = out → ∀ (H : Heap) (locs : List Loc), gWd G LM ad (gA LM ad) s.heap I8 J H locs → ∀ (ls : Array Slot), lv_has ls 3 [(0, .ref (ad 0)), (1, .int u6)] → W p l e (gRm 1) s m args below meth c H locs 0 0 Q (F0 m 67 ls [])) → W p l e (gRm 1) s m args below meth c H locs 0 0 Q (F0 m 36 ls []) := by
  have hx := K.1; have hb := K.2.1; have hown := K.2.2.2.1; have hts := K.2.2.2.2.1
  intro n
  induction n with
  | zero => intro u6 u7 I J out h hn; exact absurd h.symm hn
  | succ n ih =>
    intro u6 u7 I J out h hn H locs hW ls hl hx1
    replace h : fX7_undo_36b  (fX7_undo_36  n) u6 u7 I = out := h
    unfold fX7_undo_36b at h
    refine lv_iload_n hx hb dX7_undo_36 rfl (lv_at hl 2 rfl) ?_
    refine lv_bipush (v := (23 : Int32)) hx hb dX7_undo_37 (by decide) ?_
    refine lv_icmp_ge (tgt := 67) hx hb dX7_undo_39 (by decide) (fun c9 => ?_) (fun c9 => ?_)
    · replace h := gi_t h c9
      exact hx1 I h _ _ hW _ (lv_sub hl [0, 1] rfl)
    · replace h := gi_f h c9
      refine lv_aload_n hx hb dX7_undo_42 rfl (lv_at hl 0 rfl) ?_
      refine g_get K hW (t := 2) (ci := 6) (k := 0) (v := .ref (ad 1)) kLM_0 rfl rfl i_X7 (by decide) q_1077 rfl (gfv2 rLM_0_0) dX7_undo_43 ?_
      refine lv_bipush (v := (6 : Int32)) hx hb dX7_undo_46 (by decide) ?_
      refine lv_iload_n hx hb dX7_undo_48 rfl (lv_at hl 2 rfl) ?_
      refine lv_iadd hx hb dX7_undo_49 ?_
      refine lv_aload_n hx hb dX7_undo_50 rfl (lv_at hl 0 rfl) ?_
      refine g_get K hW (t := 2) (ci := 6) (k := 0) (v := .ref (ad 1)) kLM_0 rfl rfl i_X7 (by decide) q_1077 rfl (gfv2 rLM_0_0) dX7_undo_51 ?_
      refine lv_iload_n hx hb dX7_undo_54 rfl (lv_at hl 1 rfl) ?_
      refine lv_iconst (v := (1 : Int32)) hx hb dX7_undo_55 (by decide) ?_
      refine lv_iadd hx hb dX7_undo_56 ?_
      refine lv_iload_n hx hb dX7_undo_57 rfl (lv_at hl 2 rfl) ?_
      refine lv_iadd hx hb dX7_undo_58 ?_
      obtain ⟨g10, h⟩ := gd_o h hn
      refine g_iald K hW kLM_1 g10 rfl dX7_undo_59 ?_
      obtain ⟨g11, h⟩ := gd_o h hn
      refine g_iast K hW kLM_1 g11 rfl dX7_undo_60 (fun H locs hW => ?_)
      obtain ⟨I13, e12, h⟩ := lz_o h
      replace hW := gWd_nI e12 hW
      obtain ⟨u14, e15, h⟩ := lz_o h
      refine lv_iinc (v := u14) (lv' := [(2, .int u14), (0, .ref (ad 0)), (1, .int u6)]) hx hb dX7_undo_61 hl (k := 2) rfl (by rw [e15]; rfl) (by decide) rfl (fun ls hl => ?_)
      refine lv_goto (tgt := 36) hx hb dX7_undo_64 (by decide) ?_
      exact ih u6 u14 I13 J _ h hn _ _ hW _ (lv_sub hl [1, 2, 0] rfl) hx1
noncomputable def fX7_undo_74b  (rec : Int32 → Int32 → gI → Option ((gI))) (u23 : Int32) (u24 : Int32) (I : gI) : Option ((gI)) :=
  gi ((I 1 0) ≤ u24)
 (some I)
 (gd (vp_in ((57 : Int32) + u24) 1592) (gd (vp_in ((23 : Int32) + u24) 1592) (lz (wI I 1 (((23 : Int32) + u24)).toNatClampNeg (I 1 (((57 : Int32) + u24)).toNatClampNeg)) (fun (I30 : gI) => lz ((u24 + (1 : Int32))) (fun (u31 : Int32) => rec u23 u31 I30)))))
noncomputable def fX7_undo_74  : Nat → Int32 → Int32 → gI → Option ((gI))
  | 0 => fun _ _ _ => none
  | n + 1 => fX7_undo_74b  (fX7_undo_74  n)
set_option maxHeartbeats 4000000 in
set_option maxRecDepth 100000 in
theorem tX7_undo_74 {l : Launch} {G : gG} {ad : Nat → Nat} {p : Program} {e : Env} {s : State} {m : MethodId} {args : Array Value} {below : List Frame} {meth : Method} {c : Code} {Q : State → Prop} (hok : gInj LM ad) (K : gCx G (gA LM ad) p s m args c cX7_undo 3 RX7)  : ∀ (n : Nat) (u23 : Int32) (u24 : Int32) (I : gI) (J : gJ) (out : Option ((gI))), fX7_undo_74  n u23 u24 I = out → out ≠ none → ∀ (H : Heap) (locs : List Loc), gWd G LM ad (gA LM ad) s.heap I J H locs → ∀ (ls : Array Slot), lv_has ls 3 [(0, .ref (ad 0)), (1, .int u23), (2, .int u24)] → (∀ (I25 : gI), some I25 = out → ∀ (H : Heap) (locs : List Loc), gWd G LM ad (gA LM ad) s.heap I25 J H locs → ∀ (ls : Array Slot), lv_has ls 3 [(0, .ref (ad 0)), (1, .int u23)] → W p l e (gRm 1) s m args below meth c H locs 0 0 Q (F0 m 108 ls [])) → W p l e (gRm 1) s m args below meth c H locs 0 0 Q (F0 m 74 ls []) := by
  have hx := K.1; have hb := K.2.1; have hown := K.2.2.2.1; have hts := K.2.2.2.2.1
  intro n
  induction n with
  | zero => intro u23 u24 I J out h hn; exact absurd h.symm hn
  | succ n ih =>
    intro u23 u24 I J out h hn H locs hW ls hl hx1
    replace h : fX7_undo_74b  (fX7_undo_74  n) u23 u24 I = out := h
    unfold fX7_undo_74b at h
    refine lv_iload_n hx hb dX7_undo_74 rfl (lv_at hl 2 rfl) ?_
    refine lv_aload_n hx hb dX7_undo_75 rfl (lv_at hl 0 rfl) ?_
    refine g_get K hW (t := 2) (ci := 6) (k := 0) (v := .ref (ad 1)) kLM_0 rfl rfl i_X7 (by decide) q_1077 rfl (gfv2 rLM_0_0) dX7_undo_76 ?_
    refine lv_iconst (v := (0 : Int32)) hx hb dX7_undo_79 (by decide) ?_
    refine g_iald K hW kLM_1 in_0_1592 tn_0 dX7_undo_80 ?_
    refine lv_icmp_ge (tgt := 108) hx hb dX7_undo_81 (by decide) (fun c26 => ?_) (fun c26 => ?_)
    · replace h := gi_t h c26
      exact hx1 I h _ _ hW _ (lv_sub hl [0, 1] rfl)
    · replace h := gi_f h c26
      refine lv_aload_n hx hb dX7_undo_84 rfl (lv_at hl 0 rfl) ?_
      refine g_get K hW (t := 2) (ci := 6) (k := 0) (v := .ref (ad 1)) kLM_0 rfl rfl i_X7 (by decide) q_1077 rfl (gfv2 rLM_0_0) dX7_undo_85 ?_
      refine lv_bipush (v := (23 : Int32)) hx hb dX7_undo_88 (by decide) ?_
      refine lv_iload_n hx hb dX7_undo_90 rfl (lv_at hl 2 rfl) ?_
      refine lv_iadd hx hb dX7_undo_91 ?_
      refine lv_aload_n hx hb dX7_undo_92 rfl (lv_at hl 0 rfl) ?_
      refine g_get K hW (t := 2) (ci := 6) (k := 0) (v := .ref (ad 1)) kLM_0 rfl rfl i_X7 (by decide) q_1077 rfl (gfv2 rLM_0_0) dX7_undo_93 ?_
      refine lv_bipush (v := (57 : Int32)) hx hb dX7_undo_96 (by decide) ?_
      refine lv_iload_n hx hb dX7_undo_98 rfl (lv_at hl 2 rfl) ?_
      refine lv_iadd hx hb dX7_undo_99 ?_
      obtain ⟨g27, h⟩ := gd_o h hn
      refine g_iald K hW kLM_1 g27 rfl dX7_undo_100 ?_
      obtain ⟨g28, h⟩ := gd_o h hn
      refine g_iast K hW kLM_1 g28 rfl dX7_undo_101 (fun H locs hW => ?_)
      obtain ⟨I30, e29, h⟩ := lz_o h
      replace hW := gWd_nI e29 hW
      obtain ⟨u31, e32, h⟩ := lz_o h
      refine lv_iinc (v := u31) (lv' := [(2, .int u31), (0, .ref (ad 0)), (1, .int u23)]) hx hb dX7_undo_102 hl (k := 2) rfl (by rw [e32]; rfl) (by decide) rfl (fun ls hl => ?_)
      refine lv_goto (tgt := 74) hx hb dX7_undo_105 (by decide) ?_
      exact ih u23 u31 I30 J _ h hn _ _ hW _ (lv_sub hl [1, 2, 0] rfl) hx1
noncomputable def fX7_undo_110b  (rec : Int32 → Int32 → gI → Option ((gI))) (u37 : Int32) (u38 : Int32) (I : gI) : Option ((gI)) :=
  gi ((25 : Int32) ≤ u38)
 (some I)
 (gd (vp_in (((u37 + (1 : Int32)) + (23 : Int32)) + u38) 1592) (gd (vp_in ((1567 : Int32) + u38) 1592) (lz (wI I 1 (((1567 : Int32) + u38)).toNatClampNeg (I 1 ((((u37 + (1 : Int32)) + (23 : Int32)) + u38)).toNatClampNeg)) (fun (I44 : gI) => lz ((u38 + (1 : Int32))) (fun (u45 : Int32) => rec u37 u45 I44)))))
noncomputable def fX7_undo_110  : Nat → Int32 → Int32 → gI → Option ((gI))
  | 0 => fun _ _ _ => none
  | n + 1 => fX7_undo_110b  (fX7_undo_110  n)
set_option maxHeartbeats 4000000 in
set_option maxRecDepth 100000 in
theorem tX7_undo_110 {l : Launch} {G : gG} {ad : Nat → Nat} {p : Program} {e : Env} {s : State} {m : MethodId} {args : Array Value} {below : List Frame} {meth : Method} {c : Code} {Q : State → Prop} (hok : gInj LM ad) (K : gCx G (gA LM ad) p s m args c cX7_undo 3 RX7)  : ∀ (n : Nat) (u37 : Int32) (u38 : Int32) (I : gI) (J : gJ) (out : Option ((gI))), fX7_undo_110  n u37 u38 I = out → out ≠ none → ∀ (H : Heap) (locs : List Loc), gWd G LM ad (gA LM ad) s.heap I J H locs → ∀ (ls : Array Slot), lv_has ls 3 [(0, .ref (ad 0)), (1, .int u37), (2, .int u38)] → (∀ (I39 : gI), some I39 = out → ∀ (H : Heap) (locs : List Loc), gWd G LM ad (gA LM ad) s.heap I39 J H locs → ∀ (ls : Array Slot), lv_has ls 3 [(0, .ref (ad 0))] → W p l e (gRm 1) s m args below meth c H locs 0 0 Q (F0 m 145 ls [])) → W p l e (gRm 1) s m args below meth c H locs 0 0 Q (F0 m 110 ls []) := by
  have hx := K.1; have hb := K.2.1; have hown := K.2.2.2.1; have hts := K.2.2.2.2.1
  intro n
  induction n with
  | zero => intro u37 u38 I J out h hn; exact absurd h.symm hn
  | succ n ih =>
    intro u37 u38 I J out h hn H locs hW ls hl hx1
    replace h : fX7_undo_110b  (fX7_undo_110  n) u37 u38 I = out := h
    unfold fX7_undo_110b at h
    refine lv_iload_n hx hb dX7_undo_110 rfl (lv_at hl 2 rfl) ?_
    refine lv_bipush (v := (25 : Int32)) hx hb dX7_undo_111 (by decide) ?_
    refine lv_icmp_ge (tgt := 145) hx hb dX7_undo_113 (by decide) (fun c40 => ?_) (fun c40 => ?_)
    · replace h := gi_t h c40
      exact hx1 I h _ _ hW _ (lv_sub hl [0] rfl)
    · replace h := gi_f h c40
      refine lv_aload_n hx hb dX7_undo_116 rfl (lv_at hl 0 rfl) ?_
      refine g_get K hW (t := 2) (ci := 6) (k := 0) (v := .ref (ad 1)) kLM_0 rfl rfl i_X7 (by decide) q_1077 rfl (gfv2 rLM_0_0) dX7_undo_117 ?_
      refine lv_sipush (v := (1567 : Int32)) hx hb dX7_undo_120 (by decide) ?_
      refine lv_iload_n hx hb dX7_undo_123 rfl (lv_at hl 2 rfl) ?_
      refine lv_iadd hx hb dX7_undo_124 ?_
      refine lv_aload_n hx hb dX7_undo_125 rfl (lv_at hl 0 rfl) ?_
      refine g_get K hW (t := 2) (ci := 6) (k := 0) (v := .ref (ad 1)) kLM_0 rfl rfl i_X7 (by decide) q_1077 rfl (gfv2 rLM_0_0) dX7_undo_126 ?_
      refine lv_iload_n hx hb dX7_undo_129 rfl (lv_at hl 1 rfl) ?_
      refine lv_iconst (v := (1 : Int32)) hx hb dX7_undo_130 (by decide) ?_
      refine lv_iadd hx hb dX7_undo_131 ?_
      refine lv_bipush (v := (23 : Int32)) hx hb dX7_undo_132 (by decide) ?_
      refine lv_iadd hx hb dX7_undo_134 ?_
      refine lv_iload_n hx hb dX7_undo_135 rfl (lv_at hl 2 rfl) ?_
      refine lv_iadd hx hb dX7_undo_136 ?_
      obtain ⟨g41, h⟩ := gd_o h hn
      refine g_iald K hW kLM_1 g41 rfl dX7_undo_137 ?_
      obtain ⟨g42, h⟩ := gd_o h hn
      refine g_iast K hW kLM_1 g42 rfl dX7_undo_138 (fun H locs hW => ?_)
      obtain ⟨I44, e43, h⟩ := lz_o h
      replace hW := gWd_nI e43 hW
      obtain ⟨u45, e46, h⟩ := lz_o h
      refine lv_iinc (v := u45) (lv' := [(2, .int u45), (0, .ref (ad 0)), (1, .int u37)]) hx hb dX7_undo_139 hl (k := 2) rfl (by rw [e46]; rfl) (by decide) rfl (fun ls hl => ?_)
      refine lv_goto (tgt := 110) hx hb dX7_undo_142 (by decide) ?_
      exact ih u37 u45 I44 J _ h hn _ _ hW _ (lv_sub hl [1, 2, 0] rfl) hx1
noncomputable def fX7_undo   (I : gI) : Option (Int32 × gI) :=
  gi ((I 1 3) = 0)
 (some ((-1 : Int32), I))
 (lz (wI I 1 3 ((I 1 3) - (1 : Int32))) (fun (I3 : gI) => lz (((97 : Int32) + ((49 : Int32) * (I3 1 3)))) (fun (u4 : Int32) => bd (fX7_undo_36 FU u4 (0 : Int32) I3) (fun (I18 : gI) => gd (vp_in u4 1592) (lz ((I18 1 (u4).toNatClampNeg)) (fun (u21 : Int32) => bd (fX7_undo_74 FU u4 u21 I18) (fun (I35 : gI) => bd (fX7_undo_110 FU u4 (0 : Int32) I35) (fun (I49 : gI) => some ((I49 1 3), I49)))))))))
set_option maxHeartbeats 4000000 in
set_option maxRecDepth 100000 in
theorem kX7_undo {l : Launch} {G : gG} {ad : Nat → Nat} (hok : gInj LM ad)     (I : gI) (J : gJ) (r : Int32) (I' : gI) (h : fX7_undo I = some (r, I')) : gMi l yX7_undo cX7_undo 3 (some .int) 1 G LM ad [.ref (ad 0)] I J r True I' J := by
  refine gMi_of (lst := [(0, .ref (ad 0))]) (by decide) hok (Nat.le_of_ble_eq_true rfl) rfl ?_
  intro p e s m args below meth c Q ls K hW hl hfin
  have hn : (some (r, I') : Option (Int32 × gI)) ≠ none := Option.some_ne_none _
  have hx := K.1; have hb := K.2.1; have hown := K.2.2.2.1; have hts := K.2.2.2.2.1
  unfold fX7_undo at h
  refine lv_aload_n hx hb dX7_undo_0 rfl (lv_at hl 0 rfl) ?_
  refine g_get K hW (t := 2) (ci := 6) (k := 0) (v := .ref (ad 1)) kLM_0 rfl rfl i_X7 (by decide) q_1077 rfl (gfv2 rLM_0_0) dX7_undo_1 ?_
  refine lv_iconst (v := (3 : Int32)) hx hb dX7_undo_4 (by decide) ?_
  refine g_iald K hW kLM_1 in_3_1592 tn_3 dX7_undo_5 ?_
  refine lv_if_ne (tgt := 11) hx hb dX7_undo_6 (by decide) (fun c1 => ?_) (fun c1 => ?_)
  · replace h := gi_f h c1
    refine lv_aload_n hx hb dX7_undo_11 rfl (lv_at hl 0 rfl) ?_
    refine g_get K hW (t := 2) (ci := 6) (k := 0) (v := .ref (ad 1)) kLM_0 rfl rfl i_X7 (by decide) q_1077 rfl (gfv2 rLM_0_0) dX7_undo_12 ?_
    refine lv_iconst (v := (3 : Int32)) hx hb dX7_undo_15 (by decide) ?_
    refine lv_dup2_11 hx hb dX7_undo_16 rfl rfl ?_
    refine g_iald K hW kLM_1 in_3_1592 tn_3 dX7_undo_17 ?_
    refine lv_iconst (v := (1 : Int32)) hx hb dX7_undo_18 (by decide) ?_
    refine lv_isub hx hb dX7_undo_19 ?_
    refine g_iast K hW kLM_1 in_3_1592 tn_3 dX7_undo_20 (fun H locs hW => ?_)
    obtain ⟨I3, e2, h⟩ := lz_o h
    replace hW := gWd_nI e2 hW
    refine lv_bipush (v := (97 : Int32)) hx hb dX7_undo_21 (by decide) ?_
    refine lv_bipush (v := (49 : Int32)) hx hb dX7_undo_23 (by decide) ?_
    refine lv_aload_n hx hb dX7_undo_25 rfl (lv_at hl 0 rfl) ?_
    refine g_get K hW (t := 2) (ci := 6) (k := 0) (v := .ref (ad 1)) kLM_0 rfl rfl i_X7 (by decide) q_1077 rfl (gfv2 rLM_0_0) dX7_undo_26 ?_
    refine lv_iconst (v := (3 : Int32)) hx hb dX7_undo_29 (by decide) ?_
    refine g_iald K hW kLM_1 in_3_1592 tn_3 dX7_undo_30 ?_
    refine lv_imul hx hb dX7_undo_31 ?_
    refine lv_iadd hx hb dX7_undo_32 ?_
    obtain ⟨u4, e5, h⟩ := lz_o h
    refine g_nmi e5 ?_
    refine lv_istore_n (lv' := [(1, .int u4), (0, .ref (ad 0))]) hx hb dX7_undo_33 rfl hl (by decide) rfl (fun ls hl => ?_)
    refine lv_iconst (v := (0 : Int32)) hx hb dX7_undo_34 (by decide) ?_
    refine lv_istore_n (lv' := [(2, .int (0 : Int32)), (1, .int u4), (0, .ref (ad 0))]) hx hb dX7_undo_35 rfl hl (by decide) rfl (fun ls hl => ?_)
    obtain ⟨r16, e17, h⟩ := bd_o h hn
    refine tX7_undo_36 hok K FU u4 (0 : Int32) I3 J (some r16) e17 (Option.some_ne_none _) _ _ hW _ (lv_sub hl [2, 1, 0] rfl) ?_
    · intro I18 q19 H locs hW ls hl
      replace q19 := Option.some.inj q19
      subst q19
      refine lv_aload_n hx hb dX7_undo_67 rfl (lv_at hl 0 rfl) ?_
      refine g_get K hW (t := 2) (ci := 6) (k := 0) (v := .ref (ad 1)) kLM_0 rfl rfl i_X7 (by decide) q_1077 rfl (gfv2 rLM_0_0) dX7_undo_68 ?_
      refine lv_iload_n hx hb dX7_undo_71 rfl (lv_at hl 1 rfl) ?_
      obtain ⟨g20, h⟩ := gd_o h hn
      refine g_iald K hW kLM_1 g20 rfl dX7_undo_72 ?_
      obtain ⟨u21, e22, h⟩ := lz_o h
      refine g_nmi e22 ?_
      refine lv_istore_n (lv' := [(2, .int u21), (0, .ref (ad 0)), (1, .int u4)]) hx hb dX7_undo_73 rfl hl (by decide) rfl (fun ls hl => ?_)
      obtain ⟨r33, e34, h⟩ := bd_o h hn
      refine tX7_undo_74 hok K FU u4 u21 I18 J (some r33) e34 (Option.some_ne_none _) _ _ hW _ (lv_sub hl [1, 2, 0] rfl) ?_
      · intro I35 q36 H locs hW ls hl
        replace q36 := Option.some.inj q36
        subst q36
        refine lv_iconst (v := (0 : Int32)) hx hb dX7_undo_108 (by decide) ?_
        refine lv_istore_n (lv' := [(2, .int (0 : Int32)), (0, .ref (ad 0)), (1, .int u4)]) hx hb dX7_undo_109 rfl hl (by decide) rfl (fun ls hl => ?_)
        obtain ⟨r47, e48, h⟩ := bd_o h hn
        refine tX7_undo_110 hok K FU u4 (0 : Int32) I35 J (some r47) e48 (Option.some_ne_none _) _ _ hW _ (lv_sub hl [1, 2, 0] rfl) ?_
        · intro I49 q50 H locs hW ls hl
          replace q50 := Option.some.inj q50
          subst q50
          refine lv_aload_n hx hb dX7_undo_145 rfl (lv_at hl 0 rfl) ?_
          refine g_get K hW (t := 2) (ci := 6) (k := 0) (v := .ref (ad 1)) kLM_0 rfl rfl i_X7 (by decide) q_1077 rfl (gfv2 rLM_0_0) dX7_undo_146 ?_
          refine lv_iconst (v := (3 : Int32)) hx hb dX7_undo_149 (by decide) ?_
          refine g_iald K hW kLM_1 in_3_1592 tn_3 dX7_undo_150 ?_
          obtain ⟨a1, a2⟩ := so2 h
          replace hW := gWd_nI a2 hW
          exact g_nmi a1 (hfin _ _ _ _ hW dX7_undo_151)
  · replace h := gi_t h c1
    refine lv_iconst (v := (-1 : Int32)) hx hb dX7_undo_9 (by decide) ?_
    obtain ⟨a1, a2⟩ := so2 h
    replace hW := gWd_nI a2 hW
    exact g_nmi a1 (hfin _ _ _ _ hW dX7_undo_10)
theorem nm_X7_canSell : gNm yX7_canSell 1 := by decide +kernel
theorem nm_X7_keepStep : gNm yX7_keepStep 0 := by decide +kernel
theorem nm_X7_sellNow : gNm yX7_sellNow 1 := by decide +kernel
noncomputable def fX7_sell  (x1 : Int32) (I : gI) (J : gJ) : Option (Int32 × gI × gJ) :=
  bd (fX7_canSell x1 I J) (pr (fun (u1 : Int32) => pr (fun (I2 : gI) (J3 : gJ) => gi (u1 = 0)
 (some ((-1 : Int32), I2, J3))
 (bd (fX7_keepStep I2) (fun (I7 : gI) => bd (fX7_sellNow x1 I7 J3) (pr (fun (u10 : Int32) => pr (fun (I11 : gI) (J12 : gJ) => some (u10, I11, J12)))))))))
set_option maxHeartbeats 4000000 in
set_option maxRecDepth 100000 in
theorem kX7_sell {l : Launch} {G : gG} {ad : Nat → Nat} (hok : gInj LM ad)    (x1 : Int32) (I : gI) (J : gJ) (r : Int32) (I' : gI) (J' : gJ) (h : fX7_sell x1 I J = some (r, I', J')) : gMi l yX7_sell cX7_sell 2 (some .int) 8 G LM ad [.ref (ad 0), .int x1] I J r True I' J' := by
  refine gMi_of (lst := [(0, .ref (ad 0)), (1, .int x1)]) (by decide) hok (Nat.le_of_ble_eq_true rfl) rfl ?_
  intro p e s m args below meth c Q ls K hW hl hfin
  have hn : (some (r, I', J') : Option (Int32 × gI × gJ)) ≠ none := Option.some_ne_none _
  have hx := K.1; have hb := K.2.1; have hown := K.2.2.2.1; have hts := K.2.2.2.2.1
  unfold fX7_sell at h
  refine lv_aload_n hx hb dX7_sell_0 rfl (lv_at hl 0 rfl) ?_
  refine lv_iload_n hx hb dX7_sell_1 rfl (lv_at hl 1 rfl) ?_
  obtain ⟨⟨u1, I2, J3⟩, e4, h⟩ := bd_o h hn
  replace h := pr_o h
  replace h := pr_o h
  refine g_callVi (rest := []) K hW hl (kX7_canSell (l := l) (G := G) (ad := ad) hok x1 I J u1 I2 J3 e4) kLM_0 rfl (gG_V q_1346 q_1348 q_79 q_139 q_1349) nm_X7_canSell ⟨Nat.le_of_ble_eq_true rfl, Nat.le_of_ble_eq_true rfl⟩ rfl rfl (Nat.le_of_ble_eq_true rfl) ⟨Nat.zero_le _, Nat.zero_le _⟩ dX7_sell_2 (fun z5 H locs hW => ?_)
  refine lv_if_ne (tgt := 10) hx hb dX7_sell_5 (by decide) (fun c6 => ?_) (fun c6 => ?_)
  · replace h := gi_f h c6
    refine lv_aload_n hx hb dX7_sell_10 rfl (lv_at hl 0 rfl) ?_
    obtain ⟨I7, e8, h⟩ := bd_o h hn
    refine g_callVv (rest := []) K hW hl (kX7_keepStep (l := l) (G := G) (ad := ad) hok I2 J3 I7 e8) kLM_0 rfl (gG_V q_1423 q_1425 q_93 q_139 q_1426) nm_X7_keepStep ⟨Nat.le_of_ble_eq_true rfl, Nat.le_of_ble_eq_true rfl⟩ rfl rfl (Nat.le_of_ble_eq_true rfl) ⟨Nat.zero_le _, Nat.zero_le _⟩ dX7_sell_11 (fun H locs hW => ?_)
    refine lv_aload_n hx hb dX7_sell_14 rfl (lv_at hl 0 rfl) ?_
    refine lv_iload_n hx hb dX7_sell_15 rfl (lv_at hl 1 rfl) ?_
    obtain ⟨⟨u10, I11, J12⟩, e13, h⟩ := bd_o h hn
    replace h := pr_o h
    replace h := pr_o h
    refine g_callVi (rest := []) K hW hl (kX7_sellNow (l := l) (G := G) (ad := ad) hok x1 I7 J3 u10 I11 J12 e13) kLM_0 rfl (gG_V q_1427 q_1429 q_94 q_139 q_1430) nm_X7_sellNow ⟨Nat.le_of_ble_eq_true rfl, Nat.le_of_ble_eq_true rfl⟩ rfl rfl (Nat.le_of_ble_eq_true rfl) ⟨Nat.zero_le _, Nat.zero_le _⟩ dX7_sell_16 (fun z14 H locs hW => ?_)
    obtain ⟨a1, a2, a3⟩ := so3 h
    replace hW := gWd_nI a2 hW
    replace hW := gWd_nJ a3 hW
    exact g_nmi a1 (hfin _ _ _ _ hW dX7_sell_19)
  · replace h := gi_t h c6
    refine lv_iconst (v := (-1 : Int32)) hx hb dX7_sell_8 (by decide) ?_
    obtain ⟨a1, a2, a3⟩ := so3 h
    replace hW := gWd_nI a2 hW
    replace hW := gWd_nJ a3 hW
    exact g_nmi a1 (hfin _ _ _ _ hW dX7_sell_9)
theorem nm_X7_canGive : gNm yX7_canGive 1 := by decide +kernel
theorem nm_X7_giveNow : gNm yX7_giveNow 1 := by decide +kernel
noncomputable def fX7_give  (x1 : Int32) (I : gI) : Option (Int32 × gI) :=
  bd (fX7_canGive x1 I) (fun (u1 : Int32) => gi (u1 = 0)
 (some ((0 : Int32), I))
 (bd (fX7_keepStep I) (fun (I5 : gI) => bd (fX7_giveNow x1 I5) (fun (I8 : gI) => some ((1 : Int32), I8)))))
set_option maxHeartbeats 4000000 in
set_option maxRecDepth 100000 in
theorem kX7_give {l : Launch} {G : gG} {ad : Nat → Nat} (hok : gInj LM ad)    (x1 : Int32) (I : gI) (J : gJ) (r : Int32) (I' : gI) (h : fX7_give x1 I = some (r, I')) : gMi l yX7_give cX7_give 2 (some .boolean) 4 G LM ad [.ref (ad 0), .int x1] I J r (r = 0 ∨ r = 1) I' J := by
  refine gMz_of (lst := [(0, .ref (ad 0)), (1, .int x1)]) (by decide) hok (Nat.le_of_ble_eq_true rfl) rfl ?_
  intro p e s m args below meth c Q ls K hW hl hfin
  have hn : (some (r, I') : Option (Int32 × gI)) ≠ none := Option.some_ne_none _
  have hx := K.1; have hb := K.2.1; have hown := K.2.2.2.1; have hts := K.2.2.2.2.1
  unfold fX7_give at h
  refine lv_aload_n hx hb dX7_give_0 rfl (lv_at hl 0 rfl) ?_
  refine lv_iload_n hx hb dX7_give_1 rfl (lv_at hl 1 rfl) ?_
  obtain ⟨u1, e2, h⟩ := bd_o h hn
  refine g_callVi (rest := []) K hW hl (kX7_canGive (l := l) (G := G) (ad := ad) hok x1 I J u1 e2) kLM_0 rfl (gG_V q_1439 q_1441 q_96 q_139 q_1442) nm_X7_canGive ⟨Nat.le_of_ble_eq_true rfl, Nat.le_of_ble_eq_true rfl⟩ rfl rfl (Nat.le_of_ble_eq_true rfl) ⟨Nat.zero_le _, Nat.zero_le _⟩ dX7_give_2 (fun z3 H locs hW => ?_)
  refine lv_if_ne (tgt := 10) hx hb dX7_give_5 (by decide) (fun c4 => ?_) (fun c4 => ?_)
  · replace h := gi_f h c4
    refine lv_aload_n hx hb dX7_give_10 rfl (lv_at hl 0 rfl) ?_
    obtain ⟨I5, e6, h⟩ := bd_o h hn
    refine g_callVv (rest := []) K hW hl (kX7_keepStep (l := l) (G := G) (ad := ad) hok I J I5 e6) kLM_0 rfl (gG_V q_1423 q_1425 q_93 q_139 q_1426) nm_X7_keepStep ⟨Nat.le_of_ble_eq_true rfl, Nat.le_of_ble_eq_true rfl⟩ rfl rfl (Nat.le_of_ble_eq_true rfl) ⟨Nat.zero_le _, Nat.zero_le _⟩ dX7_give_11 (fun H locs hW => ?_)
    refine lv_aload_n hx hb dX7_give_14 rfl (lv_at hl 0 rfl) ?_
    refine lv_iload_n hx hb dX7_give_15 rfl (lv_at hl 1 rfl) ?_
    obtain ⟨I8, e9, h⟩ := bd_o h hn
    refine g_callVv (rest := []) K hW hl (kX7_giveNow (l := l) (G := G) (ad := ad) hok x1 I5 J I8 e9) kLM_0 rfl (gG_V q_1446 q_1448 q_97 q_139 q_1449) nm_X7_giveNow ⟨Nat.le_of_ble_eq_true rfl, Nat.le_of_ble_eq_true rfl⟩ rfl rfl (Nat.le_of_ble_eq_true rfl) ⟨Nat.zero_le _, Nat.zero_le _⟩ dX7_give_16 (fun H locs hW => ?_)
    refine lv_iconst (v := (1 : Int32)) hx hb dX7_give_19 (by decide) ?_
    obtain ⟨a1, a2⟩ := so2 h
    replace hW := gWd_nI a2 hW
    exact g_nmi a1 (hfin _ _ _ _ (a1 ▸ (Or.inr rfl)) hW dX7_give_20)
  · replace h := gi_t h c4
    refine lv_iconst (v := (0 : Int32)) hx hb dX7_give_8 (by decide) ?_
    obtain ⟨a1, a2⟩ := so2 h
    replace hW := gWd_nI a2 hW
    exact g_nmi a1 (hfin _ _ _ _ (a1 ▸ (Or.inl rfl)) hW dX7_give_9)
theorem nm_X7_canTurn : gNm yX7_canTurn 1 := by decide +kernel
theorem nm_X7_turnNow : gNm yX7_turnNow 1 := by decide +kernel
noncomputable def fX7_turn  (x1 : Int32) (I : gI) : Option (Int32 × gI) :=
  bd (fX7_canTurn x1 I) (fun (u1 : Int32) => gi (u1 = 0)
 (some ((0 : Int32), I))
 (bd (fX7_keepStep I) (fun (I5 : gI) => bd (fX7_turnNow x1 I5) (fun (I8 : gI) => some ((1 : Int32), I8)))))
set_option maxHeartbeats 4000000 in
set_option maxRecDepth 100000 in
theorem kX7_turn {l : Launch} {G : gG} {ad : Nat → Nat} (hok : gInj LM ad)    (x1 : Int32) (I : gI) (J : gJ) (r : Int32) (I' : gI) (h : fX7_turn x1 I = some (r, I')) : gMi l yX7_turn cX7_turn 2 (some .boolean) 4 G LM ad [.ref (ad 0), .int x1] I J r (r = 0 ∨ r = 1) I' J := by
  refine gMz_of (lst := [(0, .ref (ad 0)), (1, .int x1)]) (by decide) hok (Nat.le_of_ble_eq_true rfl) rfl ?_
  intro p e s m args below meth c Q ls K hW hl hfin
  have hn : (some (r, I') : Option (Int32 × gI)) ≠ none := Option.some_ne_none _
  have hx := K.1; have hb := K.2.1; have hown := K.2.2.2.1; have hts := K.2.2.2.2.1
  unfold fX7_turn at h
  refine lv_aload_n hx hb dX7_turn_0 rfl (lv_at hl 0 rfl) ?_
  refine lv_iload_n hx hb dX7_turn_1 rfl (lv_at hl 1 rfl) ?_
  obtain ⟨u1, e2, h⟩ := bd_o h hn
  refine g_callVi (rest := []) K hW hl (kX7_canTurn (l := l) (G := G) (ad := ad) hok x1 I J u1 e2) kLM_0 rfl (gG_V q_1454 q_1456 q_98 q_139 q_1457) nm_X7_canTurn ⟨Nat.le_of_ble_eq_true rfl, Nat.le_of_ble_eq_true rfl⟩ rfl rfl (Nat.le_of_ble_eq_true rfl) ⟨Nat.zero_le _, Nat.zero_le _⟩ dX7_turn_2 (fun z3 H locs hW => ?_)
  refine lv_if_ne (tgt := 10) hx hb dX7_turn_5 (by decide) (fun c4 => ?_) (fun c4 => ?_)
  · replace h := gi_f h c4
    refine lv_aload_n hx hb dX7_turn_10 rfl (lv_at hl 0 rfl) ?_
    obtain ⟨I5, e6, h⟩ := bd_o h hn
    refine g_callVv (rest := []) K hW hl (kX7_keepStep (l := l) (G := G) (ad := ad) hok I J I5 e6) kLM_0 rfl (gG_V q_1423 q_1425 q_93 q_139 q_1426) nm_X7_keepStep ⟨Nat.le_of_ble_eq_true rfl, Nat.le_of_ble_eq_true rfl⟩ rfl rfl (Nat.le_of_ble_eq_true rfl) ⟨Nat.zero_le _, Nat.zero_le _⟩ dX7_turn_11 (fun H locs hW => ?_)
    refine lv_aload_n hx hb dX7_turn_14 rfl (lv_at hl 0 rfl) ?_
    refine lv_iload_n hx hb dX7_turn_15 rfl (lv_at hl 1 rfl) ?_
    obtain ⟨I8, e9, h⟩ := bd_o h hn
    refine g_callVv (rest := []) K hW hl (kX7_turnNow (l := l) (G := G) (ad := ad) hok x1 I5 J I8 e9) kLM_0 rfl (gG_V q_1458 q_1460 q_99 q_139 q_1461) nm_X7_turnNow ⟨Nat.le_of_ble_eq_true rfl, Nat.le_of_ble_eq_true rfl⟩ rfl rfl (Nat.le_of_ble_eq_true rfl) ⟨Nat.zero_le _, Nat.zero_le _⟩ dX7_turn_16 (fun H locs hW => ?_)
    refine lv_iconst (v := (1 : Int32)) hx hb dX7_turn_19 (by decide) ?_
    obtain ⟨a1, a2⟩ := so2 h
    replace hW := gWd_nI a2 hW
    exact g_nmi a1 (hfin _ _ _ _ (a1 ▸ (Or.inr rfl)) hW dX7_turn_20)
  · replace h := gi_t h c4
    refine lv_iconst (v := (0 : Int32)) hx hb dX7_turn_8 (by decide) ?_
    obtain ⟨a1, a2⟩ := so2 h
    replace hW := gWd_nI a2 hW
    exact g_nmi a1 (hfin _ _ _ _ (a1 ▸ (Or.inl rfl)) hW dX7_turn_9)
noncomputable def fX7_canPass  (x1 : Int32) (x2 : Int32) (I : gI) (J : gJ) : Option (Int32 × gI × gJ) :=
  gi ((fX7_isBuyer x1 I) = 0)
 (some ((0 : Int32), I, J))
 (gi ((fX7_isBuyer x2 I) = 0)
 (some ((0 : Int32), I, J))
 (bd (fX7_ownNow x1 I) (fun (u5 : Int32) => gi (u5 = 0)
 (some ((0 : Int32), I, J))
 (bd (fX7_ownNow x2 I) (fun (u9 : Int32) => gi (u9 = 0)
 (bd (fX7_doesWant x2 (I 1 9) I) (fun (u13 : Int32) => gi (u13 = 0)
 (some ((0 : Int32), I, J))
 (bd (fX7_ownNow x1 I) (fun (u17 : Int32) => bd (fX7_slicesOf x2 I) (fun (u20 : Int32) => gi ((u17 &&& (u20 ^^^ (-1 : Int32))) = 0)
 (bd (fX7_bidsNow x2 I J) (pr (fun (u24 : Int32) => pr (fun (I25 : gI) (J26 : gJ) => bd (fX7_bidsNow x1 I25 J26) (pr (fun (u29 : Int32) => pr (fun (I30 : gI) (J31 : gJ) => gi (u29 < u24)
 (gd (vp_in ((23 : Int32) + x2) 1592) (bd (fX7_bidsNow x1 I30 J31) (pr (fun (u36 : Int32) => pr (fun (I37 : gI) (J38 : gJ) => bd (fX7_bidsNow x2 I37 J38) (pr (fun (u41 : Int32) => pr (fun (I42 : gI) (J43 : gJ) => gi ((I30 1 (((23 : Int32) + x2)).toNatClampNeg) < ((u36 + u41) / (2 : Int32)))
 (some ((0 : Int32), I42, J43))
 (some ((1 : Int32), I42, J43))))))))))
 (some ((0 : Int32), I30, J31)))))))))
 (some ((0 : Int32), I, J)))))))
 (some ((0 : Int32), I, J)))))))
set_option maxHeartbeats 4000000 in
set_option maxRecDepth 100000 in
theorem kX7_canPass {l : Launch} {G : gG} {ad : Nat → Nat} (hok : gInj LM ad)    (x1 : Int32) (x2 : Int32) (I : gI) (J : gJ) (r : Int32) (I' : gI) (J' : gJ) (h : fX7_canPass x1 x2 I J = some (r, I', J')) : gMi l yX7_canPass cX7_canPass 3 (some .boolean) 7 G LM ad [.ref (ad 0), .int x1, .int x2] I J r (r = 0 ∨ r = 1) I' J' := by
  refine gMz_of (lst := [(0, .ref (ad 0)), (1, .int x1), (2, .int x2)]) (by decide) hok (Nat.le_of_ble_eq_true rfl) rfl ?_
  intro p e s m args below meth c Q ls K hW hl hfin
  have hn : (some (r, I', J') : Option (Int32 × gI × gJ)) ≠ none := Option.some_ne_none _
  have hx := K.1; have hb := K.2.1; have hown := K.2.2.2.1; have hts := K.2.2.2.2.1
  unfold fX7_canPass at h
  refine lv_aload_n hx hb dX7_canPass_0 rfl (lv_at hl 0 rfl) ?_
  refine lv_iload_n hx hb dX7_canPass_1 rfl (lv_at hl 1 rfl) ?_
  refine g_callVi (rest := []) K hW hl (kX7_isBuyer (l := l) (G := G) (ad := ad) hok x1 I J (fX7_isBuyer x1 I) rfl) kLM_0 rfl (gG_V q_1350 q_1352 q_80 q_139 q_1353) nm_X7_isBuyer ⟨Nat.le_of_ble_eq_true rfl, Nat.le_of_ble_eq_true rfl⟩ rfl rfl (Nat.le_of_ble_eq_true rfl) ⟨Nat.zero_le _, Nat.zero_le _⟩ dX7_canPass_2 (fun z1 H locs hW => ?_)
  refine lv_if_eq (tgt := 32) hx hb dX7_canPass_5 (by decide) (fun c2 => ?_) (fun c2 => ?_)
  · replace h := gi_t h c2
    refine lv_iconst (v := (0 : Int32)) hx hb dX7_canPass_32 (by decide) ?_
    obtain ⟨a1, a2, a3⟩ := so3 h
    replace hW := gWd_nI a2 hW
    replace hW := gWd_nJ a3 hW
    exact g_nmi a1 (hfin _ _ _ _ (a1 ▸ (Or.inl rfl)) hW dX7_canPass_33)
  · replace h := gi_f h c2
    refine lv_aload_n hx hb dX7_canPass_8 rfl (lv_at hl 0 rfl) ?_
    refine lv_iload_n hx hb dX7_canPass_9 rfl (lv_at hl 2 rfl) ?_
    refine g_callVi (rest := []) K hW hl (kX7_isBuyer (l := l) (G := G) (ad := ad) hok x2 I J (fX7_isBuyer x2 I) rfl) kLM_0 rfl (gG_V q_1350 q_1352 q_80 q_139 q_1353) nm_X7_isBuyer ⟨Nat.le_of_ble_eq_true rfl, Nat.le_of_ble_eq_true rfl⟩ rfl rfl (Nat.le_of_ble_eq_true rfl) ⟨Nat.zero_le _, Nat.zero_le _⟩ dX7_canPass_10 (fun z3 H locs hW => ?_)
    refine lv_if_eq (tgt := 32) hx hb dX7_canPass_13 (by decide) (fun c4 => ?_) (fun c4 => ?_)
    · replace h := gi_t h c4
      refine lv_iconst (v := (0 : Int32)) hx hb dX7_canPass_32 (by decide) ?_
      obtain ⟨a1, a2, a3⟩ := so3 h
      replace hW := gWd_nI a2 hW
      replace hW := gWd_nJ a3 hW
      exact g_nmi a1 (hfin _ _ _ _ (a1 ▸ (Or.inl rfl)) hW dX7_canPass_33)
    · replace h := gi_f h c4
      refine lv_aload_n hx hb dX7_canPass_16 rfl (lv_at hl 0 rfl) ?_
      refine lv_iload_n hx hb dX7_canPass_17 rfl (lv_at hl 1 rfl) ?_
      obtain ⟨u5, e6, h⟩ := bd_o h hn
      refine g_callVi (rest := []) K hW hl (kX7_ownNow (l := l) (G := G) (ad := ad) hok x1 I J u5 e6) kLM_0 rfl (gG_V q_1389 q_1391 q_89 q_139 q_1392) nm_X7_ownNow ⟨Nat.le_of_ble_eq_true rfl, Nat.le_of_ble_eq_true rfl⟩ rfl rfl (Nat.le_of_ble_eq_true rfl) ⟨Nat.zero_le _, Nat.zero_le _⟩ dX7_canPass_18 (fun z7 H locs hW => ?_)
      refine lv_if_eq (tgt := 32) hx hb dX7_canPass_21 (by decide) (fun c8 => ?_) (fun c8 => ?_)
      · replace h := gi_t h c8
        refine lv_iconst (v := (0 : Int32)) hx hb dX7_canPass_32 (by decide) ?_
        obtain ⟨a1, a2, a3⟩ := so3 h
        replace hW := gWd_nI a2 hW
        replace hW := gWd_nJ a3 hW
        exact g_nmi a1 (hfin _ _ _ _ (a1 ▸ (Or.inl rfl)) hW dX7_canPass_33)
      · replace h := gi_f h c8
        refine lv_aload_n hx hb dX7_canPass_24 rfl (lv_at hl 0 rfl) ?_
        refine lv_iload_n hx hb dX7_canPass_25 rfl (lv_at hl 2 rfl) ?_
        obtain ⟨u9, e10, h⟩ := bd_o h hn
        refine g_callVi (rest := []) K hW hl (kX7_ownNow (l := l) (G := G) (ad := ad) hok x2 I J u9 e10) kLM_0 rfl (gG_V q_1389 q_1391 q_89 q_139 q_1392) nm_X7_ownNow ⟨Nat.le_of_ble_eq_true rfl, Nat.le_of_ble_eq_true rfl⟩ rfl rfl (Nat.le_of_ble_eq_true rfl) ⟨Nat.zero_le _, Nat.zero_le _⟩ dX7_canPass_26 (fun z11 H locs hW => ?_)
        refine lv_if_eq (tgt := 34) hx hb dX7_canPass_29 (by decide) (fun c12 => ?_) (fun c12 => ?_)
        · replace h := gi_t h c12
          refine lv_aload_n hx hb dX7_canPass_34 rfl (lv_at hl 0 rfl) ?_
          refine lv_iload_n hx hb dX7_canPass_35 rfl (lv_at hl 2 rfl) ?_
          refine lv_aload_n hx hb dX7_canPass_36 rfl (lv_at hl 0 rfl) ?_
          refine g_get K hW (t := 2) (ci := 6) (k := 0) (v := .ref (ad 1)) kLM_0 rfl rfl i_X7 (by decide) q_1077 rfl (gfv2 rLM_0_0) dX7_canPass_37 ?_
          refine lv_bipush (v := (9 : Int32)) hx hb dX7_canPass_40 (by decide) ?_
          refine g_iald K hW kLM_1 in_9_1592 tn_9 dX7_canPass_42 ?_
          obtain ⟨u13, e14, h⟩ := bd_o h hn
          refine g_callVi (rest := []) K hW hl (kX7_doesWant (l := l) (G := G) (ad := ad) hok x2 (I 1 9) I J u13 e14) kLM_0 rfl (gG_V q_1354 q_1356 q_81 q_139 q_1357) nm_X7_doesWant ⟨Nat.le_of_ble_eq_true rfl, Nat.le_of_ble_eq_true rfl⟩ rfl rfl (Nat.le_of_ble_eq_true rfl) ⟨Nat.zero_le _, Nat.zero_le _⟩ dX7_canPass_43 (fun z15 H locs hW => ?_)
          refine lv_if_eq (tgt := 78) hx hb dX7_canPass_46 (by decide) (fun c16 => ?_) (fun c16 => ?_)
          · replace h := gi_t h c16
            refine lv_iconst (v := (0 : Int32)) hx hb dX7_canPass_78 (by decide) ?_
            obtain ⟨a1, a2, a3⟩ := so3 h
            replace hW := gWd_nI a2 hW
            replace hW := gWd_nJ a3 hW
            exact g_nmi a1 (hfin _ _ _ _ (a1 ▸ (Or.inl rfl)) hW dX7_canPass_79)
          · replace h := gi_f h c16
            refine lv_aload_n hx hb dX7_canPass_49 rfl (lv_at hl 0 rfl) ?_
            refine lv_iload_n hx hb dX7_canPass_50 rfl (lv_at hl 1 rfl) ?_
            obtain ⟨u17, e18, h⟩ := bd_o h hn
            refine g_callVi (rest := []) K hW hl (kX7_ownNow (l := l) (G := G) (ad := ad) hok x1 I J u17 e18) kLM_0 rfl (gG_V q_1389 q_1391 q_89 q_139 q_1392) nm_X7_ownNow ⟨Nat.le_of_ble_eq_true rfl, Nat.le_of_ble_eq_true rfl⟩ rfl rfl (Nat.le_of_ble_eq_true rfl) ⟨Nat.zero_le _, Nat.zero_le _⟩ dX7_canPass_51 (fun z19 H locs hW => ?_)
            refine lv_aload_n hx hb dX7_canPass_54 rfl (lv_at hl 0 rfl) ?_
            refine lv_iload_n hx hb dX7_canPass_55 rfl (lv_at hl 2 rfl) ?_
            obtain ⟨u20, e21, h⟩ := bd_o h hn
            refine g_callVi (rest := [.int u17]) K hW hl (kX7_slicesOf (l := l) (G := G) (ad := ad) hok x2 I J u20 e21) kLM_0 rfl (gG_V q_1358 q_1360 q_82 q_139 q_1361) nm_X7_slicesOf ⟨Nat.le_of_ble_eq_true rfl, Nat.le_of_ble_eq_true rfl⟩ rfl rfl (Nat.le_of_ble_eq_true rfl) ⟨Nat.zero_le _, Nat.zero_le _⟩ dX7_canPass_56 (fun z22 H locs hW => ?_)
            refine lv_iconst (v := (-1 : Int32)) hx hb dX7_canPass_59 (by decide) ?_
            refine lv_ixor hx hb dX7_canPass_60 ?_
            refine lv_iand hx hb dX7_canPass_61 ?_
            refine lv_if_ne (tgt := 78) hx hb dX7_canPass_62 (by decide) (fun c23 => ?_) (fun c23 => ?_)
            · replace h := gi_f h c23
              refine lv_iconst (v := (0 : Int32)) hx hb dX7_canPass_78 (by decide) ?_
              obtain ⟨a1, a2, a3⟩ := so3 h
              replace hW := gWd_nI a2 hW
              replace hW := gWd_nJ a3 hW
              exact g_nmi a1 (hfin _ _ _ _ (a1 ▸ (Or.inl rfl)) hW dX7_canPass_79)
            · replace h := gi_t h c23
              refine lv_aload_n hx hb dX7_canPass_65 rfl (lv_at hl 0 rfl) ?_
              refine lv_iload_n hx hb dX7_canPass_66 rfl (lv_at hl 2 rfl) ?_
              obtain ⟨⟨u24, I25, J26⟩, e27, h⟩ := bd_o h hn
              replace h := pr_o h
              replace h := pr_o h
              refine g_callVi (rest := []) K hW hl (kX7_bidsNow (l := l) (G := G) (ad := ad) hok x2 I J u24 I25 J26 e27) kLM_0 rfl (gG_V q_1370 q_1372 q_85 q_139 q_1373) nm_X7_bidsNow ⟨Nat.le_of_ble_eq_true rfl, Nat.le_of_ble_eq_true rfl⟩ rfl rfl (Nat.le_of_ble_eq_true rfl) ⟨Nat.zero_le _, Nat.zero_le _⟩ dX7_canPass_67 (fun z28 H locs hW => ?_)
              refine lv_aload_n hx hb dX7_canPass_70 rfl (lv_at hl 0 rfl) ?_
              refine lv_iload_n hx hb dX7_canPass_71 rfl (lv_at hl 1 rfl) ?_
              obtain ⟨⟨u29, I30, J31⟩, e32, h⟩ := bd_o h hn
              replace h := pr_o h
              replace h := pr_o h
              refine g_callVi (rest := [.int u24]) K hW hl (kX7_bidsNow (l := l) (G := G) (ad := ad) hok x1 I25 J26 u29 I30 J31 e32) kLM_0 rfl (gG_V q_1370 q_1372 q_85 q_139 q_1373) nm_X7_bidsNow ⟨Nat.le_of_ble_eq_true rfl, Nat.le_of_ble_eq_true rfl⟩ rfl rfl (Nat.le_of_ble_eq_true rfl) ⟨Nat.zero_le _, Nat.zero_le _⟩ dX7_canPass_72 (fun z33 H locs hW => ?_)
              refine lv_icmp_gt (tgt := 80) hx hb dX7_canPass_75 (by decide) (fun c34 => ?_) (fun c34 => ?_)
              · replace h := gi_t h c34
                refine lv_aload_n hx hb dX7_canPass_80 rfl (lv_at hl 0 rfl) ?_
                refine g_get K hW (t := 2) (ci := 6) (k := 0) (v := .ref (ad 1)) kLM_0 rfl rfl i_X7 (by decide) q_1077 rfl (gfv2 rLM_0_0) dX7_canPass_81 ?_
                refine lv_bipush (v := (23 : Int32)) hx hb dX7_canPass_84 (by decide) ?_
                refine lv_iload_n hx hb dX7_canPass_86 rfl (lv_at hl 2 rfl) ?_
                refine lv_iadd hx hb dX7_canPass_87 ?_
                obtain ⟨g35, h⟩ := gd_o h hn
                refine g_iald K hW kLM_1 g35 rfl dX7_canPass_88 ?_
                refine lv_aload_n hx hb dX7_canPass_89 rfl (lv_at hl 0 rfl) ?_
                refine lv_iload_n hx hb dX7_canPass_90 rfl (lv_at hl 1 rfl) ?_
                obtain ⟨⟨u36, I37, J38⟩, e39, h⟩ := bd_o h hn
                replace h := pr_o h
                replace h := pr_o h
                refine g_callVi (rest := [.int (I30 1 (((23 : Int32) + x2)).toNatClampNeg)]) K hW hl (kX7_bidsNow (l := l) (G := G) (ad := ad) hok x1 I30 J31 u36 I37 J38 e39) kLM_0 rfl (gG_V q_1370 q_1372 q_85 q_139 q_1373) nm_X7_bidsNow ⟨Nat.le_of_ble_eq_true rfl, Nat.le_of_ble_eq_true rfl⟩ rfl rfl (Nat.le_of_ble_eq_true rfl) ⟨Nat.zero_le _, Nat.zero_le _⟩ dX7_canPass_91 (fun z40 H locs hW => ?_)
                refine lv_aload_n hx hb dX7_canPass_94 rfl (lv_at hl 0 rfl) ?_
                refine lv_iload_n hx hb dX7_canPass_95 rfl (lv_at hl 2 rfl) ?_
                obtain ⟨⟨u41, I42, J43⟩, e44, h⟩ := bd_o h hn
                replace h := pr_o h
                replace h := pr_o h
                refine g_callVi (rest := [.int u36, .int (I30 1 (((23 : Int32) + x2)).toNatClampNeg)]) K hW hl (kX7_bidsNow (l := l) (G := G) (ad := ad) hok x2 I37 J38 u41 I42 J43 e44) kLM_0 rfl (gG_V q_1370 q_1372 q_85 q_139 q_1373) nm_X7_bidsNow ⟨Nat.le_of_ble_eq_true rfl, Nat.le_of_ble_eq_true rfl⟩ rfl rfl (Nat.le_of_ble_eq_true rfl) ⟨Nat.zero_le _, Nat.zero_le _⟩ dX7_canPass_96 (fun z45 H locs hW => ?_)
                refine lv_iadd hx hb dX7_canPass_99 ?_
                refine lv_iconst (v := (2 : Int32)) hx hb dX7_canPass_100 (by decide) ?_
                refine lv_idiv hx hb dX7_canPass_101 (by decide) ?_
                refine lv_icmp_lt (tgt := 109) hx hb dX7_canPass_102 (by decide) (fun c46 => ?_) (fun c46 => ?_)
                · replace h := gi_t h c46
                  refine lv_iconst (v := (0 : Int32)) hx hb dX7_canPass_109 (by decide) ?_
                  obtain ⟨a1, a2, a3⟩ := so3 h
                  replace hW := gWd_nI a2 hW
                  replace hW := gWd_nJ a3 hW
                  exact g_nmi a1 (hfin _ _ _ _ (a1 ▸ (Or.inl rfl)) hW dX7_canPass_110)
                · replace h := gi_f h c46
                  refine lv_iconst (v := (1 : Int32)) hx hb dX7_canPass_105 (by decide) ?_
                  refine lv_goto (tgt := 110) hx hb dX7_canPass_106 (by decide) ?_
                  obtain ⟨a1, a2, a3⟩ := so3 h
                  replace hW := gWd_nI a2 hW
                  replace hW := gWd_nJ a3 hW
                  exact g_nmi a1 (hfin _ _ _ _ (a1 ▸ (Or.inr rfl)) hW dX7_canPass_110)
              · replace h := gi_f h c34
                refine lv_iconst (v := (0 : Int32)) hx hb dX7_canPass_78 (by decide) ?_
                obtain ⟨a1, a2, a3⟩ := so3 h
                replace hW := gWd_nI a2 hW
                replace hW := gWd_nJ a3 hW
                exact g_nmi a1 (hfin _ _ _ _ (a1 ▸ (Or.inl rfl)) hW dX7_canPass_79)
        · replace h := gi_f h c12
          refine lv_iconst (v := (0 : Int32)) hx hb dX7_canPass_32 (by decide) ?_
          obtain ⟨a1, a2, a3⟩ := so3 h
          replace hW := gWd_nI a2 hW
          replace hW := gWd_nJ a3 hW
          exact g_nmi a1 (hfin _ _ _ _ (a1 ▸ (Or.inl rfl)) hW dX7_canPass_33)
theorem nm_X7_canPass : gNm yX7_canPass 2 := by decide +kernel
noncomputable def fX7_pass_73b  (rec : Int32 → Int32 → Int32 → Int32 → gI → Option ((gI))) (u33 : Int32) (u34 : Int32) (u35 : Int32) (u36 : Int32) (I : gI) : Option ((gI)) :=
  gi ((12 : Int32) ≤ u36)
 (some I)
 (gd (vp_in ((11 : Int32) + u36) 1592) (lz (fun (I40 : gI) => lz ((u36 + (1 : Int32))) (fun (u44 : Int32) => rec u33 u34 u35 u44 I40)) (fun j41 => gi ((I 1 (((11 : Int32) + u36)).toNatClampNeg) = u33)
 (lz (wI I 1 (((11 : Int32) + u36)).toNatClampNeg u34) (fun (I48 : gI) => j41 I48))
 (j41 I))))
noncomputable def fX7_pass_73  : Nat → Int32 → Int32 → Int32 → Int32 → gI → Option ((gI))
  | 0 => fun _ _ _ _ _ => none
  | n + 1 => fX7_pass_73b  (fX7_pass_73  n)
set_option maxHeartbeats 4000000 in
set_option maxRecDepth 100000 in
theorem tX7_pass_73 {l : Launch} {G : gG} {ad : Nat → Nat} {p : Program} {e : Env} {s : State} {m : MethodId} {args : Array Value} {below : List Frame} {meth : Method} {c : Code} {Q : State → Prop} (hok : gInj LM ad) (K : gCx G (gA LM ad) p s m args c cX7_pass 5 RX7)  : ∀ (n : Nat) (u33 : Int32) (u34 : Int32) (u35 : Int32) (u36 : Int32) (I : gI) (J : gJ) (out : Option ((gI))), fX7_pass_73  n u33 u34 u35 u36 I = out → out ≠ none → ∀ (H : Heap) (locs : List Loc), gWd G LM ad (gA LM ad) s.heap I J H locs → ∀ (ls : Array Slot), lv_has ls 5 [(0, .ref (ad 0)), (1, .int u33), (2, .int u34), (3, .int u35), (4, .int u36)] → (∀ (I37 : gI), some I37 = out → ∀ (H : Heap) (locs : List Loc), gWd G LM ad (gA LM ad) s.heap I37 J H locs → ∀ (ls : Array Slot), lv_has ls 5 [(0, .ref (ad 0)), (2, .int u34), (3, .int u35)] → W p l e (gRm 8) s m args below meth c H locs 0 0 Q (F0 m 111 ls [])) → W p l e (gRm 8) s m args below meth c H locs 0 0 Q (F0 m 73 ls []) := by
  have hx := K.1; have hb := K.2.1; have hown := K.2.2.2.1; have hts := K.2.2.2.2.1
  intro n
  induction n with
  | zero => intro u33 u34 u35 u36 I J out h hn; exact absurd h.symm hn
  | succ n ih =>
    intro u33 u34 u35 u36 I J out h hn H locs hW ls hl hx1
    replace h : fX7_pass_73b  (fX7_pass_73  n) u33 u34 u35 u36 I = out := h
    unfold fX7_pass_73b at h
    refine lv_iload hx hb dX7_pass_73 (lv_at hl 4 rfl) ?_
    refine lv_bipush (v := (12 : Int32)) hx hb dX7_pass_75 (by decide) ?_
    refine lv_icmp_ge (tgt := 111) hx hb dX7_pass_77 (by decide) (fun c38 => ?_) (fun c38 => ?_)
    · replace h := gi_t h c38
      exact hx1 I h _ _ hW _ (lv_sub hl [0, 2, 3] rfl)
    · replace h := gi_f h c38
      refine lv_aload_n hx hb dX7_pass_80 rfl (lv_at hl 0 rfl) ?_
      refine g_get K hW (t := 2) (ci := 6) (k := 0) (v := .ref (ad 1)) kLM_0 rfl rfl i_X7 (by decide) q_1077 rfl (gfv2 rLM_0_0) dX7_pass_81 ?_
      refine lv_bipush (v := (11 : Int32)) hx hb dX7_pass_84 (by decide) ?_
      refine lv_iload hx hb dX7_pass_86 (lv_at hl 4 rfl) ?_
      refine lv_iadd hx hb dX7_pass_88 ?_
      obtain ⟨g39, h⟩ := gd_o h hn
      refine g_iald K hW kLM_1 g39 rfl dX7_pass_89 ?_
      refine lv_iload_n hx hb dX7_pass_90 rfl (lv_at hl 1 rfl) ?_
      obtain ⟨j41, e42, h⟩ := lz_o h
      have hj43 : ∀ (I40 : gI), j41 I40 = out → ∀ (H : Heap) (locs : List Loc), gWd G LM ad (gA LM ad) s.heap I40 J H locs → ∀ (ls : Array Slot), lv_has ls 5 [(0, .ref (ad 0)), (1, .int u33), (2, .int u34), (3, .int u35), (4, .int u36)] → W p l e (gRm 8) s m args below meth c H locs 0 0 Q (F0 m 105 ls []) := by
        intro I40 h H locs hW ls hl
        replace h := jn1 e42 h
        obtain ⟨u44, e45, h⟩ := lz_o h
        refine lv_iinc (v := u44) (lv' := [(4, .int u44), (0, .ref (ad 0)), (1, .int u33), (2, .int u34), (3, .int u35)]) hx hb dX7_pass_105 hl (k := 4) rfl (by rw [e45]; rfl) (by decide) rfl (fun ls hl => ?_)
        refine lv_goto (tgt := 73) hx hb dX7_pass_108 (by decide) ?_
        exact ih u33 u34 u35 u44 I40 J _ h hn _ _ hW _ (lv_sub hl [1, 2, 3, 4, 0] rfl) hx1
      refine lv_icmp_ne (tgt := 105) hx hb dX7_pass_91 (by decide) (fun c46 => ?_) (fun c46 => ?_)
      · replace h := gi_f h c46
        exact hj43 I h _ _ hW _ (lv_sub hl [0, 1, 2, 3, 4] rfl)
      · replace h := gi_t h c46
        refine lv_aload_n hx hb dX7_pass_94 rfl (lv_at hl 0 rfl) ?_
        refine g_get K hW (t := 2) (ci := 6) (k := 0) (v := .ref (ad 1)) kLM_0 rfl rfl i_X7 (by decide) q_1077 rfl (gfv2 rLM_0_0) dX7_pass_95 ?_
        refine lv_bipush (v := (11 : Int32)) hx hb dX7_pass_98 (by decide) ?_
        refine lv_iload hx hb dX7_pass_100 (lv_at hl 4 rfl) ?_
        refine lv_iadd hx hb dX7_pass_102 ?_
        refine lv_iload_n hx hb dX7_pass_103 rfl (lv_at hl 2 rfl) ?_
        refine g_iast K hW kLM_1 g39 rfl dX7_pass_104 (fun H locs hW => ?_)
        obtain ⟨I48, e47, h⟩ := lz_o h
        replace hW := gWd_nI e47 hW
        exact hj43 I48 h _ _ hW _ (lv_sub hl [0, 1, 2, 3, 4] rfl)
noncomputable def fX7_pass  (x1 : Int32) (x2 : Int32) (I : gI) (J : gJ) : Option (Int32 × gI × gJ) :=
  bd (fX7_canPass x1 x2 I J) (pr (fun (u1 : Int32) => pr (fun (I2 : gI) (J3 : gJ) => gi (u1 = 0)
 (some ((-1 : Int32), I2, J3))
 (bd (fX7_keepStep I2) (fun (I7 : gI) => bd (fX7_bidsNow x1 I7 J3) (pr (fun (u10 : Int32) => pr (fun (I11 : gI) (J12 : gJ) => bd (fX7_bidsNow x2 I11 J12) (pr (fun (u15 : Int32) => pr (fun (I16 : gI) (J17 : gJ) => lz (((u10 + u15) / (2 : Int32))) (fun (u20 : Int32) => lz (((23 : Int32) + x2)) (fun (u22 : Int32) => gd (vp_in u22 1592) (lz (wI I16 1 (u22).toNatClampNeg ((I16 1 (u22).toNatClampNeg) - u20)) (fun (I26 : gI) => gd (vp_in ((23 : Int32) + x1) 1592) (lz ((fX7_held (((I26 1 (((23 : Int32) + x1)).toNatClampNeg) + u20)).toInt64 (0 : Int32) (999 : Int32))) (fun (u29 : Int32) => lz (wI I26 1 (((23 : Int32) + x1)).toNatClampNeg u29) (fun (I32 : gI) => bd (fX7_pass_73 FU x1 x2 u20 (0 : Int32) I32) (fun (I51 : gI) => bd (fX7_write (4 : Int32) x2 u20 I51) (fun (I53 : gI) => some (u20, I53, J17)))))))))))))))))))))
set_option maxHeartbeats 4000000 in
set_option maxRecDepth 100000 in
theorem kX7_pass {l : Launch} {G : gG} {ad : Nat → Nat} (hok : gInj LM ad)    (x1 : Int32) (x2 : Int32) (I : gI) (J : gJ) (r : Int32) (I' : gI) (J' : gJ) (h : fX7_pass x1 x2 I J = some (r, I', J')) : gMi l yX7_pass cX7_pass 5 (some .int) 8 G LM ad [.ref (ad 0), .int x1, .int x2] I J r True I' J' := by
  refine gMi_of (lst := [(0, .ref (ad 0)), (1, .int x1), (2, .int x2)]) (by decide) hok (Nat.le_of_ble_eq_true rfl) rfl ?_
  intro p e s m args below meth c Q ls K hW hl hfin
  have hn : (some (r, I', J') : Option (Int32 × gI × gJ)) ≠ none := Option.some_ne_none _
  have hx := K.1; have hb := K.2.1; have hown := K.2.2.2.1; have hts := K.2.2.2.2.1
  unfold fX7_pass at h
  refine lv_aload_n hx hb dX7_pass_0 rfl (lv_at hl 0 rfl) ?_
  refine lv_iload_n hx hb dX7_pass_1 rfl (lv_at hl 1 rfl) ?_
  refine lv_iload_n hx hb dX7_pass_2 rfl (lv_at hl 2 rfl) ?_
  obtain ⟨⟨u1, I2, J3⟩, e4, h⟩ := bd_o h hn
  replace h := pr_o h
  replace h := pr_o h
  refine g_callVi (rest := []) K hW hl (kX7_canPass (l := l) (G := G) (ad := ad) hok x1 x2 I J u1 I2 J3 e4) kLM_0 rfl (gG_V q_1466 q_1468 q_100 q_139 q_1469) nm_X7_canPass ⟨Nat.le_of_ble_eq_true rfl, Nat.le_of_ble_eq_true rfl⟩ rfl rfl (Nat.le_of_ble_eq_true rfl) ⟨Nat.zero_le _, Nat.zero_le _⟩ dX7_pass_3 (fun z5 H locs hW => ?_)
  refine lv_if_ne (tgt := 11) hx hb dX7_pass_6 (by decide) (fun c6 => ?_) (fun c6 => ?_)
  · replace h := gi_f h c6
    refine lv_aload_n hx hb dX7_pass_11 rfl (lv_at hl 0 rfl) ?_
    obtain ⟨I7, e8, h⟩ := bd_o h hn
    refine g_callVv (rest := []) K hW hl (kX7_keepStep (l := l) (G := G) (ad := ad) hok I2 J3 I7 e8) kLM_0 rfl (gG_V q_1423 q_1425 q_93 q_139 q_1426) nm_X7_keepStep ⟨Nat.le_of_ble_eq_true rfl, Nat.le_of_ble_eq_true rfl⟩ rfl rfl (Nat.le_of_ble_eq_true rfl) ⟨Nat.zero_le _, Nat.zero_le _⟩ dX7_pass_12 (fun H locs hW => ?_)
    refine lv_aload_n hx hb dX7_pass_15 rfl (lv_at hl 0 rfl) ?_
    refine lv_iload_n hx hb dX7_pass_16 rfl (lv_at hl 1 rfl) ?_
    obtain ⟨⟨u10, I11, J12⟩, e13, h⟩ := bd_o h hn
    replace h := pr_o h
    replace h := pr_o h
    refine g_callVi (rest := []) K hW hl (kX7_bidsNow (l := l) (G := G) (ad := ad) hok x1 I7 J3 u10 I11 J12 e13) kLM_0 rfl (gG_V q_1370 q_1372 q_85 q_139 q_1373) nm_X7_bidsNow ⟨Nat.le_of_ble_eq_true rfl, Nat.le_of_ble_eq_true rfl⟩ rfl rfl (Nat.le_of_ble_eq_true rfl) ⟨Nat.zero_le _, Nat.zero_le _⟩ dX7_pass_17 (fun z14 H locs hW => ?_)
    refine lv_aload_n hx hb dX7_pass_20 rfl (lv_at hl 0 rfl) ?_
    refine lv_iload_n hx hb dX7_pass_21 rfl (lv_at hl 2 rfl) ?_
    obtain ⟨⟨u15, I16, J17⟩, e18, h⟩ := bd_o h hn
    replace h := pr_o h
    replace h := pr_o h
    refine g_callVi (rest := [.int u10]) K hW hl (kX7_bidsNow (l := l) (G := G) (ad := ad) hok x2 I11 J12 u15 I16 J17 e18) kLM_0 rfl (gG_V q_1370 q_1372 q_85 q_139 q_1373) nm_X7_bidsNow ⟨Nat.le_of_ble_eq_true rfl, Nat.le_of_ble_eq_true rfl⟩ rfl rfl (Nat.le_of_ble_eq_true rfl) ⟨Nat.zero_le _, Nat.zero_le _⟩ dX7_pass_22 (fun z19 H locs hW => ?_)
    refine lv_iadd hx hb dX7_pass_25 ?_
    refine lv_iconst (v := (2 : Int32)) hx hb dX7_pass_26 (by decide) ?_
    refine lv_idiv hx hb dX7_pass_27 (by decide) ?_
    obtain ⟨u20, e21, h⟩ := lz_o h
    refine g_nmi e21 ?_
    refine lv_istore_n (lv' := [(3, .int u20), (0, .ref (ad 0)), (1, .int x1), (2, .int x2)]) hx hb dX7_pass_28 rfl hl (by decide) rfl (fun ls hl => ?_)
    refine lv_aload_n hx hb dX7_pass_29 rfl (lv_at hl 1 rfl) ?_
    refine g_get K hW (t := 2) (ci := 6) (k := 0) (v := .ref (ad 1)) kLM_0 rfl rfl i_X7 (by decide) q_1077 rfl (gfv2 rLM_0_0) dX7_pass_30 ?_
    refine lv_bipush (v := (23 : Int32)) hx hb dX7_pass_33 (by decide) ?_
    refine lv_iload_n hx hb dX7_pass_35 rfl (lv_at hl 3 rfl) ?_
    refine lv_iadd hx hb dX7_pass_36 ?_
    obtain ⟨u22, e23, h⟩ := lz_o h
    refine g_nmi e23 ?_
    refine lv_dup2_11 hx hb dX7_pass_37 rfl rfl ?_
    obtain ⟨g24, h⟩ := gd_o h hn
    refine g_iald K hW kLM_1 g24 rfl dX7_pass_38 ?_
    refine lv_iload_n hx hb dX7_pass_39 rfl (lv_at hl 0 rfl) ?_
    refine lv_isub hx hb dX7_pass_40 ?_
    refine g_iast K hW kLM_1 g24 rfl dX7_pass_41 (fun H locs hW => ?_)
    obtain ⟨I26, e25, h⟩ := lz_o h
    replace hW := gWd_nI e25 hW
    refine lv_aload_n hx hb dX7_pass_42 rfl (lv_at hl 1 rfl) ?_
    refine g_get K hW (t := 2) (ci := 6) (k := 0) (v := .ref (ad 1)) kLM_0 rfl rfl i_X7 (by decide) q_1077 rfl (gfv2 rLM_0_0) dX7_pass_43 ?_
    refine lv_bipush (v := (23 : Int32)) hx hb dX7_pass_46 (by decide) ?_
    refine lv_iload_n hx hb dX7_pass_48 rfl (lv_at hl 2 rfl) ?_
    refine lv_iadd hx hb dX7_pass_49 ?_
    refine lv_aload_n hx hb dX7_pass_50 rfl (lv_at hl 1 rfl) ?_
    refine g_get K hW (t := 2) (ci := 6) (k := 0) (v := .ref (ad 1)) kLM_0 rfl rfl i_X7 (by decide) q_1077 rfl (gfv2 rLM_0_0) dX7_pass_51 ?_
    refine lv_bipush (v := (23 : Int32)) hx hb dX7_pass_54 (by decide) ?_
    refine lv_iload_n hx hb dX7_pass_56 rfl (lv_at hl 2 rfl) ?_
    refine lv_iadd hx hb dX7_pass_57 ?_
    obtain ⟨g27, h⟩ := gd_o h hn
    refine g_iald K hW kLM_1 g27 rfl dX7_pass_58 ?_
    refine lv_iload_n hx hb dX7_pass_59 rfl (lv_at hl 0 rfl) ?_
    refine lv_iadd hx hb dX7_pass_60 ?_
    refine lv_i2l hx hb dX7_pass_61 rfl ?_
    refine lv_iconst (v := (0 : Int32)) hx hb dX7_pass_62 (by decide) ?_
    refine lv_sipush (v := (999 : Int32)) hx hb dX7_pass_63 (by decide) ?_
    refine g_callSi (rest := [.int ((23 : Int32) + x1), .ref (ad 1)]) K hW hl (kX7_held (l := l) (G := G) (ad := ad) hok (((I26 1 (((23 : Int32) + x1)).toNatClampNeg) + u20)).toInt64 (0 : Int32) (999 : Int32) I26 J17 (fX7_held (((I26 1 (((23 : Int32) + x1)).toNatClampNeg) + u20)).toInt64 (0 : Int32) (999 : Int32)) rfl) q_1420 q_1421 q_139 q_1422 nm_X7_held ⟨Nat.le_of_ble_eq_true rfl, Nat.le_of_ble_eq_true rfl⟩ rfl rfl (Nat.le_of_ble_eq_true rfl) ⟨Nat.zero_le _, Nat.zero_le _⟩ dX7_pass_66 (fun z28 H locs hW => ?_)
    obtain ⟨u29, e30, h⟩ := lz_o h
    refine g_nmi e30 ?_
    refine g_iast K hW kLM_1 g27 rfl dX7_pass_69 (fun H locs hW => ?_)
    obtain ⟨I32, e31, h⟩ := lz_o h
    replace hW := gWd_nI e31 hW
    refine lv_iconst (v := (0 : Int32)) hx hb dX7_pass_70 (by decide) ?_
    refine lv_istore (lv' := [(4, .int (0 : Int32)), (3, .int u20), (0, .ref (ad 0)), (1, .int x1), (2, .int x2)]) hx hb dX7_pass_71 hl (by decide) rfl (fun ls hl => ?_)
    obtain ⟨r49, e50, h⟩ := bd_o h hn
    refine tX7_pass_73 hok K FU x1 x2 u20 (0 : Int32) I32 J17 (some r49) e50 (Option.some_ne_none _) _ _ hW _ (lv_sub hl [2, 3, 4, 1, 0] rfl) ?_
    · intro I51 q52 H locs hW ls hl
      replace q52 := Option.some.inj q52
      subst q52
      refine lv_aload_n hx hb dX7_pass_111 rfl (lv_at hl 0 rfl) ?_
      refine lv_iconst (v := (4 : Int32)) hx hb dX7_pass_112 (by decide) ?_
      refine lv_iload_n hx hb dX7_pass_113 rfl (lv_at hl 1 rfl) ?_
      refine lv_iload_n hx hb dX7_pass_114 rfl (lv_at hl 2 rfl) ?_
      obtain ⟨I53, e54, h⟩ := bd_o h hn
      refine g_callVv (rest := []) K hW hl (kX7_write (l := l) (G := G) (ad := ad) hok (4 : Int32) x2 u20 I51 J17 I53 e54) kLM_0 rfl (gG_V q_1431 q_1433 q_95 q_139 q_1434) nm_X7_write ⟨Nat.le_of_ble_eq_true rfl, Nat.le_of_ble_eq_true rfl⟩ rfl rfl (Nat.le_of_ble_eq_true rfl) ⟨Nat.zero_le _, Nat.zero_le _⟩ dX7_pass_115 (fun H locs hW => ?_)
      refine lv_iload_n hx hb dX7_pass_118 rfl (lv_at hl 2 rfl) ?_
      obtain ⟨a1, a2, a3⟩ := so3 h
      replace hW := gWd_nI a2 hW
      replace hW := gWd_nJ a3 hW
      exact g_nmi a1 (hfin _ _ _ _ hW dX7_pass_119)
  · replace h := gi_t h c6
    refine lv_iconst (v := (-1 : Int32)) hx hb dX7_pass_9 (by decide) ?_
    obtain ⟨a1, a2, a3⟩ := so3 h
    replace hW := gWd_nI a2 hW
    replace hW := gWd_nJ a3 hW
    exact g_nmi a1 (hfin _ _ _ _ hW dX7_pass_10)
