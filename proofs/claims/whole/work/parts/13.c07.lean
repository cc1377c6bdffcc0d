-- 13.c07: the class: X6.ask X6.wantsSlice X6.auction X6.stab X6.crowd X6.lowestDawn X6.dawns X6.lead X6.ends X6.take X6.best
noncomputable def fX6_ask_28b  (rec : Int32 → Int32 → Int32 → Int32 → gI → Option ((Int32))) (u11 : Int32) (u12 : Int32) (u13 : Int32) (u14 : Int32) (I : gI) : Option ((Int32)) :=
  gi ((I 1 12) ≤ u14)
 (some u12)
 (gd (vp_in u14 6) (bd (fX6_likelihoodOf (u11 &&& (I 4 (u14).toNatClampNeg)) I) (fun (u18 : Int32) => bd (fX6_likelihoodOf (u11 &&& ((I 4 (u14).toNatClampNeg) ^^^ (-1 : Int32))) I) (fun (u21 : Int32) => lz ((jmax u18 u21)) (fun (u24 : Int32) => lz (fun (u26 : Int32) => fun (u27 : Int32) => lz ((u14 + (1 : Int32))) (fun (u31 : Int32) => rec u11 u26 u27 u31 I)) (fun j28 => gi (((jshr (I 1 16) u14) &&& (1 : Int32)) = 0)
 (gi (u13 ≤ u24)
 (j28 u12 u13)
 (j28 u14 u24))
 (j28 u12 u13)))))))
noncomputable def fX6_ask_28  : Nat → Int32 → Int32 → Int32 → Int32 → gI → Option ((Int32))
  | 0 => fun _ _ _ _ _ => none
  | n + 1 => fX6_ask_28b  (fX6_ask_28  n)
set_option maxHeartbeats 4000000 in
set_option maxRecDepth 100000 in
theorem tX6_ask_28 {l : Launch} {G : gG} {ad : Nat → Nat} {p : Program} {e : Env} {s : State} {m : MethodId} {args : Array Value} {below : List Frame} {meth : Method} {c : Code} {Q : State → Prop} (hok : gInj LC ad) (K : gCx G (gA LC ad) p s m args c cX6_ask 8 RX6)  : ∀ (n : Nat) (u11 : Int32) (u12 : Int32) (u13 : Int32) (u14 : Int32) (I : gI) (J : gJ) (out : Option ((Int32))), fX6_ask_28  n u11 u12 u13 u14 I = out → out ≠ none → ∀ (H : Heap) (locs : List Loc), gWd G LC ad (gA LC ad) s.heap I J H locs → ∀ (ls : Array Slot), lv_has ls 8 [(0, .ref (ad 0)), (1, .int u11), (2, .int u12), (3, .int u13), (4, .int u14)] → (∀ (y15 : Int32), some y15 = out → ∀ (H : Heap) (locs : List Loc), gWd G LC ad (gA LC ad) s.heap I J H locs → ∀ (ls : Array Slot), lv_has ls 8 [(2, .int y15)] → W p l e (gRm 4) s m args below meth c H locs 0 0 Q (F0 m 120 ls [])) → W p l e (gRm 4) s m args below meth c H locs 0 0 Q (F0 m 28 ls []) := by
  have hx := K.1; have hb := K.2.1; have hown := K.2.2.2.1; have hts := K.2.2.2.2.1
  intro n
  induction n with
  | zero => intro u11 u12 u13 u14 I J out h hn; exact absurd h.symm hn
  | succ n ih =>
    intro u11 u12 u13 u14 I J out h hn H locs hW ls hl hx1
    replace h : fX6_ask_28b  (fX6_ask_28  n) u11 u12 u13 u14 I = out := h
    unfold fX6_ask_28b at h
    refine lv_iload hx hb dX6_ask_28 (lv_at hl 4 rfl) ?_
    refine lv_aload_n hx hb dX6_ask_30 rfl (lv_at hl 0 rfl) ?_
    refine g_get K hW (t := 2) (ci := 5) (k := 0) (v := .ref (ad 1)) kLC_0 rfl rfl i_X6 (by decide) q_393 rfl (gfv2 rLC_0_0) dX6_ask_31 ?_
    refine g_get K hW (t := 0) (ci := 0) (k := 12) (v := .int (I 1 12)) kLC_1 rfl rfl i_X0 (by decide) q_238 rfl rfl dX6_ask_34 ?_
    refine lv_icmp_ge (tgt := 120) hx hb dX6_ask_37 (by decide) (fun c16 => ?_) (fun c16 => ?_)
    · replace h := gi_t h c16
      exact hx1 u12 h _ _ hW _ (lv_sub hl [2] rfl)
    · replace h := gi_f h c16
      refine lv_aload_n hx hb dX6_ask_40 rfl (lv_at hl 0 rfl) ?_
      refine lv_iload_n hx hb dX6_ask_41 rfl (lv_at hl 1 rfl) ?_
      refine lv_aload_n hx hb dX6_ask_42 rfl (lv_at hl 0 rfl) ?_
      refine g_get K hW (t := 2) (ci := 5) (k := 0) (v := .ref (ad 1)) kLC_0 rfl rfl i_X6 (by decide) q_393 rfl (gfv2 rLC_0_0) dX6_ask_43 ?_
      refine g_get K hW (t := 2) (ci := 0) (k := 2) (v := .ref (ad 4)) kLC_1 rfl rfl i_X0 (by decide) q_217 rfl (gfv2 rLC_1_2) dX6_ask_46 ?_
      refine lv_iload hx hb dX6_ask_49 (lv_at hl 4 rfl) ?_
      obtain ⟨g17, h⟩ := gd_o h hn
      refine g_iald K hW kLC_4 g17 rfl dX6_ask_51 ?_
      refine lv_iand hx hb dX6_ask_52 ?_
      obtain ⟨u18, e19, h⟩ := bd_o h hn
      refine g_callVi (rest := []) K hW hl (kX6_likelihoodOf (l := l) (G := G) (ad := ad) hok (u11 &&& (I 4 (u14).toNatClampNeg)) I J u18 e19) kLC_0 rfl (gG_V q_973 q_975 q_48 q_133 q_976) nm_X6_likelihoodOf ⟨Nat.le_of_ble_eq_true rfl, Nat.le_of_ble_eq_true rfl⟩ rfl rfl (Nat.le_of_ble_eq_true rfl) ⟨Nat.zero_le _, Nat.zero_le _⟩ dX6_ask_53 (fun z20 H locs hW => ?_)
      refine lv_istore (lv' := [(5, .int u18), (0, .ref (ad 0)), (1, .int u11), (2, .int u12), (3, .int u13), (4, .int u14)]) hx hb dX6_ask_56 hl (by decide) rfl (fun ls hl => ?_)
      refine lv_aload_n hx hb dX6_ask_58 rfl (lv_at hl 1 rfl) ?_
      refine lv_iload_n hx hb dX6_ask_59 rfl (lv_at hl 2 rfl) ?_
      refine lv_aload_n hx hb dX6_ask_60 rfl (lv_at hl 1 rfl) ?_
      refine g_get K hW (t := 2) (ci := 5) (k := 0) (v := .ref (ad 1)) kLC_0 rfl rfl i_X6 (by decide) q_393 rfl (gfv2 rLC_0_0) dX6_ask_61 ?_
      refine g_get K hW (t := 2) (ci := 0) (k := 2) (v := .ref (ad 4)) kLC_1 rfl rfl i_X0 (by decide) q_217 rfl (gfv2 rLC_1_2) dX6_ask_64 ?_
      refine lv_iload hx hb dX6_ask_67 (lv_at hl 5 rfl) ?_
      refine g_iald K hW kLC_4 g17 rfl dX6_ask_69 ?_
      refine lv_iconst (v := (-1 : Int32)) hx hb dX6_ask_70 (by decide) ?_
      refine lv_ixor hx hb dX6_ask_71 ?_
      refine lv_iand hx hb dX6_ask_72 ?_
      obtain ⟨u21, e22, h⟩ := bd_o h hn
      refine g_callVi (rest := []) K hW hl (kX6_likelihoodOf (l := l) (G := G) (ad := ad) hok (u11 &&& ((I 4 (u14).toNatClampNeg) ^^^ (-1 : Int32))) I J u21 e22) kLC_0 rfl (gG_V q_973 q_975 q_48 q_133 q_976) nm_X6_likelihoodOf ⟨Nat.le_of_ble_eq_true rfl, Nat.le_of_ble_eq_true rfl⟩ rfl rfl (Nat.le_of_ble_eq_true rfl) ⟨Nat.zero_le _, Nat.zero_le _⟩ dX6_ask_73 (fun z23 H locs hW => ?_)
      refine lv_istore (lv' := [(6, .int u21), (5, .int u18), (0, .ref (ad 0)), (1, .int u11), (2, .int u12), (3, .int u13), (4, .int u14)]) hx hb dX6_ask_76 hl (by decide) rfl (fun ls hl => ?_)
      refine lv_iload hx hb dX6_ask_78 (lv_at hl 1 rfl) ?_
      refine lv_iload hx hb dX6_ask_80 (lv_at hl 0 rfl) ?_
      refine g_max K hl q_931 (by decide) (Nat.le_of_ble_eq_true rfl) ⟨Nat.zero_le _, Nat.zero_le _⟩ dX6_ask_82 ?_
      obtain ⟨u24, e25, h⟩ := lz_o h
      refine g_nmi e25 ?_
      refine lv_istore (lv' := [(7, .int u24), (6, .int u21), (5, .int u18), (0, .ref (ad 0)), (1, .int u11), (2, .int u12), (3, .int u13), (4, .int u14)]) hx hb dX6_ask_85 hl (by decide) rfl (fun ls hl => ?_)
      refine lv_aload_n hx hb dX6_ask_87 rfl (lv_at hl 3 rfl) ?_
      refine g_get K hW (t := 2) (ci := 5) (k := 0) (v := .ref (ad 1)) kLC_0 rfl rfl i_X6 (by decide) q_393 rfl (gfv2 rLC_0_0) dX6_ask_88 ?_
      refine g_get K hW (t := 0) (ci := 0) (k := 16) (v := .int (I 1 16)) kLC_1 rfl rfl i_X0 (by decide) q_247 rfl rfl dX6_ask_91 ?_
      refine lv_iload hx hb dX6_ask_94 (lv_at hl 7 rfl) ?_
      refine g_ishr hx hb dX6_ask_96 ?_
      refine lv_iconst (v := (1 : Int32)) hx hb dX6_ask_97 (by decide) ?_
      refine lv_iand hx hb dX6_ask_98 ?_
      obtain ⟨j28, e29, h⟩ := lz_o h
      have hj30 : ∀ (u26 : Int32) (u27 : Int32), j28 u26 u27 = out → ∀ (H : Heap) (locs : List Loc), gWd G LC ad (gA LC ad) s.heap I J H locs → ∀ (ls : Array Slot), lv_has ls 8 [(0, .ref (ad 0)), (1, .int u11), (2, .int u26), (3, .int u27), (4, .int u14)] → W p l e (gRm 4) s m args below meth c H locs 0 0 Q (F0 m 114 ls []) := by
        intro u26 u27 h H locs hW ls hl
        replace h := jn2 e29 h
        obtain ⟨u31, e32, h⟩ := lz_o h
        refine lv_iinc (v := u31) (lv' := [(4, .int u31), (0, .ref (ad 0)), (1, .int u11), (2, .int u26), (3, .int u27)]) hx hb dX6_ask_114 hl (k := 4) rfl (by rw [e32]; rfl) (by decide) rfl (fun ls hl => ?_)
        refine lv_goto (tgt := 28) hx hb dX6_ask_117 (by decide) ?_
        exact ih u11 u26 u27 u31 I J _ h hn _ _ hW _ (lv_sub hl [1, 2, 3, 4, 0] rfl) hx1
      refine lv_if_ne (tgt := 114) hx hb dX6_ask_99 (by decide) (fun c33 => ?_) (fun c33 => ?_)
      · replace h := gi_f h c33
        exact hj30 u12 u13 h _ _ hW _ (lv_sub hl [3, 4, 5, 6, 7] rfl)
      · replace h := gi_t h c33
        refine lv_iload hx hb dX6_ask_102 (lv_at hl 0 rfl) ?_
        refine lv_iload_n hx hb dX6_ask_104 rfl (lv_at hl 6 rfl) ?_
        refine lv_icmp_ge (tgt := 114) hx hb dX6_ask_105 (by decide) (fun c34 => ?_) (fun c34 => ?_)
        · replace h := gi_t h c34
          exact hj30 u12 u13 h _ _ hW _ (lv_sub hl [3, 4, 5, 6, 7] rfl)
        · replace h := gi_f h c34
          refine lv_iload hx hb dX6_ask_108 (lv_at hl 0 rfl) ?_
          refine lv_istore_n (lv' := [(3, .int u24), (7, .int u24), (6, .int u21), (5, .int u18), (0, .ref (ad 0)), (1, .int u11), (2, .int u12), (4, .int u14)]) hx hb dX6_ask_110 rfl hl (by decide) rfl (fun ls hl => ?_)
          refine lv_iload hx hb dX6_ask_111 (lv_at hl 7 rfl) ?_
          refine lv_istore_n (lv' := [(2, .int u14), (3, .int u24), (7, .int u24), (6, .int u21), (5, .int u18), (0, .ref (ad 0)), (1, .int u11), (4, .int u14)]) hx hb dX6_ask_113 rfl hl (by decide) rfl (fun ls hl => ?_)
          exact hj30 u14 u24 h _ _ hW _ (lv_sub hl [5, 6, 0, 1, 7] rfl)
noncomputable def fX6_ask   (I : gI) : Option (Int32) :=
  bd (fX6_was I) (fun (u1 : Int32) => gi ((2 : Int32) ≤ (fJ6_bitCount_0f7a4 u1))
 (bd (fX6_likelihoodOf u1 I) (fun (u6 : Int32) => lz ((u6 + (1 : Int32))) (fun (u9 : Int32) => bd (fX6_ask_28 FU u1 (-1 : Int32) u9 (0 : Int32) I) (fun (u37 : Int32) => some u37))))
 (some (-1 : Int32)))
set_option maxHeartbeats 4000000 in
set_option maxRecDepth 100000 in
theorem kX6_ask {l : Launch} {G : gG} {ad : Nat → Nat} (hok : gInj LC ad)     (I : gI) (J : gJ) (r : Int32) (h : fX6_ask I = some r) : gMi l yX6_ask cX6_ask 8 (some .int) 4 G LC ad [.ref (ad 0)] I J r True I J := by
  refine gMi_of (lst := [(0, .ref (ad 0))]) (by decide) hok (Nat.le_of_ble_eq_true rfl) rfl ?_
  intro p e s m args below meth c Q ls K hW hl hfin
  have hn : (some r : Option (Int32)) ≠ none := Option.some_ne_none _
  have hx := K.1; have hb := K.2.1; have hown := K.2.2.2.1; have hts := K.2.2.2.2.1
  unfold fX6_ask at h
  refine lv_aload_n hx hb dX6_ask_0 rfl (lv_at hl 0 rfl) ?_
  obtain ⟨u1, e2, h⟩ := bd_o h hn
  refine g_callVi (rest := []) K hW hl (kX6_was (l := l) (G := G) (ad := ad) hok I J u1 e2) kLC_0 rfl (gG_V q_967 q_960 q_961 q_133 q_962) nm_X6_was ⟨Nat.le_of_ble_eq_true rfl, Nat.le_of_ble_eq_true rfl⟩ rfl rfl (Nat.le_of_ble_eq_true rfl) ⟨Nat.zero_le _, Nat.zero_le _⟩ dX6_ask_1 (fun z3 H locs hW => ?_)
  refine lv_istore_n (lv' := [(1, .int u1), (0, .ref (ad 0))]) hx hb dX6_ask_4 rfl hl (by decide) rfl (fun ls hl => ?_)
  refine lv_iload_n hx hb dX6_ask_5 rfl (lv_at hl 0 rfl) ?_
  refine g_callSi (rest := []) K hW hl (kJ6_bitCount_0f7a4 (l := l) (G := G) (ad := ad) hok u1 I J (fJ6_bitCount_0f7a4 u1) rfl) q_465 q_466 q_146 q_467 nm_J6_bitCount_0f7a4 ⟨Nat.le_of_ble_eq_true rfl, Nat.le_of_ble_eq_true rfl⟩ rfl rfl (Nat.le_of_ble_eq_true rfl) ⟨Nat.zero_le _, Nat.zero_le _⟩ dX6_ask_6 (fun z4 H locs hW => ?_)
  refine lv_iconst (v := (2 : Int32)) hx hb dX6_ask_9 (by decide) ?_
  refine lv_icmp_ge (tgt := 15) hx hb dX6_ask_10 (by decide) (fun c5 => ?_) (fun c5 => ?_)
  · replace h := gi_t h c5
    refine lv_iconst (v := (-1 : Int32)) hx hb dX6_ask_15 (by decide) ?_
    refine lv_istore_n (lv' := [(2, .int (-1 : Int32)), (1, .int u1), (0, .ref (ad 0))]) hx hb dX6_ask_16 rfl hl (by decide) rfl (fun ls hl => ?_)
    refine lv_aload_n hx hb dX6_ask_17 rfl (lv_at hl 2 rfl) ?_
    refine lv_iload_n hx hb dX6_ask_18 rfl (lv_at hl 1 rfl) ?_
    obtain ⟨u6, e7, h⟩ := bd_o h hn
    refine g_callVi (rest := []) K hW hl (kX6_likelihoodOf (l := l) (G := G) (ad := ad) hok u1 I J u6 e7) kLC_0 rfl (gG_V q_973 q_975 q_48 q_133 q_976) nm_X6_likelihoodOf ⟨Nat.le_of_ble_eq_true rfl, Nat.le_of_ble_eq_true rfl⟩ rfl rfl (Nat.le_of_ble_eq_true rfl) ⟨Nat.zero_le _, Nat.zero_le _⟩ dX6_ask_19 (fun z8 H locs hW => ?_)
    refine lv_iconst (v := (1 : Int32)) hx hb dX6_ask_22 (by decide) ?_
    refine lv_iadd hx hb dX6_ask_23 ?_
    obtain ⟨u9, e10, h⟩ := lz_o h
    refine g_nmi e10 ?_
    refine lv_istore_n (lv' := [(3, .int u9), (2, .int (-1 : Int32)), (1, .int u1), (0, .ref (ad 0))]) hx hb dX6_ask_24 rfl hl (by decide) rfl (fun ls hl => ?_)
    refine lv_iconst (v := (0 : Int32)) hx hb dX6_ask_25 (by decide) ?_
    refine lv_istore (lv' := [(4, .int (0 : Int32)), (3, .int u9), (2, .int (-1 : Int32)), (1, .int u1), (0, .ref (ad 0))]) hx hb dX6_ask_26 hl (by decide) rfl (fun ls hl => ?_)
    obtain ⟨r35, e36, h⟩ := bd_o h hn
    refine tX6_ask_28 hok K FU u1 (-1 : Int32) u9 (0 : Int32) I J (some r35) e36 (Option.some_ne_none _) _ _ hW _ (lv_sub hl [4, 3, 2, 1, 0] rfl) ?_
    · intro u37 q38 H locs hW ls hl
      replace q38 := Option.some.inj q38
      subst q38
      refine lv_iload_n hx hb dX6_ask_120 rfl (lv_at hl 0 rfl) ?_
      obtain a1 := so1 h
      exact g_nmi a1 (hfin _ _ _ _ hW dX6_ask_121)
  · replace h := gi_f h c5
    refine lv_iconst (v := (-1 : Int32)) hx hb dX6_ask_13 (by decide) ?_
    obtain a1 := so1 h
    exact g_nmi a1 (hfin _ _ _ _ hW dX6_ask_14)
noncomputable def fX6_wantsSlice  (x1 : Int32) (x2 : Int32) (I : gI) : Option (Int32) :=
  gd (vp_in x1 6) (some (fX6_within x2 (I 5 (x1).toNatClampNeg) (I 6 (x1).toNatClampNeg)))
set_option maxHeartbeats 4000000 in
set_option maxRecDepth 100000 in
theorem kX6_wantsSlice {l : Launch} {G : gG} {ad : Nat → Nat} (hok : gInj LC ad)    (x1 : Int32) (x2 : Int32) (I : gI) (J : gJ) (r : Int32) (h : fX6_wantsSlice x1 x2 I = some r) : gMi l yX6_wantsSlice cX6_wantsSlice 3 (some .boolean) 2 G LC ad [.ref (ad 0), .int x1, .int x2] I J r (r = 0 ∨ r = 1) I J := by
  refine gMz_of (lst := [(0, .ref (ad 0)), (1, .int x1), (2, .int x2)]) (by decide) hok (Nat.le_of_ble_eq_true rfl) rfl ?_
  intro p e s m args below meth c Q ls K hW hl hfin
  have hn : (some r : Option (Int32)) ≠ none := Option.some_ne_none _
  have hx := K.1; have hb := K.2.1; have hown := K.2.2.2.1; have hts := K.2.2.2.2.1
  unfold fX6_wantsSlice at h
  refine lv_iload_n hx hb dX6_wantsSlice_0 rfl (lv_at hl 2 rfl) ?_
  refine lv_aload_n hx hb dX6_wantsSlice_1 rfl (lv_at hl 0 rfl) ?_
  refine g_get K hW (t := 2) (ci := 5) (k := 0) (v := .ref (ad 1)) kLC_0 rfl rfl i_X6 (by decide) q_393 rfl (gfv2 rLC_0_0) dX6_wantsSlice_2 ?_
  refine g_get K hW (t := 2) (ci := 0) (k := 3) (v := .ref (ad 5)) kLC_1 rfl rfl i_X0 (by decide) q_220 rfl (gfv2 rLC_1_3) dX6_wantsSlice_5 ?_
  refine lv_iload_n hx hb dX6_wantsSlice_8 rfl (lv_at hl 1 rfl) ?_
  obtain ⟨g1, h⟩ := gd_o h hn
  refine g_iald K hW kLC_5 g1 rfl dX6_wantsSlice_9 ?_
  refine lv_aload_n hx hb dX6_wantsSlice_10 rfl (lv_at hl 0 rfl) ?_
  refine g_get K hW (t := 2) (ci := 5) (k := 0) (v := .ref (ad 1)) kLC_0 rfl rfl i_X6 (by decide) q_393 rfl (gfv2 rLC_0_0) dX6_wantsSlice_11 ?_
  refine g_get K hW (t := 2) (ci := 0) (k := 4) (v := .ref (ad 6)) kLC_1 rfl rfl i_X0 (by decide) q_222 rfl (gfv2 rLC_1_4) dX6_wantsSlice_14 ?_
  refine lv_iload_n hx hb dX6_wantsSlice_17 rfl (lv_at hl 1 rfl) ?_
  refine g_iald K hW kLC_6 g1 rfl dX6_wantsSlice_18 ?_
  refine g_callSi (rest := []) K hW hl (kX6_within (l := l) (G := G) (ad := ad) hok x2 (I 5 (x1).toNatClampNeg) (I 6 (x1).toNatClampNeg) I J (fX6_within x2 (I 5 (x1).toNatClampNeg) (I 6 (x1).toNatClampNeg)) rfl) q_440 q_441 q_133 q_442 nm_X6_within ⟨Nat.le_of_ble_eq_true rfl, Nat.le_of_ble_eq_true rfl⟩ rfl rfl (Nat.le_of_ble_eq_true rfl) ⟨Nat.zero_le _, Nat.zero_le _⟩ dX6_wantsSlice_19 (fun z2 H locs hW => ?_)
  obtain a1 := so1 h
  exact g_nmi a1 (hfin _ _ _ _ (a1 ▸ z2) hW dX6_wantsSlice_22)
theorem nm_X6_wantsSlice : gNm yX6_wantsSlice 2 := by decide +kernel
noncomputable def fX6_auction_32b  (rec : Int32 → Int32 → Int32 → Int32 → Int32 → Int32 → Int32 → gI → Option ((Int32 × Int32 × Int32 × gI))) (u5 : Int32) (u6 : Int32) (u7 : Int32) (u8 : Int32) (u9 : Int32) (u10 : Int32) (u11 : Int32) (I : gI) : Option ((Int32 × Int32 × Int32 × gI)) :=
  gi ((I 1 12) ≤ u11)
 (some (u7, u9, u10, I))
 (bd (fX6_wantsSort u11 (I 11 5) I) (fun (u17 : Int32) => lz (fun (u20 : Int32) => fun (u21 : Int32) => fun (u22 : Int32) => fun (u23 : Int32) => fun (I24 : gI) => lz ((u11 + (1 : Int32))) (fun (u28 : Int32) => rec u5 u6 u20 u21 u22 u23 u28 I24)) (fun j25 => gi (u17 = 0)
 (j25 u7 u8 u9 u10 I)
 (bd (fX6_wantsSlice u11 u5 I) (fun (u31 : Int32) => gi (u31 = 0)
 (j25 u7 u8 u9 u10 I)
 (bd (fX0_longOf u11 I) (fun (u35 : Int32) => lz (fun (u38 : Int32) => fun (I39 : gI) => lz (fun (u43 : Int32) => fun (u44 : Int32) => fun (u45 : Int32) => lz ((u10 + (1 : Int32))) (fun (u49 : Int32) => j25 u43 u44 u45 u49 I39)) (fun j46 => gi (u38 ≤ u8)
 (lz ((jmax u9 u38)) (fun (u52 : Int32) => j46 u7 u8 u52))
 (lz ((jmax u8 (0 : Int32))) (fun (u54 : Int32) => j46 u11 u38 u54)))) (fun j40 => gi (u35 ≤ 0)
 (j40 (0 : Int32) I)
 (bd (fX6_bidsNow u11 I) (pr (fun (u57 : Int32) (I58 : gI) => gd (¬ u35 = 0) (j40 (u57 / u35) I58))))))))))))
noncomputable def fX6_auction_32  : Nat → Int32 → Int32 → Int32 → Int32 → Int32 → Int32 → Int32 → gI → Option ((Int32 × Int32 × Int32 × gI))
  | 0 => fun _ _ _ _ _ _ _ _ => none
  | n + 1 => fX6_auction_32b  (fX6_auction_32  n)
set_option maxHeartbeats 4000000 in
set_option maxRecDepth 100000 in
theorem tX6_auction_32 {l : Launch} {G : gG} {ad : Nat → Nat} {p : Program} {e : Env} {s : State} {m : MethodId} {args : Array Value} {below : List Frame} {meth : Method} {c : Code} {Q : State → Prop} (hok : gInj LC ad) (K : gCx G (gA LC ad) p s m args c cX6_auction 10 RX6)  : ∀ (n : Nat) (u5 : Int32) (u6 : Int32) (u7 : Int32) (u8 : Int32) (u9 : Int32) (u10 : Int32) (u11 : Int32) (I : gI) (J : gJ) (out : Option ((Int32 × Int32 × Int32 × gI))), fX6_auction_32  n u5 u6 u7 u8 u9 u10 u11 I = out → out ≠ none → ∀ (H : Heap) (locs : List Loc), gWd G LC ad (gA LC ad) s.heap I J H locs → ∀ (ls : Array Slot), lv_has ls 10 [(0, .ref (ad 0)), (1, .int u5), (2, .int u6), (3, .int u7), (4, .int u8), (5, .int u9), (6, .int u10), (7, .int u11)] → (∀ (y12 : Int32) (y13 : Int32) (y14 : Int32) (I15 : gI), some (y12, y13, y14, I15) = out → ∀ (H : Heap) (locs : List Loc), gWd G LC ad (gA LC ad) s.heap I15 J H locs → ∀ (ls : Array Slot), lv_has ls 10 [(2, .int u6), (3, .int y12), (5, .int y13), (6, .int y14)] → W p l e (gRm 6) s m args below meth c H locs 0 0 Q (F0 m 147 ls [])) → W p l e (gRm 6) s m args below meth c H locs 0 0 Q (F0 m 32 ls []) := by
  have hx := K.1; have hb := K.2.1; have hown := K.2.2.2.1; have hts := K.2.2.2.2.1
  intro n
  induction n with
  | zero => intro u5 u6 u7 u8 u9 u10 u11 I J out h hn; exact absurd h.symm hn
  | succ n ih =>
    intro u5 u6 u7 u8 u9 u10 u11 I J out h hn H locs hW ls hl hx1
    replace h : fX6_auction_32b  (fX6_auction_32  n) u5 u6 u7 u8 u9 u10 u11 I = out := h
    unfold fX6_auction_32b at h
    refine lv_iload hx hb dX6_auction_32 (lv_at hl 7 rfl) ?_
    refine lv_aload_n hx hb dX6_auction_34 rfl (lv_at hl 0 rfl) ?_
    refine g_get K hW (t := 2) (ci := 5) (k := 0) (v := .ref (ad 1)) kLC_0 rfl rfl i_X6 (by decide) q_393 rfl (gfv2 rLC_0_0) dX6_auction_35 ?_
    refine g_get K hW (t := 0) (ci := 0) (k := 12) (v := .int (I 1 12)) kLC_1 rfl rfl i_X0 (by decide) q_238 rfl rfl dX6_auction_38 ?_
    refine lv_icmp_ge (tgt := 147) hx hb dX6_auction_41 (by decide) (fun c16 => ?_) (fun c16 => ?_)
    · replace h := gi_t h c16
      exact hx1 u7 u9 u10 I h _ _ hW _ (lv_sub hl [2, 3, 5, 6] rfl)
    · replace h := gi_f h c16
      refine lv_aload_n hx hb dX6_auction_44 rfl (lv_at hl 0 rfl) ?_
      refine lv_iload hx hb dX6_auction_45 (lv_at hl 7 rfl) ?_
      refine lv_aload_n hx hb dX6_auction_47 rfl (lv_at hl 0 rfl) ?_
      refine g_get K hW (t := 2) (ci := 5) (k := 0) (v := .ref (ad 1)) kLC_0 rfl rfl i_X6 (by decide) q_393 rfl (gfv2 rLC_0_0) dX6_auction_48 ?_
      refine g_get K hW (t := 2) (ci := 0) (k := 9) (v := .ref (ad 11)) kLC_1 rfl rfl i_X0 (by decide) q_232 rfl (gfv2 rLC_1_9) dX6_auction_51 ?_
      refine g_get K hW (t := 0) (ci := 4) (k := 5) (v := .int (I 11 5)) kLC_11 rfl rfl i_X5 (by decide) q_182 rfl rfl dX6_auction_54 ?_
      obtain ⟨u17, e18, h⟩ := bd_o h hn
      refine g_callVi (rest := []) K hW hl (kX6_wantsSort (l := l) (G := G) (ad := ad) hok u11 (I 11 5) I J u17 e18) kLC_0 rfl (gG_V q_680 q_682 q_25 q_133 q_683) nm_X6_wantsSort ⟨Nat.le_of_ble_eq_true rfl, Nat.le_of_ble_eq_true rfl⟩ rfl rfl (Nat.le_of_ble_eq_true rfl) ⟨Nat.zero_le _, Nat.zero_le _⟩ dX6_auction_57 (fun z19 H locs hW => ?_)
      obtain ⟨j25, e26, h⟩ := lz_o h
      have hj27 : ∀ (u20 : Int32) (u21 : Int32) (u22 : Int32) (u23 : Int32) (I24 : gI), j25 u20 u21 u22 u23 I24 = out → ∀ (H : Heap) (locs : List Loc), gWd G LC ad (gA LC ad) s.heap I24 J H locs → ∀ (ls : Array Slot), lv_has ls 10 [(0, .ref (ad 0)), (1, .int u5), (2, .int u6), (3, .int u20), (4, .int u21), (5, .int u22), (6, .int u23), (7, .int u11)] → W p l e (gRm 6) s m args below meth c H locs 0 0 Q (F0 m 141 ls []) := by
        intro u20 u21 u22 u23 I24 h H locs hW ls hl
        replace h := jn5 e26 h
        obtain ⟨u28, e29, h⟩ := lz_o h
        refine lv_iinc (v := u28) (lv' := [(7, .int u28), (0, .ref (ad 0)), (1, .int u5), (2, .int u6), (3, .int u20), (4, .int u21), (5, .int u22), (6, .int u23)]) hx hb dX6_auction_141 hl (k := 7) rfl (by rw [e29]; rfl) (by decide) rfl (fun ls hl => ?_)
        refine lv_goto (tgt := 32) hx hb dX6_auction_144 (by decide) ?_
        exact ih u5 u6 u20 u21 u22 u23 u28 I24 J _ h hn _ _ hW _ (lv_sub hl [1, 2, 3, 4, 5, 6, 7, 0] rfl) hx1
      refine lv_if_eq (tgt := 141) hx hb dX6_auction_60 (by decide) (fun c30 => ?_) (fun c30 => ?_)
      · replace h := gi_t h c30
        exact hj27 u7 u8 u9 u10 I h _ _ hW _ (lv_sub hl [0, 1, 2, 3, 4, 5, 6, 7] rfl)
      · replace h := gi_f h c30
        refine lv_aload_n hx hb dX6_auction_63 rfl (lv_at hl 0 rfl) ?_
        refine lv_iload hx hb dX6_auction_64 (lv_at hl 7 rfl) ?_
        refine lv_iload_n hx hb dX6_auction_66 rfl (lv_at hl 1 rfl) ?_
        obtain ⟨u31, e32, h⟩ := bd_o h hn
        refine g_callVi (rest := []) K hW hl (kX6_wantsSlice (l := l) (G := G) (ad := ad) hok u11 u5 I J u31 e32) kLC_0 rfl (gG_V q_985 q_987 q_49 q_133 q_988) nm_X6_wantsSlice ⟨Nat.le_of_ble_eq_true rfl, Nat.le_of_ble_eq_true rfl⟩ rfl rfl (Nat.le_of_ble_eq_true rfl) ⟨Nat.zero_le _, Nat.zero_le _⟩ dX6_auction_67 (fun z33 H locs hW => ?_)
        refine lv_if_eq (tgt := 141) hx hb dX6_auction_70 (by decide) (fun c34 => ?_) (fun c34 => ?_)
        · replace h := gi_t h c34
          exact hj27 u7 u8 u9 u10 I h _ _ hW _ (lv_sub hl [0, 1, 2, 3, 4, 5, 6, 7] rfl)
        · replace h := gi_f h c34
          refine lv_aload_n hx hb dX6_auction_73 rfl (lv_at hl 0 rfl) ?_
          refine g_get K hW (t := 2) (ci := 5) (k := 0) (v := .ref (ad 1)) kLC_0 rfl rfl i_X6 (by decide) q_393 rfl (gfv2 rLC_0_0) dX6_auction_74 ?_
          refine lv_iload hx hb dX6_auction_77 (lv_at hl 7 rfl) ?_
          obtain ⟨u35, e36, h⟩ := bd_o h hn
          refine g_callVi (rest := []) K hW hl (kX0_longOf (l := l) (G := G) (ad := ad) hok u11 I J u35 e36) kLC_1 rfl (gG_V q_693 q_694 q_695 q_134 q_696) nm_X0_longOf ⟨Nat.le_of_ble_eq_true rfl, Nat.le_of_ble_eq_true rfl⟩ rfl rfl (Nat.le_of_ble_eq_true rfl) ⟨Nat.zero_le _, Nat.zero_le _⟩ dX6_auction_79 (fun z37 H locs hW => ?_)
          refine lv_istore (lv' := [(8, .int u35), (0, .ref (ad 0)), (1, .int u5), (2, .int u6), (3, .int u7), (4, .int u8), (5, .int u9), (6, .int u10), (7, .int u11)]) hx hb dX6_auction_82 hl (by decide) rfl (fun ls hl => ?_)
          refine lv_iload hx hb dX6_auction_84 (lv_at hl 0 rfl) ?_
          obtain ⟨j40, e41, h⟩ := lz_o h
          have hj42 : ∀ (u38 : Int32) (I39 : gI), j40 u38 I39 = out → ∀ (H : Heap) (locs : List Loc), gWd G LC ad (gA LC ad) s.heap I39 J H locs → ∀ (ls : Array Slot), lv_has ls 10 [(0, .ref (ad 0)), (1, .int u5), (2, .int u6), (3, .int u7), (4, .int u8), (5, .int u9), (6, .int u10), (7, .int u11)] → W p l e (gRm 6) s m args below meth c H locs 0 0 Q (F0 m 102 ls [.int u38]) := by
            intro u38 I39 h H locs hW ls hl
            replace h := jn2 e41 h
            refine lv_istore (lv' := [(9, .int u38), (0, .ref (ad 0)), (1, .int u5), (2, .int u6), (3, .int u7), (4, .int u8), (5, .int u9), (6, .int u10), (7, .int u11)]) hx hb dX6_auction_102 hl (by decide) rfl (fun ls hl => ?_)
            refine lv_iload hx hb dX6_auction_104 (lv_at hl 0 rfl) ?_
            refine lv_iload hx hb dX6_auction_106 (lv_at hl 5 rfl) ?_
            obtain ⟨j46, e47, h⟩ := lz_o h
            have hj48 : ∀ (u43 : Int32) (u44 : Int32) (u45 : Int32), j46 u43 u44 u45 = out → ∀ (H : Heap) (locs : List Loc), gWd G LC ad (gA LC ad) s.heap I39 J H locs → ∀ (ls : Array Slot), lv_has ls 10 [(0, .ref (ad 0)), (1, .int u5), (2, .int u6), (3, .int u43), (4, .int u44), (5, .int u45), (6, .int u10), (7, .int u11)] → W p l e (gRm 6) s m args below meth c H locs 0 0 Q (F0 m 138 ls []) := by
              intro u43 u44 u45 h H locs hW ls hl
              replace h := jn3 e47 h
              obtain ⟨u49, e50, h⟩ := lz_o h
              refine lv_iinc (v := u49) (lv' := [(6, .int u49), (0, .ref (ad 0)), (1, .int u5), (2, .int u6), (3, .int u43), (4, .int u44), (5, .int u45), (7, .int u11)]) hx hb dX6_auction_138 hl (k := 6) rfl (by rw [e50]; rfl) (by decide) rfl (fun ls hl => ?_)
              exact hj27 u43 u44 u45 u49 I39 h _ _ hW _ (lv_sub hl [1, 2, 3, 4, 5, 6, 0, 7] rfl)
            refine lv_icmp_le (tgt := 129) hx hb dX6_auction_108 (by decide) (fun c51 => ?_) (fun c51 => ?_)
            · replace h := gi_t h c51
              refine lv_iload hx hb dX6_auction_129 (lv_at hl 6 rfl) ?_
              refine lv_iload hx hb dX6_auction_131 (lv_at hl 0 rfl) ?_
              refine g_max K hl q_931 (by decide) (Nat.le_of_ble_eq_true rfl) ⟨Nat.zero_le _, Nat.zero_le _⟩ dX6_auction_133 ?_
              obtain ⟨u52, e53, h⟩ := lz_o h
              refine g_nmi e53 ?_
              refine lv_istore (lv' := [(5, .int u52), (9, .int u38), (0, .ref (ad 0)), (1, .int u5), (2, .int u6), (3, .int u7), (4, .int u8), (6, .int u10), (7, .int u11)]) hx hb dX6_auction_136 hl (by decide) rfl (fun ls hl => ?_)
              exact hj48 u7 u8 u52 h _ _ hW _ (lv_sub hl [2, 3, 4, 5, 6, 0, 7, 8] rfl)
            · replace h := gi_f h c51
              refine lv_iload hx hb dX6_auction_111 (lv_at hl 5 rfl) ?_
              refine lv_iconst (v := (0 : Int32)) hx hb dX6_auction_113 (by decide) ?_
              refine g_max K hl q_931 (by decide) (Nat.le_of_ble_eq_true rfl) ⟨Nat.zero_le _, Nat.zero_le _⟩ dX6_auction_114 ?_
              obtain ⟨u54, e55, h⟩ := lz_o h
              refine g_nmi e55 ?_
              refine lv_istore (lv' := [(5, .int u54), (9, .int u38), (0, .ref (ad 0)), (1, .int u5), (2, .int u6), (3, .int u7), (4, .int u8), (6, .int u10), (7, .int u11)]) hx hb dX6_auction_117 hl (by decide) rfl (fun ls hl => ?_)
              refine lv_iload hx hb dX6_auction_119 (lv_at hl 1 rfl) ?_
              refine lv_istore (lv' := [(4, .int u38), (5, .int u54), (9, .int u38), (0, .ref (ad 0)), (1, .int u5), (2, .int u6), (3, .int u7), (6, .int u10), (7, .int u11)]) hx hb dX6_auction_121 hl (by decide) rfl (fun ls hl => ?_)
              refine lv_iload hx hb dX6_auction_123 (lv_at hl 8 rfl) ?_
              refine lv_istore_n (lv' := [(3, .int u11), (4, .int u38), (5, .int u54), (9, .int u38), (0, .ref (ad 0)), (1, .int u5), (2, .int u6), (6, .int u10), (7, .int u11)]) hx hb dX6_auction_125 rfl hl (by decide) rfl (fun ls hl => ?_)
              refine lv_goto (tgt := 138) hx hb dX6_auction_126 (by decide) ?_
              exact hj48 u11 u38 u54 h _ _ hW _ (lv_sub hl [4, 5, 6, 0, 1, 2, 7, 8] rfl)
          refine lv_if_le (tgt := 101) hx hb dX6_auction_86 (by decide) (fun c56 => ?_) (fun c56 => ?_)
          · replace h := gi_t h c56
            refine lv_iconst (v := (0 : Int32)) hx hb dX6_auction_101 (by decide) ?_
            exact hj42 (0 : Int32) I h _ _ hW _ (lv_sub hl [1, 2, 3, 4, 5, 6, 7, 8] rfl)
          · replace h := gi_f h c56
            refine lv_aload_n hx hb dX6_auction_89 rfl (lv_at hl 1 rfl) ?_
            refine lv_iload hx hb dX6_auction_90 (lv_at hl 8 rfl) ?_
            obtain ⟨⟨u57, I58⟩, e59, h⟩ := bd_o h hn
            replace h := pr_o h
            refine g_callVi (rest := []) K hW hl (kX6_bidsNow (l := l) (G := G) (ad := ad) hok u11 I J u57 I58 e59) kLC_0 rfl (gG_V q_780 q_782 q_33 q_133 q_783) nm_X6_bidsNow ⟨Nat.le_of_ble_eq_true rfl, Nat.le_of_ble_eq_true rfl⟩ rfl rfl (Nat.le_of_ble_eq_true rfl) ⟨Nat.zero_le _, Nat.zero_le _⟩ dX6_auction_92 (fun z60 H locs hW => ?_)
            refine lv_iload hx hb dX6_auction_95 (lv_at hl 0 rfl) ?_
            obtain ⟨g61, h⟩ := gd_o h hn
            refine lv_idiv hx hb dX6_auction_97 g61 ?_
            refine lv_goto (tgt := 102) hx hb dX6_auction_98 (by decide) ?_
            exact hj42 (u57 / u35) I58 h _ _ hW _ (lv_sub hl [1, 2, 3, 4, 5, 6, 7, 8] rfl)
noncomputable def fX6_auction  (x1 : Int32) (x2 : Int32) (I : gI) : Option (Int32 × gI) :=
  gi ((fX6_isSlice x1) = 0)
 (some ((-1 : Int32), I))
 (gi ((fX6_within x2 (0 : Int32) (2 : Int32)) = 0)
 (some ((-1 : Int32), I))
 (bd (fX6_auction_32 FU x1 x2 (-1 : Int32) (-1 : Int32) (0 : Int32) (0 : Int32) (0 : Int32) I) (pr (fun (u64 : Int32) => (pr (fun (u65 : Int32) => (pr (fun (u66 : Int32) (I67 : gI) => gi (u64 = (-1 : Int32))
 (some (u64, I67))
 (gi (x2 = 0)
 (some (u64, I67))
 (gi (x2 = (1 : Int32))
 (some (u65, I67))
 (some (u66, I67))))))))))))
set_option maxHeartbeats 4000000 in
set_option maxRecDepth 100000 in
theorem kX6_auction {l : Launch} {G : gG} {ad : Nat → Nat} (hok : gInj LC ad)    (x1 : Int32) (x2 : Int32) (I : gI) (J : gJ) (r : Int32) (I' : gI) (h : fX6_auction x1 x2 I = some (r, I')) : gMi l yX6_auction cX6_auction 10 (some .int) 6 G LC ad [.ref (ad 0), .int x1, .int x2] I J r True I' J := by
  refine gMi_of (lst := [(0, .ref (ad 0)), (1, .int x1), (2, .int x2)]) (by decide) hok (Nat.le_of_ble_eq_true rfl) rfl ?_
  intro p e s m args below meth c Q ls K hW hl hfin
  have hn : (some (r, I') : Option (Int32 × gI)) ≠ none := Option.some_ne_none _
  have hx := K.1; have hb := K.2.1; have hown := K.2.2.2.1; have hts := K.2.2.2.2.1
  unfold fX6_auction at h
  refine lv_iload_n hx hb dX6_auction_0 rfl (lv_at hl 1 rfl) ?_
  refine g_callSi (rest := []) K hW hl (kX6_isSlice (l := l) (G := G) (ad := ad) hok x1 I J (fX6_isSlice x1) rfl) q_454 q_455 q_133 q_456 nm_X6_isSlice ⟨Nat.le_of_ble_eq_true rfl, Nat.le_of_ble_eq_true rfl⟩ rfl rfl (Nat.le_of_ble_eq_true rfl) ⟨Nat.zero_le _, Nat.zero_le _⟩ dX6_auction_1 (fun z1 H locs hW => ?_)
  refine lv_if_eq (tgt := 16) hx hb dX6_auction_4 (by decide) (fun c2 => ?_) (fun c2 => ?_)
  · replace h := gi_t h c2
    refine lv_iconst (v := (-1 : Int32)) hx hb dX6_auction_16 (by decide) ?_
    obtain ⟨a1, a2⟩ := so2 h
    replace hW := gWd_nI a2 hW
    exact g_nmi a1 (hfin _ _ _ _ hW dX6_auction_17)
  · replace h := gi_f h c2
    refine lv_iload_n hx hb dX6_auction_7 rfl (lv_at hl 2 rfl) ?_
    refine lv_iconst (v := (0 : Int32)) hx hb dX6_auction_8 (by decide) ?_
    refine lv_iconst (v := (2 : Int32)) hx hb dX6_auction_9 (by decide) ?_
    refine g_callSi (rest := []) K hW hl (kX6_within (l := l) (G := G) (ad := ad) hok x2 (0 : Int32) (2 : Int32) I J (fX6_within x2 (0 : Int32) (2 : Int32)) rfl) q_440 q_441 q_133 q_442 nm_X6_within ⟨Nat.le_of_ble_eq_true rfl, Nat.le_of_ble_eq_true rfl⟩ rfl rfl (Nat.le_of_ble_eq_true rfl) ⟨Nat.zero_le _, Nat.zero_le _⟩ dX6_auction_10 (fun z3 H locs hW => ?_)
    refine lv_if_ne (tgt := 18) hx hb dX6_auction_13 (by decide) (fun c4 => ?_) (fun c4 => ?_)
    · replace h := gi_f h c4
      refine lv_iconst (v := (-1 : Int32)) hx hb dX6_auction_18 (by decide) ?_
      refine lv_istore_n (lv' := [(3, .int (-1 : Int32)), (0, .ref (ad 0)), (1, .int x1), (2, .int x2)]) hx hb dX6_auction_19 rfl hl (by decide) rfl (fun ls hl => ?_)
      refine lv_iconst (v := (-1 : Int32)) hx hb dX6_auction_20 (by decide) ?_
      refine lv_istore (lv' := [(4, .int (-1 : Int32)), (3, .int (-1 : Int32)), (0, .ref (ad 0)), (1, .int x1), (2, .int x2)]) hx hb dX6_auction_21 hl (by decide) rfl (fun ls hl => ?_)
      refine lv_iconst (v := (0 : Int32)) hx hb dX6_auction_23 (by decide) ?_
      refine lv_istore (lv' := [(5, .int (0 : Int32)), (4, .int (-1 : Int32)), (3, .int (-1 : Int32)), (0, .ref (ad 0)), (1, .int x1), (2, .int x2)]) hx hb dX6_auction_24 hl (by decide) rfl (fun ls hl => ?_)
      refine lv_iconst (v := (0 : Int32)) hx hb dX6_auction_26 (by decide) ?_
      refine lv_istore (lv' := [(6, .int (0 : Int32)), (5, .int (0 : Int32)), (4, .int (-1 : Int32)), (3, .int (-1 : Int32)), (0, .ref (ad 0)), (1, .int x1), (2, .int x2)]) hx hb dX6_auction_27 hl (by decide) rfl (fun ls hl => ?_)
      refine lv_iconst (v := (0 : Int32)) hx hb dX6_auction_29 (by decide) ?_
      refine lv_istore (lv' := [(7, .int (0 : Int32)), (6, .int (0 : Int32)), (5, .int (0 : Int32)), (4, .int (-1 : Int32)), (3, .int (-1 : Int32)), (0, .ref (ad 0)), (1, .int x1), (2, .int x2)]) hx hb dX6_auction_30 hl (by decide) rfl (fun ls hl => ?_)
      obtain ⟨r62, e63, h⟩ := bd_o h hn
      refine tX6_auction_32 hok K FU x1 x2 (-1 : Int32) (-1 : Int32) (0 : Int32) (0 : Int32) (0 : Int32) I J (some r62) e63 (Option.some_ne_none _) _ _ hW _ (lv_sub hl [5, 6, 7, 4, 3, 2, 1, 0] rfl) ?_
      · intro u64 u65 u66 I67 q68 H locs hW ls hl
        replace q68 := Option.some.inj q68
        subst q68
        replace h := pr_o h
        replace h := pr_o h
        replace h := pr_o h
        refine lv_iload_n hx hb dX6_auction_147 rfl (lv_at hl 1 rfl) ?_
        refine lv_iconst (v := (-1 : Int32)) hx hb dX6_auction_148 (by decide) ?_
        refine lv_icmp_eq (tgt := 156) hx hb dX6_auction_149 (by decide) (fun c69 => ?_) (fun c69 => ?_)
        · replace h := gi_t h c69
          refine lv_iload_n hx hb dX6_auction_156 rfl (lv_at hl 1 rfl) ?_
          obtain ⟨a1, a2⟩ := so2 h
          replace hW := gWd_nI a2 hW
          exact g_nmi a1 (hfin _ _ _ _ hW dX6_auction_157)
        · replace h := gi_f h c69
          refine lv_iload_n hx hb dX6_auction_152 rfl (lv_at hl 0 rfl) ?_
          refine lv_if_ne (tgt := 158) hx hb dX6_auction_153 (by decide) (fun c70 => ?_) (fun c70 => ?_)
          · replace h := gi_f h c70
            refine lv_iload_n hx hb dX6_auction_158 rfl (lv_at hl 0 rfl) ?_
            refine lv_iconst (v := (1 : Int32)) hx hb dX6_auction_159 (by decide) ?_
            refine lv_icmp_ne (tgt := 168) hx hb dX6_auction_160 (by decide) (fun c71 => ?_) (fun c71 => ?_)
            · replace h := gi_f h c71
              refine lv_iload hx hb dX6_auction_168 (lv_at hl 3 rfl) ?_
              obtain ⟨a1, a2⟩ := so2 h
              replace hW := gWd_nI a2 hW
              exact g_nmi a1 (hfin _ _ _ _ hW dX6_auction_170)
            · replace h := gi_t h c71
              refine lv_iload hx hb dX6_auction_163 (lv_at hl 2 rfl) ?_
              refine lv_goto (tgt := 170) hx hb dX6_auction_165 (by decide) ?_
              obtain ⟨a1, a2⟩ := so2 h
              replace hW := gWd_nI a2 hW
              exact g_nmi a1 (hfin _ _ _ _ hW dX6_auction_170)
          · replace h := gi_t h c70
            refine lv_iload_n hx hb dX6_auction_156 rfl (lv_at hl 1 rfl) ?_
            obtain ⟨a1, a2⟩ := so2 h
            replace hW := gWd_nI a2 hW
            exact g_nmi a1 (hfin _ _ _ _ hW dX6_auction_157)
    · replace h := gi_t h c4
      refine lv_iconst (v := (-1 : Int32)) hx hb dX6_auction_16 (by decide) ?_
      obtain ⟨a1, a2⟩ := so2 h
      replace hW := gWd_nI a2 hW
      exact g_nmi a1 (hfin _ _ _ _ hW dX6_auction_17)
noncomputable def fX6_stab_20b  (rec : Int32 → Int32 → Int32 → Int32 → Int32 → Int32 → gI → Option ((Int32))) (u7 : Int32) (u8 : Int32) (u9 : Int32) (u10 : Int32) (u11 : Int32) (u12 : Int32) (I : gI) : Option ((Int32)) :=
  gi ((I 1 12) ≤ u12)
 (some u11)
 (gd (vp_in u12 6) (lz (fun (u16 : Int32) => lz ((u11 ||| u16)) (fun (u20 : Int32) => lz ((u12 + (1 : Int32))) (fun (u22 : Int32) => rec u7 u8 u9 u10 u20 u22 I))) (fun j17 => lz (j17 (0 : Int32)) (fun j24 => gi ((I 5 (u12).toNatClampNeg) = u10)
 (gi (u9 ≤ (I 6 (u12).toNatClampNeg))
 (j24)
 (j17 (1 : Int32)))
 (j24)))))
noncomputable def fX6_stab_20  : Nat → Int32 → Int32 → Int32 → Int32 → Int32 → Int32 → gI → Option ((Int32))
  | 0 => fun _ _ _ _ _ _ _ => none
  | n + 1 => fX6_stab_20b  (fX6_stab_20  n)
set_option maxHeartbeats 4000000 in
set_option maxRecDepth 100000 in
theorem tX6_stab_20 {l : Launch} {G : gG} {ad : Nat → Nat} {p : Program} {e : Env} {s : State} {m : MethodId} {args : Array Value} {below : List Frame} {meth : Method} {c : Code} {Q : State → Prop} (hok : gInj LC ad) (K : gCx G (gA LC ad) p s m args c cX6_stab 7 RX6)  : ∀ (n : Nat) (u7 : Int32) (u8 : Int32) (u9 : Int32) (u10 : Int32) (u11 : Int32) (u12 : Int32) (I : gI) (J : gJ) (out : Option ((Int32))), fX6_stab_20  n u7 u8 u9 u10 u11 u12 I = out → out ≠ none → ∀ (H : Heap) (locs : List Loc), gWd G LC ad (gA LC ad) s.heap I J H locs → ∀ (ls : Array Slot), lv_has ls 7 [(0, .ref (ad 0)), (1, .int u7), (2, .int u8), (3, .int u9), (4, .int u10), (5, .int u11), (6, .int u12)] → (∀ (y13 : Int32), some y13 = out → ∀ (H : Heap) (locs : List Loc), gWd G LC ad (gA LC ad) s.heap I J H locs → ∀ (ls : Array Slot), lv_has ls 7 [(0, .ref (ad 0)), (1, .int u7), (2, .int u8), (3, .int u9), (4, .int u10), (5, .int y13)] → W p l e (gRm 2) s m args below meth c H locs 0 0 Q (F0 m 77 ls [])) → W p l e (gRm 2) s m args below meth c H locs 0 0 Q (F0 m 20 ls []) := by
  have hx := K.1; have hb := K.2.1; have hown := K.2.2.2.1; have hts := K.2.2.2.2.1
  intro n
  induction n with
  | zero => intro u7 u8 u9 u10 u11 u12 I J out h hn; exact absurd h.symm hn
  | succ n ih =>
    intro u7 u8 u9 u10 u11 u12 I J out h hn H locs hW ls hl hx1
    replace h : fX6_stab_20b  (fX6_stab_20  n) u7 u8 u9 u10 u11 u12 I = out := h
    unfold fX6_stab_20b at h
    refine lv_iload hx hb dX6_stab_20 (lv_at hl 6 rfl) ?_
    refine lv_aload_n hx hb dX6_stab_22 rfl (lv_at hl 0 rfl) ?_
    refine g_get K hW (t := 2) (ci := 5) (k := 0) (v := .ref (ad 1)) kLC_0 rfl rfl i_X6 (by decide) q_393 rfl (gfv2 rLC_0_0) dX6_stab_23 ?_
    refine g_get K hW (t := 0) (ci := 0) (k := 12) (v := .int (I 1 12)) kLC_1 rfl rfl i_X0 (by decide) q_238 rfl rfl dX6_stab_26 ?_
    refine lv_icmp_ge (tgt := 77) hx hb dX6_stab_29 (by decide) (fun c14 => ?_) (fun c14 => ?_)
    · replace h := gi_t h c14
      exact hx1 u11 h _ _ hW _ (lv_sub hl [0, 1, 2, 3, 4, 5] rfl)
    · replace h := gi_f h c14
      refine lv_iload hx hb dX6_stab_32 (lv_at hl 5 rfl) ?_
      refine lv_aload_n hx hb dX6_stab_34 rfl (lv_at hl 0 rfl) ?_
      refine g_get K hW (t := 2) (ci := 5) (k := 0) (v := .ref (ad 1)) kLC_0 rfl rfl i_X6 (by decide) q_393 rfl (gfv2 rLC_0_0) dX6_stab_35 ?_
      refine g_get K hW (t := 2) (ci := 0) (k := 3) (v := .ref (ad 5)) kLC_1 rfl rfl i_X0 (by decide) q_220 rfl (gfv2 rLC_1_3) dX6_stab_38 ?_
      refine lv_iload hx hb dX6_stab_41 (lv_at hl 6 rfl) ?_
      obtain ⟨g15, h⟩ := gd_o h hn
      refine g_iald K hW kLC_5 g15 rfl dX6_stab_43 ?_
      refine lv_iload hx hb dX6_stab_44 (lv_at hl 4 rfl) ?_
      obtain ⟨j17, e18, h⟩ := lz_o h
      have hj19 : ∀ (u16 : Int32), j17 u16 = out → ∀ (H : Heap) (locs : List Loc), gWd G LC ad (gA LC ad) s.heap I J H locs → ∀ (ls : Array Slot), lv_has ls 7 [(0, .ref (ad 0)), (1, .int u7), (2, .int u8), (3, .int u9), (4, .int u10), (6, .int u12)] → W p l e (gRm 2) s m args below meth c H locs 0 0 Q (F0 m 68 ls [.int u16, .int u11]) := by
        intro u16 h H locs hW ls hl
        replace h := jn1 e18 h
        refine lv_ior hx hb dX6_stab_68 ?_
        obtain ⟨u20, e21, h⟩ := lz_o h
        refine g_nmi e21 ?_
        refine lv_istore (lv' := [(5, .int u20), (0, .ref (ad 0)), (1, .int u7), (2, .int u8), (3, .int u9), (4, .int u10), (6, .int u12)]) hx hb dX6_stab_69 hl (by decide) rfl (fun ls hl => ?_)
        obtain ⟨u22, e23, h⟩ := lz_o h
        refine lv_iinc (v := u22) (lv' := [(6, .int u22), (5, .int u20), (0, .ref (ad 0)), (1, .int u7), (2, .int u8), (3, .int u9), (4, .int u10)]) hx hb dX6_stab_71 hl (k := 6) rfl (by rw [e23]; rfl) (by decide) rfl (fun ls hl => ?_)
        refine lv_goto (tgt := 20) hx hb dX6_stab_74 (by decide) ?_
        exact ih u7 u8 u9 u10 u20 u22 I J _ h hn _ _ hW _ (lv_sub hl [2, 3, 4, 5, 6, 1, 0] rfl) hx1
      obtain ⟨j24, e25, h⟩ := lz_o h
      have hj26 : j24 = out → ∀ (H : Heap) (locs : List Loc), gWd G LC ad (gA LC ad) s.heap I J H locs → ∀ (ls : Array Slot), lv_has ls 7 [(0, .ref (ad 0)), (1, .int u7), (2, .int u8), (3, .int u9), (4, .int u10), (6, .int u12)] → W p l e (gRm 2) s m args below meth c H locs 0 0 Q (F0 m 67 ls [.int u11]) := by
        intro h H locs hW ls hl
        replace h := jn0 e25 h
        refine lv_iconst (v := (0 : Int32)) hx hb dX6_stab_67 (by decide) ?_
        exact hj19 (0 : Int32) h _ _ hW _ (lv_sub hl [0, 1, 2, 3, 4, 5] rfl)
      refine lv_icmp_ne (tgt := 67) hx hb dX6_stab_46 (by decide) (fun c27 => ?_) (fun c27 => ?_)
      · replace h := gi_f h c27
        exact hj26 h _ _ hW _ (lv_sub hl [0, 1, 2, 3, 4, 6] rfl)
      · replace h := gi_t h c27
        refine lv_aload_n hx hb dX6_stab_49 rfl (lv_at hl 0 rfl) ?_
        refine g_get K hW (t := 2) (ci := 5) (k := 0) (v := .ref (ad 1)) kLC_0 rfl rfl i_X6 (by decide) q_393 rfl (gfv2 rLC_0_0) dX6_stab_50 ?_
        refine g_get K hW (t := 2) (ci := 0) (k := 4) (v := .ref (ad 6)) kLC_1 rfl rfl i_X0 (by decide) q_222 rfl (gfv2 rLC_1_4) dX6_stab_53 ?_
        refine lv_iload hx hb dX6_stab_56 (lv_at hl 6 rfl) ?_
        refine g_iald K hW kLC_6 g15 rfl dX6_stab_58 ?_
        refine lv_iload_n hx hb dX6_stab_59 rfl (lv_at hl 3 rfl) ?_
        refine lv_icmp_ge (tgt := 67) hx hb dX6_stab_60 (by decide) (fun c28 => ?_) (fun c28 => ?_)
        · replace h := gi_t h c28
          exact hj26 h _ _ hW _ (lv_sub hl [0, 1, 2, 3, 4, 6] rfl)
        · replace h := gi_f h c28
          refine lv_iconst (v := (1 : Int32)) hx hb dX6_stab_63 (by decide) ?_
          refine lv_goto (tgt := 68) hx hb dX6_stab_64 (by decide) ?_
          exact hj19 (1 : Int32) h _ _ hW _ (lv_sub hl [0, 1, 2, 3, 4, 6] rfl)
noncomputable def fX6_stab_9b  (rec : Int32 → Int32 → Int32 → Int32 → gI → Option ((Int32))) (u1 : Int32) (u2 : Int32) (u3 : Int32) (u4 : Int32) (I : gI) : Option ((Int32)) :=
  gi (u4 < 0)
 (some u2)
 (bd (fX6_stab_20 FU u1 u2 u3 u4 (0 : Int32) (0 : Int32) I) (fun (u31 : Int32) => lz (fun (u33 : Int32) => fun (u34 : Int32) => lz ((u4 + (-1 : Int32))) (fun (u38 : Int32) => rec u1 u33 u34 u38 I)) (fun j35 => gi (u31 = 0)
 (j35 u2 u3)
 (lz ((u2 ||| (jshl (1 : Int32) u4))) (fun (u41 : Int32) => j35 u41 u4)))))
noncomputable def fX6_stab_9  : Nat → Int32 → Int32 → Int32 → Int32 → gI → Option ((Int32))
  | 0 => fun _ _ _ _ _ => none
  | n + 1 => fX6_stab_9b  (fX6_stab_9  n)
set_option maxHeartbeats 4000000 in
set_option maxRecDepth 100000 in
theorem tX6_stab_9 {l : Launch} {G : gG} {ad : Nat → Nat} {p : Program} {e : Env} {s : State} {m : MethodId} {args : Array Value} {below : List Frame} {meth : Method} {c : Code} {Q : State → Prop} (hok : gInj LC ad) (K : gCx G (gA LC ad) p s m args c cX6_stab 7 RX6)  : ∀ (n : Nat) (u1 : Int32) (u2 : Int32) (u3 : Int32) (u4 : Int32) (I : gI) (J : gJ) (out : Option ((Int32))), fX6_stab_9  n u1 u2 u3 u4 I = out → out ≠ none → ∀ (H : Heap) (locs : List Loc), gWd G LC ad (gA LC ad) s.heap I J H locs → ∀ (ls : Array Slot), lv_has ls 7 [(0, .ref (ad 0)), (1, .int u1), (2, .int u2), (3, .int u3), (4, .int u4)] → (∀ (y5 : Int32), some y5 = out → ∀ (H : Heap) (locs : List Loc), gWd G LC ad (gA LC ad) s.heap I J H locs → ∀ (ls : Array Slot), lv_has ls 7 [(1, .int u1), (2, .int y5)] → W p l e (gRm 2) s m args below meth c H locs 0 0 Q (F0 m 98 ls [])) → W p l e (gRm 2) s m args below meth c H locs 0 0 Q (F0 m 9 ls []) := by
  have hx := K.1; have hb := K.2.1; have hown := K.2.2.2.1; have hts := K.2.2.2.2.1
  intro n
  induction n with
  | zero => intro u1 u2 u3 u4 I J out h hn; exact absurd h.symm hn
  | succ n ih =>
    intro u1 u2 u3 u4 I J out h hn H locs hW ls hl hx1
    replace h : fX6_stab_9b  (fX6_stab_9  n) u1 u2 u3 u4 I = out := h
    unfold fX6_stab_9b at h
    refine lv_iload hx hb dX6_stab_9 (lv_at hl 4 rfl) ?_
    refine lv_if_lt (tgt := 98) hx hb dX6_stab_11 (by decide) (fun c6 => ?_) (fun c6 => ?_)
    · replace h := gi_t h c6
      exact hx1 u2 h _ _ hW _ (lv_sub hl [1, 2] rfl)
    · replace h := gi_f h c6
      refine lv_iconst (v := (0 : Int32)) hx hb dX6_stab_14 (by decide) ?_
      refine lv_istore (lv' := [(5, .int (0 : Int32)), (0, .ref (ad 0)), (1, .int u1), (2, .int u2), (3, .int u3), (4, .int u4)]) hx hb dX6_stab_15 hl (by decide) rfl (fun ls hl => ?_)
      refine lv_iconst (v := (0 : Int32)) hx hb dX6_stab_17 (by decide) ?_
      refine lv_istore (lv' := [(6, .int (0 : Int32)), (5, .int (0 : Int32)), (0, .ref (ad 0)), (1, .int u1), (2, .int u2), (3, .int u3), (4, .int u4)]) hx hb dX6_stab_18 hl (by decide) rfl (fun ls hl => ?_)
      obtain ⟨r29, e30, h⟩ := bd_o h hn
      refine tX6_stab_20 hok K FU u1 u2 u3 u4 (0 : Int32) (0 : Int32) I J (some r29) e30 (Option.some_ne_none _) _ _ hW _ (lv_sub hl [2, 3, 4, 5, 6, 1, 0] rfl) ?_
      · intro u31 q32 H locs hW ls hl
        replace q32 := Option.some.inj q32
        subst q32
        refine lv_iload hx hb dX6_stab_77 (lv_at hl 5 rfl) ?_
        obtain ⟨j35, e36, h⟩ := lz_o h
        have hj37 : ∀ (u33 : Int32) (u34 : Int32), j35 u33 u34 = out → ∀ (H : Heap) (locs : List Loc), gWd G LC ad (gA LC ad) s.heap I J H locs → ∀ (ls : Array Slot), lv_has ls 7 [(0, .ref (ad 0)), (1, .int u1), (2, .int u33), (3, .int u34), (4, .int u4)] → W p l e (gRm 2) s m args below meth c H locs 0 0 Q (F0 m 92 ls []) := by
          intro u33 u34 h H locs hW ls hl
          replace h := jn2 e36 h
          obtain ⟨u38, e39, h⟩ := lz_o h
          refine lv_iinc (v := u38) (lv' := [(4, .int u38), (0, .ref (ad 0)), (1, .int u1), (2, .int u33), (3, .int u34)]) hx hb dX6_stab_92 hl (k := 4) rfl (by rw [e39]; rfl) (by decide) rfl (fun ls hl => ?_)
          refine lv_goto (tgt := 9) hx hb dX6_stab_95 (by decide) ?_
          exact ih u1 u33 u34 u38 I J _ h hn _ _ hW _ (lv_sub hl [1, 2, 3, 4, 0] rfl) hx1
        refine lv_if_eq (tgt := 92) hx hb dX6_stab_79 (by decide) (fun c40 => ?_) (fun c40 => ?_)
        · replace h := gi_t h c40
          exact hj37 u2 u3 h _ _ hW _ (lv_sub hl [0, 1, 2, 3, 4] rfl)
        · replace h := gi_f h c40
          refine lv_iload_n hx hb dX6_stab_82 rfl (lv_at hl 2 rfl) ?_
          refine lv_iconst (v := (1 : Int32)) hx hb dX6_stab_83 (by decide) ?_
          refine lv_iload hx hb dX6_stab_84 (lv_at hl 4 rfl) ?_
          refine g_ishl hx hb dX6_stab_86 ?_
          refine lv_ior hx hb dX6_stab_87 ?_
          obtain ⟨u41, e42, h⟩ := lz_o h
          refine g_nmi e42 ?_
          refine lv_istore_n (lv' := [(2, .int u41), (0, .ref (ad 0)), (1, .int u1), (3, .int u3), (4, .int u4), (5, .int u31)]) hx hb dX6_stab_88 rfl hl (by decide) rfl (fun ls hl => ?_)
          refine lv_iload hx hb dX6_stab_89 (lv_at hl 4 rfl) ?_
          refine lv_istore_n (lv' := [(3, .int u4), (2, .int u41), (0, .ref (ad 0)), (1, .int u1), (4, .int u4), (5, .int u31)]) hx hb dX6_stab_91 rfl hl (by decide) rfl (fun ls hl => ?_)
          exact hj37 u41 u4 h _ _ hW _ (lv_sub hl [2, 3, 1, 0, 4] rfl)
noncomputable def fX6_stab  (x1 : Int32) (I : gI) : Option (Int32) :=
  bd (fX6_stab_9 FU x1 (0 : Int32) (12 : Int32) (11 : Int32) I) (fun (u45 : Int32) => gi (x1 = 0)
 (some u45)
 (some (fJ6_bitCount_0f7a4 u45)))
set_option maxHeartbeats 4000000 in
set_option maxRecDepth 100000 in
theorem kX6_stab {l : Launch} {G : gG} {ad : Nat → Nat} (hok : gInj LC ad)    (x1 : Int32) (I : gI) (J : gJ) (r : Int32) (h : fX6_stab x1 I = some r) : gMi l yX6_stab cX6_stab 7 (some .int) 2 G LC ad [.ref (ad 0), .int x1] I J r True I J := by
  refine gMi_of (lst := [(0, .ref (ad 0)), (1, .int x1)]) (by decide) hok (Nat.le_of_ble_eq_true rfl) rfl ?_
  intro p e s m args below meth c Q ls K hW hl hfin
  have hn : (some r : Option (Int32)) ≠ none := Option.some_ne_none _
  have hx := K.1; have hb := K.2.1; have hown := K.2.2.2.1; have hts := K.2.2.2.2.1
  unfold fX6_stab at h
  refine lv_iconst (v := (0 : Int32)) hx hb dX6_stab_0 (by decide) ?_
  refine lv_istore_n (lv' := [(2, .int (0 : Int32)), (0, .ref (ad 0)), (1, .int x1)]) hx hb dX6_stab_1 rfl hl (by decide) rfl (fun ls hl => ?_)
  refine lv_bipush (v := (12 : Int32)) hx hb dX6_stab_2 (by decide) ?_
  refine lv_istore_n (lv' := [(3, .int (12 : Int32)), (2, .int (0 : Int32)), (0, .ref (ad 0)), (1, .int x1)]) hx hb dX6_stab_4 rfl hl (by decide) rfl (fun ls hl => ?_)
  refine lv_bipush (v := (11 : Int32)) hx hb dX6_stab_5 (by decide) ?_
  refine lv_istore (lv' := [(4, .int (11 : Int32)), (3, .int (12 : Int32)), (2, .int (0 : Int32)), (0, .ref (ad 0)), (1, .int x1)]) hx hb dX6_stab_7 hl (by decide) rfl (fun ls hl => ?_)
  obtain ⟨r43, e44, h⟩ := bd_o h hn
  refine tX6_stab_9 hok K FU x1 (0 : Int32) (12 : Int32) (11 : Int32) I J (some r43) e44 (Option.some_ne_none _) _ _ hW _ (lv_sub hl [3, 4, 2, 1, 0] rfl) ?_
  · intro u45 q46 H locs hW ls hl
    replace q46 := Option.some.inj q46
    subst q46
    refine lv_iload_n hx hb dX6_stab_98 rfl (lv_at hl 0 rfl) ?_
    refine lv_if_eq (tgt := 109) hx hb dX6_stab_99 (by decide) (fun c47 => ?_) (fun c47 => ?_)
    · replace h := gi_t h c47
      refine lv_iload_n hx hb dX6_stab_109 rfl (lv_at hl 1 rfl) ?_
      obtain a1 := so1 h
      exact g_nmi a1 (hfin _ _ _ _ hW dX6_stab_110)
    · replace h := gi_f h c47
      refine lv_iload_n hx hb dX6_stab_102 rfl (lv_at hl 1 rfl) ?_
      refine g_callSi (rest := []) K hW hl (kJ6_bitCount_0f7a4 (l := l) (G := G) (ad := ad) hok u45 I J (fJ6_bitCount_0f7a4 u45) rfl) q_465 q_466 q_146 q_467 nm_J6_bitCount_0f7a4 ⟨Nat.le_of_ble_eq_true rfl, Nat.le_of_ble_eq_true rfl⟩ rfl rfl (Nat.le_of_ble_eq_true rfl) ⟨Nat.zero_le _, Nat.zero_le _⟩ dX6_stab_103 (fun z48 H locs hW => ?_)
      refine lv_goto (tgt := 110) hx hb dX6_stab_106 (by decide) ?_
      obtain a1 := so1 h
      exact g_nmi a1 (hfin _ _ _ _ hW dX6_stab_110)
noncomputable def fX6_crowd_20b  (rec : Int32 → Int32 → Int32 → Int32 → Int32 → Int32 → gI → Option ((Int32))) (u8 : Int32) (u9 : Int32) (u10 : Int32) (u11 : Int32) (u12 : Int32) (u13 : Int32) (I : gI) : Option ((Int32)) :=
  gi ((I 1 12) ≤ u13)
 (some u12)
 (bd (fX6_wantsSlice u13 u11 I) (fun (u16 : Int32) => lz (fun (u19 : Int32) => lz ((u13 + (1 : Int32))) (fun (u23 : Int32) => rec u8 u9 u10 u11 u19 u23 I)) (fun j20 => gi (u16 = 0)
 (j20 u12)
 (lz ((u12 + (1 : Int32))) (fun (u26 : Int32) => j20 u26)))))
noncomputable def fX6_crowd_20  : Nat → Int32 → Int32 → Int32 → Int32 → Int32 → Int32 → gI → Option ((Int32))
  | 0 => fun _ _ _ _ _ _ _ => none
  | n + 1 => fX6_crowd_20b  (fX6_crowd_20  n)
set_option maxHeartbeats 4000000 in
set_option maxRecDepth 100000 in
theorem tX6_crowd_20 {l : Launch} {G : gG} {ad : Nat → Nat} {p : Program} {e : Env} {s : State} {m : MethodId} {args : Array Value} {below : List Frame} {meth : Method} {c : Code} {Q : State → Prop} (hok : gInj LC ad) (K : gCx G (gA LC ad) p s m args c cX6_crowd 7 RX6)  : ∀ (n : Nat) (u8 : Int32) (u9 : Int32) (u10 : Int32) (u11 : Int32) (u12 : Int32) (u13 : Int32) (I : gI) (J : gJ) (out : Option ((Int32))), fX6_crowd_20  n u8 u9 u10 u11 u12 u13 I = out → out ≠ none → ∀ (H : Heap) (locs : List Loc), gWd G LC ad (gA LC ad) s.heap I J H locs → ∀ (ls : Array Slot), lv_has ls 7 [(0, .ref (ad 0)), (1, .int u8), (2, .int u9), (3, .int u10), (4, .int u11), (5, .int u12), (6, .int u13)] → (∀ (y14 : Int32), some y14 = out → ∀ (H : Heap) (locs : List Loc), gWd G LC ad (gA LC ad) s.heap I J H locs → ∀ (ls : Array Slot), lv_has ls 7 [(0, .ref (ad 0)), (1, .int u8), (2, .int u9), (3, .int u10), (4, .int u11), (5, .int y14)] → W p l e (gRm 3) s m args below meth c H locs 0 0 Q (F0 m 52 ls [])) → W p l e (gRm 3) s m args below meth c H locs 0 0 Q (F0 m 20 ls []) := by
  have hx := K.1; have hb := K.2.1; have hown := K.2.2.2.1; have hts := K.2.2.2.2.1
  intro n
  induction n with
  | zero => intro u8 u9 u10 u11 u12 u13 I J out h hn; exact absurd h.symm hn
  | succ n ih =>
    intro u8 u9 u10 u11 u12 u13 I J out h hn H locs hW ls hl hx1
    replace h : fX6_crowd_20b  (fX6_crowd_20  n) u8 u9 u10 u11 u12 u13 I = out := h
    unfold fX6_crowd_20b at h
    refine lv_iload hx hb dX6_crowd_20 (lv_at hl 6 rfl) ?_
    refine lv_aload_n hx hb dX6_crowd_22 rfl (lv_at hl 0 rfl) ?_
    refine g_get K hW (t := 2) (ci := 5) (k := 0) (v := .ref (ad 1)) kLC_0 rfl rfl i_X6 (by decide) q_393 rfl (gfv2 rLC_0_0) dX6_crowd_23 ?_
    refine g_get K hW (t := 0) (ci := 0) (k := 12) (v := .int (I 1 12)) kLC_1 rfl rfl i_X0 (by decide) q_238 rfl rfl dX6_crowd_26 ?_
    refine lv_icmp_ge (tgt := 52) hx hb dX6_crowd_29 (by decide) (fun c15 => ?_) (fun c15 => ?_)
    · replace h := gi_t h c15
      exact hx1 u12 h _ _ hW _ (lv_sub hl [0, 1, 2, 3, 4, 5] rfl)
    · replace h := gi_f h c15
      refine lv_aload_n hx hb dX6_crowd_32 rfl (lv_at hl 0 rfl) ?_
      refine lv_iload hx hb dX6_crowd_33 (lv_at hl 6 rfl) ?_
      refine lv_iload hx hb dX6_crowd_35 (lv_at hl 4 rfl) ?_
      obtain ⟨u16, e17, h⟩ := bd_o h hn
      refine g_callVi (rest := []) K hW hl (kX6_wantsSlice (l := l) (G := G) (ad := ad) hok u13 u11 I J u16 e17) kLC_0 rfl (gG_V q_985 q_987 q_49 q_133 q_988) nm_X6_wantsSlice ⟨Nat.le_of_ble_eq_true rfl, Nat.le_of_ble_eq_true rfl⟩ rfl rfl (Nat.le_of_ble_eq_true rfl) ⟨Nat.zero_le _, Nat.zero_le _⟩ dX6_crowd_37 (fun z18 H locs hW => ?_)
      obtain ⟨j20, e21, h⟩ := lz_o h
      have hj22 : ∀ (u19 : Int32), j20 u19 = out → ∀ (H : Heap) (locs : List Loc), gWd G LC ad (gA LC ad) s.heap I J H locs → ∀ (ls : Array Slot), lv_has ls 7 [(0, .ref (ad 0)), (1, .int u8), (2, .int u9), (3, .int u10), (4, .int u11), (5, .int u19), (6, .int u13)] → W p l e (gRm 3) s m args below meth c H locs 0 0 Q (F0 m 46 ls []) := by
        intro u19 h H locs hW ls hl
        replace h := jn1 e21 h
        obtain ⟨u23, e24, h⟩ := lz_o h
        refine lv_iinc (v := u23) (lv' := [(6, .int u23), (0, .ref (ad 0)), (1, .int u8), (2, .int u9), (3, .int u10), (4, .int u11), (5, .int u19)]) hx hb dX6_crowd_46 hl (k := 6) rfl (by rw [e24]; rfl) (by decide) rfl (fun ls hl => ?_)
        refine lv_goto (tgt := 20) hx hb dX6_crowd_49 (by decide) ?_
        exact ih u8 u9 u10 u11 u19 u23 I J _ h hn _ _ hW _ (lv_sub hl [1, 2, 3, 4, 5, 6, 0] rfl) hx1
      refine lv_if_eq (tgt := 46) hx hb dX6_crowd_40 (by decide) (fun c25 => ?_) (fun c25 => ?_)
      · replace h := gi_t h c25
        exact hj22 u12 h _ _ hW _ (lv_sub hl [0, 1, 2, 3, 4, 5, 6] rfl)
      · replace h := gi_f h c25
        obtain ⟨u26, e27, h⟩ := lz_o h
        refine lv_iinc (v := u26) (lv' := [(5, .int u26), (0, .ref (ad 0)), (1, .int u8), (2, .int u9), (3, .int u10), (4, .int u11), (6, .int u13)]) hx hb dX6_crowd_43 hl (k := 5) rfl (by rw [e27]; rfl) (by decide) rfl (fun ls hl => ?_)
        exact hj22 u26 h _ _ hW _ (lv_sub hl [1, 2, 3, 4, 5, 0, 6] rfl)
noncomputable def fX6_crowd_7b  (rec : Int32 → Int32 → Int32 → Int32 → gI → Option ((Int32 × Int32))) (u1 : Int32) (u2 : Int32) (u3 : Int32) (u4 : Int32) (I : gI) : Option ((Int32 × Int32)) :=
  gi ((12 : Int32) ≤ u4)
 (some (u2, u3))
 (bd (fX6_crowd_20 FU u1 u2 u3 u4 (0 : Int32) (0 : Int32) I) (fun (u30 : Int32) => lz (fun (u32 : Int32) => fun (u33 : Int32) => lz ((u4 + (1 : Int32))) (fun (u37 : Int32) => rec u1 u32 u33 u37 I)) (fun j34 => gi (u30 ≤ u2)
 (j34 u2 u3)
 (j34 u30 u4))))
noncomputable def fX6_crowd_7  : Nat → Int32 → Int32 → Int32 → Int32 → gI → Option ((Int32 × Int32))
  | 0 => fun _ _ _ _ _ => none
  | n + 1 => fX6_crowd_7b  (fX6_crowd_7  n)
set_option maxHeartbeats 4000000 in
set_option maxRecDepth 100000 in
theorem tX6_crowd_7 {l : Launch} {G : gG} {ad : Nat → Nat} {p : Program} {e : Env} {s : State} {m : MethodId} {args : Array Value} {below : List Frame} {meth : Method} {c : Code} {Q : State → Prop} (hok : gInj LC ad) (K : gCx G (gA LC ad) p s m args c cX6_crowd 7 RX6)  : ∀ (n : Nat) (u1 : Int32) (u2 : Int32) (u3 : Int32) (u4 : Int32) (I : gI) (J : gJ) (out : Option ((Int32 × Int32))), fX6_crowd_7  n u1 u2 u3 u4 I = out → out ≠ none → ∀ (H : Heap) (locs : List Loc), gWd G LC ad (gA LC ad) s.heap I J H locs → ∀ (ls : Array Slot), lv_has ls 7 [(0, .ref (ad 0)), (1, .int u1), (2, .int u2), (3, .int u3), (4, .int u4)] → (∀ (y5 : Int32) (y6 : Int32), some (y5, y6) = out → ∀ (H : Heap) (locs : List Loc), gWd G LC ad (gA LC ad) s.heap I J H locs → ∀ (ls : Array Slot), lv_has ls 7 [(1, .int u1), (2, .int y5), (3, .int y6)] → W p l e (gRm 3) s m args below meth c H locs 0 0 Q (F0 m 70 ls [])) → W p l e (gRm 3) s m args below meth c H locs 0 0 Q (F0 m 7 ls []) := by
  have hx := K.1; have hb := K.2.1; have hown := K.2.2.2.1; have hts := K.2.2.2.2.1
  intro n
  induction n with
  | zero => intro u1 u2 u3 u4 I J out h hn; exact absurd h.symm hn
  | succ n ih =>
    intro u1 u2 u3 u4 I J out h hn H locs hW ls hl hx1
    replace h : fX6_crowd_7b  (fX6_crowd_7  n) u1 u2 u3 u4 I = out := h
    unfold fX6_crowd_7b at h
    refine lv_iload hx hb dX6_crowd_7 (lv_at hl 4 rfl) ?_
    refine lv_bipush (v := (12 : Int32)) hx hb dX6_crowd_9 (by decide) ?_
    refine lv_icmp_ge (tgt := 70) hx hb dX6_crowd_11 (by decide) (fun c7 => ?_) (fun c7 => ?_)
    · replace h := gi_t h c7
      exact hx1 u2 u3 h _ _ hW _ (lv_sub hl [1, 2, 3] rfl)
    · replace h := gi_f h c7
      refine lv_iconst (v := (0 : Int32)) hx hb dX6_crowd_14 (by decide) ?_
      refine lv_istore (lv' := [(5, .int (0 : Int32)), (0, .ref (ad 0)), (1, .int u1), (2, .int u2), (3, .int u3), (4, .int u4)]) hx hb dX6_crowd_15 hl (by decide) rfl (fun ls hl => ?_)
      refine lv_iconst (v := (0 : Int32)) hx hb dX6_crowd_17 (by decide) ?_
      refine lv_istore (lv' := [(6, .int (0 : Int32)), (5, .int (0 : Int32)), (0, .ref (ad 0)), (1, .int u1), (2, .int u2), (3, .int u3), (4, .int u4)]) hx hb dX6_crowd_18 hl (by decide) rfl (fun ls hl => ?_)
      obtain ⟨r28, e29, h⟩ := bd_o h hn
      refine tX6_crowd_20 hok K FU u1 u2 u3 u4 (0 : Int32) (0 : Int32) I J (some r28) e29 (Option.some_ne_none _) _ _ hW _ (lv_sub hl [2, 3, 4, 5, 6, 1, 0] rfl) ?_
      · intro u30 q31 H locs hW ls hl
        replace q31 := Option.some.inj q31
        subst q31
        refine lv_iload hx hb dX6_crowd_52 (lv_at hl 5 rfl) ?_
        refine lv_iload_n hx hb dX6_crowd_54 rfl (lv_at hl 2 rfl) ?_
        obtain ⟨j34, e35, h⟩ := lz_o h
        have hj36 : ∀ (u32 : Int32) (u33 : Int32), j34 u32 u33 = out → ∀ (H : Heap) (locs : List Loc), gWd G LC ad (gA LC ad) s.heap I J H locs → ∀ (ls : Array Slot), lv_has ls 7 [(0, .ref (ad 0)), (1, .int u1), (2, .int u32), (3, .int u33), (4, .int u4)] → W p l e (gRm 3) s m args below meth c H locs 0 0 Q (F0 m 64 ls []) := by
          intro u32 u33 h H locs hW ls hl
          replace h := jn2 e35 h
          obtain ⟨u37, e38, h⟩ := lz_o h
          refine lv_iinc (v := u37) (lv' := [(4, .int u37), (0, .ref (ad 0)), (1, .int u1), (2, .int u32), (3, .int u33)]) hx hb dX6_crowd_64 hl (k := 4) rfl (by rw [e38]; rfl) (by decide) rfl (fun ls hl => ?_)
          refine lv_goto (tgt := 7) hx hb dX6_crowd_67 (by decide) ?_
          exact ih u1 u32 u33 u37 I J _ h hn _ _ hW _ (lv_sub hl [1, 2, 3, 4, 0] rfl) hx1
        refine lv_icmp_le (tgt := 64) hx hb dX6_crowd_55 (by decide) (fun c39 => ?_) (fun c39 => ?_)
        · replace h := gi_t h c39
          exact hj36 u2 u3 h _ _ hW _ (lv_sub hl [0, 1, 2, 3, 4] rfl)
        · replace h := gi_f h c39
          refine lv_iload hx hb dX6_crowd_58 (lv_at hl 5 rfl) ?_
          refine lv_istore_n (lv' := [(2, .int u30), (0, .ref (ad 0)), (1, .int u1), (3, .int u3), (4, .int u4), (5, .int u30)]) hx hb dX6_crowd_60 rfl hl (by decide) rfl (fun ls hl => ?_)
          refine lv_iload hx hb dX6_crowd_61 (lv_at hl 4 rfl) ?_
          refine lv_istore_n (lv' := [(3, .int u4), (2, .int u30), (0, .ref (ad 0)), (1, .int u1), (4, .int u4), (5, .int u30)]) hx hb dX6_crowd_63 rfl hl (by decide) rfl (fun ls hl => ?_)
          exact hj36 u30 u4 h _ _ hW _ (lv_sub hl [2, 3, 1, 0, 4] rfl)
noncomputable def fX6_crowd  (x1 : Int32) (I : gI) : Option (Int32) :=
  bd (fX6_crowd_7 FU x1 (0 : Int32) (0 : Int32) (0 : Int32) I) (pr (fun (u42 : Int32) (u43 : Int32) => gi (x1 = 0)
 (some u42)
 (some u43)))
set_option maxHeartbeats 4000000 in
set_option maxRecDepth 100000 in
theorem kX6_crowd {l : Launch} {G : gG} {ad : Nat → Nat} (hok : gInj LC ad)    (x1 : Int32) (I : gI) (J : gJ) (r : Int32) (h : fX6_crowd x1 I = some r) : gMi l yX6_crowd cX6_crowd 7 (some .int) 3 G LC ad [.ref (ad 0), .int x1] I J r True I J := by
  refine gMi_of (lst := [(0, .ref (ad 0)), (1, .int x1)]) (by decide) hok (Nat.le_of_ble_eq_true rfl) rfl ?_
  intro p e s m args below meth c Q ls K hW hl hfin
  have hn : (some r : Option (Int32)) ≠ none := Option.some_ne_none _
  have hx := K.1; have hb := K.2.1; have hown := K.2.2.2.1; have hts := K.2.2.2.2.1
  unfold fX6_crowd at h
  refine lv_iconst (v := (0 : Int32)) hx hb dX6_crowd_0 (by decide) ?_
  refine lv_istore_n (lv' := [(2, .int (0 : Int32)), (0, .ref (ad 0)), (1, .int x1)]) hx hb dX6_crowd_1 rfl hl (by decide) rfl (fun ls hl => ?_)
  refine lv_iconst (v := (0 : Int32)) hx hb dX6_crowd_2 (by decide) ?_
  refine lv_istore_n (lv' := [(3, .int (0 : Int32)), (2, .int (0 : Int32)), (0, .ref (ad 0)), (1, .int x1)]) hx hb dX6_crowd_3 rfl hl (by decide) rfl (fun ls hl => ?_)
  refine lv_iconst (v := (0 : Int32)) hx hb dX6_crowd_4 (by decide) ?_
  refine lv_istore (lv' := [(4, .int (0 : Int32)), (3, .int (0 : Int32)), (2, .int (0 : Int32)), (0, .ref (ad 0)), (1, .int x1)]) hx hb dX6_crowd_5 hl (by decide) rfl (fun ls hl => ?_)
  obtain ⟨r40, e41, h⟩ := bd_o h hn
  refine tX6_crowd_7 hok K FU x1 (0 : Int32) (0 : Int32) (0 : Int32) I J (some r40) e41 (Option.some_ne_none _) _ _ hW _ (lv_sub hl [3, 4, 2, 1, 0] rfl) ?_
  · intro u42 u43 q44 H locs hW ls hl
    replace q44 := Option.some.inj q44
    subst q44
    replace h := pr_o h
    refine lv_iload_n hx hb dX6_crowd_70 rfl (lv_at hl 0 rfl) ?_
    refine lv_if_eq (tgt := 78) hx hb dX6_crowd_71 (by decide) (fun c45 => ?_) (fun c45 => ?_)
    · replace h := gi_t h c45
      refine lv_iload_n hx hb dX6_crowd_78 rfl (lv_at hl 1 rfl) ?_
      obtain a1 := so1 h
      exact g_nmi a1 (hfin _ _ _ _ hW dX6_crowd_79)
    · replace h := gi_f h c45
      refine lv_iload_n hx hb dX6_crowd_74 rfl (lv_at hl 2 rfl) ?_
      refine lv_goto (tgt := 79) hx hb dX6_crowd_75 (by decide) ?_
      obtain a1 := so1 h
      exact g_nmi a1 (hfin _ _ _ _ hW dX6_crowd_79)
theorem kLC_294 : gAt LC 294 1 6 := ⟨by decide, by decide +kernel⟩
theorem rLC_0_8 : LC.2.2 0 8 = some 294 := by decide +kernel
noncomputable def fX6_lowestDawn_2b  (rec : Int32 → Int32 → gI → Option ((Int32) ⊕ (Unit))) (u1 : Int32) (u2 : Int32) (I : gI) : Option ((Int32) ⊕ (Unit)) :=
  gi ((6 : Int32) ≤ u2)
 (some (Sum.inr ()))
 (gd (vp_in u2 6) (gi (((I 294 (u2).toNatClampNeg) &&& u1) = 0)
 (some (Sum.inl u2))
 (lz ((u2 + (1 : Int32))) (fun (u7 : Int32) => rec u1 u7 I))))
noncomputable def fX6_lowestDawn_2  : Nat → Int32 → Int32 → gI → Option ((Int32) ⊕ (Unit))
  | 0 => fun _ _ _ => none
  | n + 1 => fX6_lowestDawn_2b  (fX6_lowestDawn_2  n)
set_option maxHeartbeats 4000000 in
set_option maxRecDepth 100000 in
theorem tX6_lowestDawn_2 {l : Launch} {G : gG} {ad : Nat → Nat} {p : Program} {e : Env} {s : State} {m : MethodId} {args : Array Value} {below : List Frame} {meth : Method} {c : Code} {Q : State → Prop} (hok : gInj LC ad) (K : gCx G (gA LC ad) p s m args c cX6_lowestDawn 3 RX6)  : ∀ (n : Nat) (u1 : Int32) (u2 : Int32) (I : gI) (J : gJ) (out : Option ((Int32) ⊕ (Unit))), fX6_lowestDawn_2  n u1 u2 I = out → out ≠ none → ∀ (H : Heap) (locs : List Loc), gWd G LC ad (gA LC ad) s.heap I J H locs → ∀ (ls : Array Slot), lv_has ls 3 [(0, .ref (ad 0)), (1, .int u1), (2, .int u2)] → (∀ (y3 : Int32), some (Sum.inl y3) = out → ∀ (H : Heap) (locs : List Loc), gWd G LC ad (gA LC ad) s.heap I J H locs → ∀ (ls : Array Slot), lv_has ls 3 [(0, .ref (ad 0)), (1, .int u1), (2, .int y3)] → W p l e (gRm 1) s m args below meth c H locs 0 0 Q (F0 m 19 ls [])) → (some (Sum.inr ()) = out → ∀ (H : Heap) (locs : List Loc), gWd G LC ad (gA LC ad) s.heap I J H locs → ∀ (ls : Array Slot), lv_has ls 3 [] → W p l e (gRm 1) s m args below meth c H locs 0 0 Q (F0 m 37 ls [])) → W p l e (gRm 1) s m args below meth c H locs 0 0 Q (F0 m 2 ls []) := by
  have hx := K.1; have hb := K.2.1; have hown := K.2.2.2.1; have hts := K.2.2.2.2.1
  intro n
  induction n with
  | zero => intro u1 u2 I J out h hn; exact absurd h.symm hn
  | succ n ih =>
    intro u1 u2 I J out h hn H locs hW ls hl hx1 hx2
    replace h : fX6_lowestDawn_2b  (fX6_lowestDawn_2  n) u1 u2 I = out := h
    unfold fX6_lowestDawn_2b at h
    refine lv_iload_n hx hb dX6_lowestDawn_2 rfl (lv_at hl 2 rfl) ?_
    refine lv_bipush (v := (6 : Int32)) hx hb dX6_lowestDawn_3 (by decide) ?_
    refine lv_icmp_ge (tgt := 37) hx hb dX6_lowestDawn_5 (by decide) (fun c4 => ?_) (fun c4 => ?_)
    · replace h := gi_t h c4
      exact hx2 h _ _ hW _ (lv_sub hl [] rfl)
    · replace h := gi_f h c4
      refine lv_aload_n hx hb dX6_lowestDawn_8 rfl (lv_at hl 0 rfl) ?_
      refine g_get K hW (t := 2) (ci := 5) (k := 8) (v := .ref (ad 294)) kLC_0 rfl rfl i_X6 (by decide) q_401 rfl (gfv2 rLC_0_8) dX6_lowestDawn_9 ?_
      refine lv_iload_n hx hb dX6_lowestDawn_12 rfl (lv_at hl 2 rfl) ?_
      obtain ⟨g5, h⟩ := gd_o h hn
      refine g_iald K hW kLC_294 g5 rfl dX6_lowestDawn_13 ?_
      refine lv_iload_n hx hb dX6_lowestDawn_14 rfl (lv_at hl 1 rfl) ?_
      refine lv_iand hx hb dX6_lowestDawn_15 ?_
      refine lv_if_ne (tgt := 31) hx hb dX6_lowestDawn_16 (by decide) (fun c6 => ?_) (fun c6 => ?_)
      · replace h := gi_f h c6
        obtain ⟨u7, e8, h⟩ := lz_o h
        refine lv_iinc (v := u7) (lv' := [(2, .int u7), (0, .ref (ad 0)), (1, .int u1)]) hx hb dX6_lowestDawn_31 hl (k := 2) rfl (by rw [e8]; rfl) (by decide) rfl (fun ls hl => ?_)
        refine lv_goto (tgt := 2) hx hb dX6_lowestDawn_34 (by decide) ?_
        exact ih u1 u7 I J _ h hn _ _ hW _ (lv_sub hl [1, 2, 0] rfl) hx1 hx2
      · replace h := gi_t h c6
        exact hx1 u2 h _ _ hW _ (lv_sub hl [0, 1, 2] rfl)
noncomputable def fX6_lowestDawn  (x1 : Int32) (I : gI) : Option (Int32 × gI) :=
  bd (fX6_lowestDawn_2 FU x1 (0 : Int32) I) (sm (fun (u11 : Int32) => gd (vp_in u11 6) (lz (wI I 294 (u11).toNatClampNeg ((I 294 (u11).toNatClampNeg) ||| x1)) (fun (I15 : gI) => some (u11, I15)))) (fun _ => some ((-1 : Int32), I)))
set_option maxHeartbeats 4000000 in
set_option maxRecDepth 100000 in
theorem kX6_lowestDawn {l : Launch} {G : gG} {ad : Nat → Nat} (hok : gInj LC ad)    (x1 : Int32) (I : gI) (J : gJ) (r : Int32) (I' : gI) (h : fX6_lowestDawn x1 I = some (r, I')) : gMi l yX6_lowestDawn cX6_lowestDawn 3 (some .int) 1 G LC ad [.ref (ad 0), .int x1] I J r True I' J := by
  refine gMi_of (lst := [(0, .ref (ad 0)), (1, .int x1)]) (by decide) hok (Nat.le_of_ble_eq_true rfl) rfl ?_
  intro p e s m args below meth c Q ls K hW hl hfin
  have hn : (some (r, I') : Option (Int32 × gI)) ≠ none := Option.some_ne_none _
  have hx := K.1; have hb := K.2.1; have hown := K.2.2.2.1; have hts := K.2.2.2.2.1
  unfold fX6_lowestDawn at h
  refine lv_iconst (v := (0 : Int32)) hx hb dX6_lowestDawn_0 (by decide) ?_
  refine lv_istore_n (lv' := [(2, .int (0 : Int32)), (0, .ref (ad 0)), (1, .int x1)]) hx hb dX6_lowestDawn_1 rfl hl (by decide) rfl (fun ls hl => ?_)
  obtain ⟨r9, e10, h⟩ := bd_o h hn
  refine tX6_lowestDawn_2 hok K FU x1 (0 : Int32) I J (some r9) e10 (Option.some_ne_none _) _ _ hW _ (lv_sub hl [1, 2, 0] rfl) ?_ ?_
  · intro u11 q12 H locs hW ls hl
    replace q12 := Option.some.inj q12
    subst q12
    replace h := sm_l h
    refine lv_aload_n hx hb dX6_lowestDawn_19 rfl (lv_at hl 0 rfl) ?_
    refine g_get K hW (t := 2) (ci := 5) (k := 8) (v := .ref (ad 294)) kLC_0 rfl rfl i_X6 (by decide) q_401 rfl (gfv2 rLC_0_8) dX6_lowestDawn_20 ?_
    refine lv_iload_n hx hb dX6_lowestDawn_23 rfl (lv_at hl 2 rfl) ?_
    refine lv_dup2_11 hx hb dX6_lowestDawn_24 rfl rfl ?_
    obtain ⟨g13, h⟩ := gd_o h hn
    refine g_iald K hW kLC_294 g13 rfl dX6_lowestDawn_25 ?_
    refine lv_iload_n hx hb dX6_lowestDawn_26 rfl (lv_at hl 1 rfl) ?_
    refine lv_ior hx hb dX6_lowestDawn_27 ?_
    refine g_iast K hW kLC_294 g13 rfl dX6_lowestDawn_28 (fun H locs hW => ?_)
    obtain ⟨I15, e14, h⟩ := lz_o h
    replace hW := gWd_nI e14 hW
    refine lv_iload_n hx hb dX6_lowestDawn_29 rfl (lv_at hl 2 rfl) ?_
    obtain ⟨a1, a2⟩ := so2 h
    replace hW := gWd_nI a2 hW
    exact g_nmi a1 (hfin _ _ _ _ hW dX6_lowestDawn_30)
  · intro q16 H locs hW ls hl
    replace q16 := Option.some.inj q16
    subst q16
    replace h := sm_r h
    refine lv_iconst (v := (-1 : Int32)) hx hb dX6_lowestDawn_37 (by decide) ?_
    obtain ⟨a1, a2⟩ := so2 h
    replace hW := gWd_nI a2 hW
    exact g_nmi a1 (hfin _ _ _ _ hW dX6_lowestDawn_38)
theorem nm_X6_lowestDawn : gNm yX6_lowestDawn 1 := by decide +kernel
noncomputable def fX6_dawns_12b  (rec : Int32 → Int32 → gI → Option ((gI))) (u3 : Int32) (u4 : Int32) (I : gI) : Option ((gI)) :=
  gi ((6 : Int32) ≤ u4)
 (some I)
 (gd (vp_in u4 6) (lz (wI I 294 (u4).toNatClampNeg (0 : Int32)) (fun (I9 : gI) => lz ((u4 + (1 : Int32))) (fun (u10 : Int32) => rec u3 u10 I9))))
noncomputable def fX6_dawns_12  : Nat → Int32 → Int32 → gI → Option ((gI))
  | 0 => fun _ _ _ => none
  | n + 1 => fX6_dawns_12b  (fX6_dawns_12  n)
set_option maxHeartbeats 4000000 in
set_option maxRecDepth 100000 in
theorem tX6_dawns_12 {l : Launch} {G : gG} {ad : Nat → Nat} {p : Program} {e : Env} {s : State} {m : MethodId} {args : Array Value} {below : List Frame} {meth : Method} {c : Code} {Q : State → Prop} (hok : gInj LC ad) (K : gCx G (gA LC ad) p s m args c cX6_dawns 5 RX6)  : ∀ (n : Nat) (u3 : Int32) (u4 : Int32) (I : gI) (J : gJ) (out : Option ((gI))), fX6_dawns_12  n u3 u4 I = out → out ≠ none → ∀ (H : Heap) (locs : List Loc), gWd G LC ad (gA LC ad) s.heap I J H locs → ∀ (ls : Array Slot), lv_has ls 5 [(0, .ref (ad 0)), (1, .int u3), (2, .int u4)] → (∀ (I5 : gI), some I5 = out → ∀ (H : Heap) (locs : List Loc), gWd G LC ad (gA LC ad) s.heap I5 J H locs → ∀ (ls : Array Slot), lv_has ls 5 [(0, .ref (ad 0)), (1, .int u3)] → W p l e (gRm 2) s m args below meth c H locs 0 0 Q (F0 m 31 ls [])) → W p l e (gRm 2) s m args below meth c H locs 0 0 Q (F0 m 12 ls []) := by
  have hx := K.1; have hb := K.2.1; have hown := K.2.2.2.1; have hts := K.2.2.2.2.1
  intro n
  induction n with
  | zero => intro u3 u4 I J out h hn; exact absurd h.symm hn
  | succ n ih =>
    intro u3 u4 I J out h hn H locs hW ls hl hx1
    replace h : fX6_dawns_12b  (fX6_dawns_12  n) u3 u4 I = out := h
    unfold fX6_dawns_12b at h
    refine lv_iload_n hx hb dX6_dawns_12 rfl (lv_at hl 2 rfl) ?_
    refine lv_bipush (v := (6 : Int32)) hx hb dX6_dawns_13 (by decide) ?_
    refine lv_icmp_ge (tgt := 31) hx hb dX6_dawns_15 (by decide) (fun c6 => ?_) (fun c6 => ?_)
    · replace h := gi_t h c6
      exact hx1 I h _ _ hW _ (lv_sub hl [0, 1] rfl)
    · replace h := gi_f h c6
      refine lv_aload_n hx hb dX6_dawns_18 rfl (lv_at hl 0 rfl) ?_
      refine g_get K hW (t := 2) (ci := 5) (k := 8) (v := .ref (ad 294)) kLC_0 rfl rfl i_X6 (by decide) q_401 rfl (gfv2 rLC_0_8) dX6_dawns_19 ?_
      refine lv_iload_n hx hb dX6_dawns_22 rfl (lv_at hl 2 rfl) ?_
      refine lv_iconst (v := (0 : Int32)) hx hb dX6_dawns_23 (by decide) ?_
      obtain ⟨g7, h⟩ := gd_o h hn
      refine g_iast K hW kLC_294 g7 rfl dX6_dawns_24 (fun H locs hW => ?_)
      obtain ⟨I9, e8, h⟩ := lz_o h
      replace hW := gWd_nI e8 hW
      obtain ⟨u10, e11, h⟩ := lz_o h
      refine lv_iinc (v := u10) (lv' := [(2, .int u10), (0, .ref (ad 0)), (1, .int u3)]) hx hb dX6_dawns_25 hl (k := 2) rfl (by rw [e11]; rfl) (by decide) rfl (fun ls hl => ?_)
      refine lv_goto (tgt := 12) hx hb dX6_dawns_28 (by decide) ?_
      exact ih u3 u10 I9 J _ h hn _ _ hW _ (lv_sub hl [1, 2, 0] rfl) hx1
noncomputable def fX6_dawns_41b  (rec : Int32 → Int32 → Int32 → gI → Option ((Int32 × gI) ⊕ (gI))) (u22 : Int32) (u23 : Int32) (u24 : Int32) (I : gI) : Option ((Int32 × gI) ⊕ (gI)) :=
  gi ((I 1 12) ≤ u24)
 (some (Sum.inr I))
 (gd (vp_in u24 6) (lz (fun (I30 : gI) => lz ((u24 + (1 : Int32))) (fun (u34 : Int32) => rec u22 u23 u34 I30)) (fun j31 => gi ((I 5 (u24).toNatClampNeg) = u23)
 (bd (fX0_slicesOf u24 I) (fun (u37 : Int32) => bd (fX6_lowestDawn u37 I) (pr (fun (u40 : Int32) (I41 : gI) => gi (u24 = u22)
 (some (Sum.inl (u40, I41)))
 (j31 I41)))))
 (j31 I))))
noncomputable def fX6_dawns_41  : Nat → Int32 → Int32 → Int32 → gI → Option ((Int32 × gI) ⊕ (gI))
  | 0 => fun _ _ _ _ => none
  | n + 1 => fX6_dawns_41b  (fX6_dawns_41  n)
set_option maxHeartbeats 4000000 in
set_option maxRecDepth 100000 in
theorem tX6_dawns_41 {l : Launch} {G : gG} {ad : Nat → Nat} {p : Program} {e : Env} {s : State} {m : MethodId} {args : Array Value} {below : List Frame} {meth : Method} {c : Code} {Q : State → Prop} (hok : gInj LC ad) (K : gCx G (gA LC ad) p s m args c cX6_dawns 5 RX6)  : ∀ (n : Nat) (u22 : Int32) (u23 : Int32) (u24 : Int32) (I : gI) (J : gJ) (out : Option ((Int32 × gI) ⊕ (gI))), fX6_dawns_41  n u22 u23 u24 I = out → out ≠ none → ∀ (H : Heap) (locs : List Loc), gWd G LC ad (gA LC ad) s.heap I J H locs → ∀ (ls : Array Slot), lv_has ls 5 [(0, .ref (ad 0)), (1, .int u22), (2, .int u23), (3, .int u24)] → (∀ (y25 : Int32) (I26 : gI), some (Sum.inl (y25, I26)) = out → ∀ (H : Heap) (locs : List Loc), gWd G LC ad (gA LC ad) s.heap I26 J H locs → ∀ (ls : Array Slot), lv_has ls 5 [(4, .int y25)] → W p l e (gRm 2) s m args below meth c H locs 0 0 Q (F0 m 84 ls [])) → (∀ (I27 : gI), some (Sum.inr I27) = out → ∀ (H : Heap) (locs : List Loc), gWd G LC ad (gA LC ad) s.heap I27 J H locs → ∀ (ls : Array Slot), lv_has ls 5 [(0, .ref (ad 0)), (1, .int u22), (2, .int u23)] → W p l e (gRm 2) s m args below meth c H locs 0 0 Q (F0 m 93 ls [])) → W p l e (gRm 2) s m args below meth c H locs 0 0 Q (F0 m 41 ls []) := by
  have hx := K.1; have hb := K.2.1; have hown := K.2.2.2.1; have hts := K.2.2.2.2.1
  intro n
  induction n with
  | zero => intro u22 u23 u24 I J out h hn; exact absurd h.symm hn
  | succ n ih =>
    intro u22 u23 u24 I J out h hn H locs hW ls hl hx1 hx2
    replace h : fX6_dawns_41b  (fX6_dawns_41  n) u22 u23 u24 I = out := h
    unfold fX6_dawns_41b at h
    refine lv_iload_n hx hb dX6_dawns_41 rfl (lv_at hl 3 rfl) ?_
    refine lv_aload_n hx hb dX6_dawns_42 rfl (lv_at hl 0 rfl) ?_
    refine g_get K hW (t := 2) (ci := 5) (k := 0) (v := .ref (ad 1)) kLC_0 rfl rfl i_X6 (by decide) q_393 rfl (gfv2 rLC_0_0) dX6_dawns_43 ?_
    refine g_get K hW (t := 0) (ci := 0) (k := 12) (v := .int (I 1 12)) kLC_1 rfl rfl i_X0 (by decide) q_238 rfl rfl dX6_dawns_46 ?_
    refine lv_icmp_ge (tgt := 93) hx hb dX6_dawns_49 (by decide) (fun c28 => ?_) (fun c28 => ?_)
    · replace h := gi_t h c28
      exact hx2 I h _ _ hW _ (lv_sub hl [0, 1, 2] rfl)
    · replace h := gi_f h c28
      refine lv_aload_n hx hb dX6_dawns_52 rfl (lv_at hl 0 rfl) ?_
      refine g_get K hW (t := 2) (ci := 5) (k := 0) (v := .ref (ad 1)) kLC_0 rfl rfl i_X6 (by decide) q_393 rfl (gfv2 rLC_0_0) dX6_dawns_53 ?_
      refine g_get K hW (t := 2) (ci := 0) (k := 3) (v := .ref (ad 5)) kLC_1 rfl rfl i_X0 (by decide) q_220 rfl (gfv2 rLC_1_3) dX6_dawns_56 ?_
      refine lv_iload_n hx hb dX6_dawns_59 rfl (lv_at hl 3 rfl) ?_
      obtain ⟨g29, h⟩ := gd_o h hn
      refine g_iald K hW kLC_5 g29 rfl dX6_dawns_60 ?_
      refine lv_iload_n hx hb dX6_dawns_61 rfl (lv_at hl 2 rfl) ?_
      obtain ⟨j31, e32, h⟩ := lz_o h
      have hj33 : ∀ (I30 : gI), j31 I30 = out → ∀ (H : Heap) (locs : List Loc), gWd G LC ad (gA LC ad) s.heap I30 J H locs → ∀ (ls : Array Slot), lv_has ls 5 [(0, .ref (ad 0)), (1, .int u22), (2, .int u23), (3, .int u24)] → W p l e (gRm 2) s m args below meth c H locs 0 0 Q (F0 m 87 ls []) := by
        intro I30 h H locs hW ls hl
        replace h := jn1 e32 h
        obtain ⟨u34, e35, h⟩ := lz_o h
        refine lv_iinc (v := u34) (lv' := [(3, .int u34), (0, .ref (ad 0)), (1, .int u22), (2, .int u23)]) hx hb dX6_dawns_87 hl (k := 3) rfl (by rw [e35]; rfl) (by decide) rfl (fun ls hl => ?_)
        refine lv_goto (tgt := 41) hx hb dX6_dawns_90 (by decide) ?_
        exact ih u22 u23 u34 I30 J _ h hn _ _ hW _ (lv_sub hl [1, 2, 3, 0] rfl) hx1 hx2
      refine lv_icmp_ne (tgt := 87) hx hb dX6_dawns_62 (by decide) (fun c36 => ?_) (fun c36 => ?_)
      · replace h := gi_f h c36
        exact hj33 I h _ _ hW _ (lv_sub hl [0, 1, 2, 3] rfl)
      · replace h := gi_t h c36
        refine lv_aload_n hx hb dX6_dawns_65 rfl (lv_at hl 0 rfl) ?_
        refine lv_aload_n hx hb dX6_dawns_66 rfl (lv_at hl 0 rfl) ?_
        refine g_get K hW (t := 2) (ci := 5) (k := 0) (v := .ref (ad 1)) kLC_0 rfl rfl i_X6 (by decide) q_393 rfl (gfv2 rLC_0_0) dX6_dawns_67 ?_
        refine lv_iload_n hx hb dX6_dawns_70 rfl (lv_at hl 3 rfl) ?_
        obtain ⟨u37, e38, h⟩ := bd_o h hn
        refine g_callVi (rest := [.ref (ad 0)]) K hW hl (kX0_slicesOf (l := l) (G := G) (ad := ad) hok u24 I J u37 e38) kLC_1 rfl (gG_V q_684 q_685 q_686 q_134 q_687) nm_X0_slicesOf ⟨Nat.le_of_ble_eq_true rfl, Nat.le_of_ble_eq_true rfl⟩ rfl rfl (Nat.le_of_ble_eq_true rfl) ⟨Nat.zero_le _, Nat.zero_le _⟩ dX6_dawns_71 (fun z39 H locs hW => ?_)
        obtain ⟨⟨u40, I41⟩, e42, h⟩ := bd_o h hn
        replace h := pr_o h
        refine g_callVi (rest := []) K hW hl (kX6_lowestDawn (l := l) (G := G) (ad := ad) hok u37 I J u40 I41 e42) kLC_0 rfl (gG_V q_1001 q_1003 q_50 q_133 q_1004) nm_X6_lowestDawn ⟨Nat.le_of_ble_eq_true rfl, Nat.le_of_ble_eq_true rfl⟩ rfl rfl (Nat.le_of_ble_eq_true rfl) ⟨Nat.zero_le _, Nat.zero_le _⟩ dX6_dawns_74 (fun z43 H locs hW => ?_)
        refine lv_istore (lv' := [(4, .int u40), (0, .ref (ad 0)), (1, .int u22), (2, .int u23), (3, .int u24)]) hx hb dX6_dawns_77 hl (by decide) rfl (fun ls hl => ?_)
        refine lv_iload_n hx hb dX6_dawns_79 rfl (lv_at hl 4 rfl) ?_
        refine lv_iload_n hx hb dX6_dawns_80 rfl (lv_at hl 2 rfl) ?_
        refine lv_icmp_ne (tgt := 87) hx hb dX6_dawns_81 (by decide) (fun c44 => ?_) (fun c44 => ?_)
        · replace h := gi_f h c44
          exact hj33 I41 h _ _ hW _ (lv_sub hl [1, 2, 3, 4] rfl)
        · replace h := gi_t h c44
          exact hx1 u40 I41 h _ _ hW _ (lv_sub hl [0] rfl)
noncomputable def fX6_dawns_33b  (rec : Int32 → Int32 → gI → Option ((Int32 × gI) ⊕ (gI))) (u16 : Int32) (u17 : Int32) (I : gI) : Option ((Int32 × gI) ⊕ (gI)) :=
  gi ((12 : Int32) ≤ u17)
 (some (Sum.inr I))
 (bd (fX6_dawns_41 FU u16 u17 (0 : Int32) I) (sm (pr (fun (u47 : Int32) (I48 : gI) => some (Sum.inl (u47, I48)))) (fun (I50 : gI) => lz ((u17 + (1 : Int32))) (fun (u52 : Int32) => rec u16 u52 I50))))
noncomputable def fX6_dawns_33  : Nat → Int32 → Int32 → gI → Option ((Int32 × gI) ⊕ (gI))
  | 0 => fun _ _ _ => none
  | n + 1 => fX6_dawns_33b  (fX6_dawns_33  n)
set_option maxHeartbeats 4000000 in
set_option maxRecDepth 100000 in
theorem tX6_dawns_33 {l : Launch} {G : gG} {ad : Nat → Nat} {p : Program} {e : Env} {s : State} {m : MethodId} {args : Array Value} {below : List Frame} {meth : Method} {c : Code} {Q : State → Prop} (hok : gInj LC ad) (K : gCx G (gA LC ad) p s m args c cX6_dawns 5 RX6)  : ∀ (n : Nat) (u16 : Int32) (u17 : Int32) (I : gI) (J : gJ) (out : Option ((Int32 × gI) ⊕ (gI))), fX6_dawns_33  n u16 u17 I = out → out ≠ none → ∀ (H : Heap) (locs : List Loc), gWd G LC ad (gA LC ad) s.heap I J H locs → ∀ (ls : Array Slot), lv_has ls 5 [(0, .ref (ad 0)), (1, .int u16), (2, .int u17)] → (∀ (y18 : Int32) (I19 : gI), some (Sum.inl (y18, I19)) = out → ∀ (H : Heap) (locs : List Loc), gWd G LC ad (gA LC ad) s.heap I19 J H locs → ∀ (ls : Array Slot), lv_has ls 5 [(4, .int y18)] → W p l e (gRm 2) s m args below meth c H locs 0 0 Q (F0 m 84 ls [])) → (∀ (I20 : gI), some (Sum.inr I20) = out → ∀ (H : Heap) (locs : List Loc), gWd G LC ad (gA LC ad) s.heap I20 J H locs → ∀ (ls : Array Slot), lv_has ls 5 [] → W p l e (gRm 2) s m args below meth c H locs 0 0 Q (F0 m 99 ls [])) → W p l e (gRm 2) s m args below meth c H locs 0 0 Q (F0 m 33 ls []) := by
  have hx := K.1; have hb := K.2.1; have hown := K.2.2.2.1; have hts := K.2.2.2.2.1
  intro n
  induction n with
  | zero => intro u16 u17 I J out h hn; exact absurd h.symm hn
  | succ n ih =>
    intro u16 u17 I J out h hn H locs hW ls hl hx1 hx2
    replace h : fX6_dawns_33b  (fX6_dawns_33  n) u16 u17 I = out := h
    unfold fX6_dawns_33b at h
    refine lv_iload_n hx hb dX6_dawns_33 rfl (lv_at hl 2 rfl) ?_
    refine lv_bipush (v := (12 : Int32)) hx hb dX6_dawns_34 (by decide) ?_
    refine lv_icmp_ge (tgt := 99) hx hb dX6_dawns_36 (by decide) (fun c21 => ?_) (fun c21 => ?_)
    · replace h := gi_t h c21
      exact hx2 I h _ _ hW _ (lv_sub hl [] rfl)
    · replace h := gi_f h c21
      refine lv_iconst (v := (0 : Int32)) hx hb dX6_dawns_39 (by decide) ?_
      refine lv_istore_n (lv' := [(3, .int (0 : Int32)), (0, .ref (ad 0)), (1, .int u16), (2, .int u17)]) hx hb dX6_dawns_40 rfl hl (by decide) rfl (fun ls hl => ?_)
      obtain ⟨r45, e46, h⟩ := bd_o h hn
      refine tX6_dawns_41 hok K FU u16 u17 (0 : Int32) I J (some r45) e46 (Option.some_ne_none _) _ _ hW _ (lv_sub hl [1, 2, 3, 0] rfl) ?_ ?_
      · intro u47 I48 q49 H locs hW ls hl
        replace q49 := Option.some.inj q49
        subst q49
        replace h := sm_l h
        replace h := pr_o h
        exact hx1 u47 I48 h _ _ hW _ (lv_sub hl [0] rfl)
      · intro I50 q51 H locs hW ls hl
        replace q51 := Option.some.inj q51
        subst q51
        replace h := sm_r h
        obtain ⟨u52, e53, h⟩ := lz_o h
        refine lv_iinc (v := u52) (lv' := [(2, .int u52), (0, .ref (ad 0)), (1, .int u16)]) hx hb dX6_dawns_93 hl (k := 2) rfl (by rw [e53]; rfl) (by decide) rfl (fun ls hl => ?_)
        refine lv_goto (tgt := 33) hx hb dX6_dawns_96 (by decide) ?_
        exact ih u16 u52 I50 J _ h hn _ _ hW _ (lv_sub hl [1, 2, 0] rfl) hx1 hx2
noncomputable def fX6_dawns  (x1 : Int32) (I : gI) : Option (Int32 × gI) :=
  gi ((fX6_isBuyer x1 I) = 0)
 (some ((-1 : Int32), I))
 (bd (fX6_dawns_12 FU x1 (0 : Int32) I) (fun (I14 : gI) => bd (fX6_dawns_33 FU x1 (0 : Int32) I14) (sm (pr (fun (u56 : Int32) (I57 : gI) => some (u56, I57))) (fun (I59 : gI) => some ((-1 : Int32), I59)))))
set_option maxHeartbeats 4000000 in
set_option maxRecDepth 100000 in
theorem kX6_dawns {l : Launch} {G : gG} {ad : Nat → Nat} (hok : gInj LC ad)    (x1 : Int32) (I : gI) (J : gJ) (r : Int32) (I' : gI) (h : fX6_dawns x1 I = some (r, I')) : gMi l yX6_dawns cX6_dawns 5 (some .int) 2 G LC ad [.ref (ad 0), .int x1] I J r True I' J := by
  refine gMi_of (lst := [(0, .ref (ad 0)), (1, .int x1)]) (by decide) hok (Nat.le_of_ble_eq_true rfl) rfl ?_
  intro p e s m args below meth c Q ls K hW hl hfin
  have hn : (some (r, I') : Option (Int32 × gI)) ≠ none := Option.some_ne_none _
  have hx := K.1; have hb := K.2.1; have hown := K.2.2.2.1; have hts := K.2.2.2.2.1
  unfold fX6_dawns at h
  refine lv_aload_n hx hb dX6_dawns_0 rfl (lv_at hl 0 rfl) ?_
  refine lv_iload_n hx hb dX6_dawns_1 rfl (lv_at hl 1 rfl) ?_
  refine g_callVi (rest := []) K hW hl (kX6_isBuyer (l := l) (G := G) (ad := ad) hok x1 I J (fX6_isBuyer x1 I) rfl) kLC_0 rfl (gG_V q_461 q_463 q_0 q_133 q_464) nm_X6_isBuyer ⟨Nat.le_of_ble_eq_true rfl, Nat.le_of_ble_eq_true rfl⟩ rfl rfl (Nat.le_of_ble_eq_true rfl) ⟨Nat.zero_le _, Nat.zero_le _⟩ dX6_dawns_2 (fun z1 H locs hW => ?_)
  refine lv_if_ne (tgt := 10) hx hb dX6_dawns_5 (by decide) (fun c2 => ?_) (fun c2 => ?_)
  · replace h := gi_f h c2
    refine lv_iconst (v := (0 : Int32)) hx hb dX6_dawns_10 (by decide) ?_
    refine lv_istore_n (lv' := [(2, .int (0 : Int32)), (0, .ref (ad 0)), (1, .int x1)]) hx hb dX6_dawns_11 rfl hl (by decide) rfl (fun ls hl => ?_)
    obtain ⟨r12, e13, h⟩ := bd_o h hn
    refine tX6_dawns_12 hok K FU x1 (0 : Int32) I J (some r12) e13 (Option.some_ne_none _) _ _ hW _ (lv_sub hl [1, 2, 0] rfl) ?_
    · intro I14 q15 H locs hW ls hl
      replace q15 := Option.some.inj q15
      subst q15
      refine lv_iconst (v := (0 : Int32)) hx hb dX6_dawns_31 (by decide) ?_
      refine lv_istore_n (lv' := [(2, .int (0 : Int32)), (0, .ref (ad 0)), (1, .int x1)]) hx hb dX6_dawns_32 rfl hl (by decide) rfl (fun ls hl => ?_)
      obtain ⟨r54, e55, h⟩ := bd_o h hn
      refine tX6_dawns_33 hok K FU x1 (0 : Int32) I14 J (some r54) e55 (Option.some_ne_none _) _ _ hW _ (lv_sub hl [1, 2, 0] rfl) ?_ ?_
      · intro u56 I57 q58 H locs hW ls hl
        replace q58 := Option.some.inj q58
        subst q58
        replace h := sm_l h
        replace h := pr_o h
        refine lv_iload hx hb dX6_dawns_84 (lv_at hl 0 rfl) ?_
        obtain ⟨a1, a2⟩ := so2 h
        replace hW := gWd_nI a2 hW
        exact g_nmi a1 (hfin _ _ _ _ hW dX6_dawns_86)
      · intro I59 q60 H locs hW ls hl
        replace q60 := Option.some.inj q60
        subst q60
        replace h := sm_r h
        refine lv_iconst (v := (-1 : Int32)) hx hb dX6_dawns_99 (by decide) ?_
        obtain ⟨a1, a2⟩ := so2 h
        replace hW := gWd_nI a2 hW
        exact g_nmi a1 (hfin _ _ _ _ hW dX6_dawns_100)
  · replace h := gi_t h c2
    refine lv_iconst (v := (-1 : Int32)) hx hb dX6_dawns_8 (by decide) ?_
    obtain ⟨a1, a2⟩ := so2 h
    replace hW := gWd_nI a2 hW
    exact g_nmi a1 (hfin _ _ _ _ hW dX6_dawns_9)
theorem kLC_295 : gAt LC 295 1 12 := ⟨by decide, by decide +kernel⟩
theorem rLC_0_9 : LC.2.2 0 9 = some 295 := by decide +kernel
noncomputable def fX6_lead_9b  (rec : Int32 → Int32 → Int32 → gI → Option ((gI))) (u2 : Int32) (u3 : Int32) (u4 : Int32) (I : gI) : Option ((gI)) :=
  gi (u3 < u4)
 (some I)
 (gd (vp_in u4 12) (lz (wI I 295 (u4).toNatClampNeg (I 8 (u4).toNatClampNeg)) (fun (I9 : gI) => lz ((u4 + (1 : Int32))) (fun (u10 : Int32) => rec u2 u3 u10 I9))))
noncomputable def fX6_lead_9  : Nat → Int32 → Int32 → Int32 → gI → Option ((gI))
  | 0 => fun _ _ _ _ => none
  | n + 1 => fX6_lead_9b  (fX6_lead_9  n)
set_option maxHeartbeats 4000000 in
set_option maxRecDepth 100000 in
theorem tX6_lead_9 {l : Launch} {G : gG} {ad : Nat → Nat} {p : Program} {e : Env} {s : State} {m : MethodId} {args : Array Value} {below : List Frame} {meth : Method} {c : Code} {Q : State → Prop} (hok : gInj LC ad) (K : gCx G (gA LC ad) p s m args c cX6_lead 5 RX6)  : ∀ (n : Nat) (u2 : Int32) (u3 : Int32) (u4 : Int32) (I : gI) (J : gJ) (out : Option ((gI))), fX6_lead_9  n u2 u3 u4 I = out → out ≠ none → ∀ (H : Heap) (locs : List Loc), gWd G LC ad (gA LC ad) s.heap I J H locs → ∀ (ls : Array Slot), lv_has ls 5 [(0, .ref (ad 0)), (1, .int u2), (2, .int u3), (3, .int u4)] → (∀ (I5 : gI), some I5 = out → ∀ (H : Heap) (locs : List Loc), gWd G LC ad (gA LC ad) s.heap I5 J H locs → ∀ (ls : Array Slot), lv_has ls 5 [(0, .ref (ad 0)), (1, .int u2), (2, .int u3)] → W p l e (gRm 1) s m args below meth c H locs 0 0 Q (F0 m 35 ls [])) → W p l e (gRm 1) s m args below meth c H locs 0 0 Q (F0 m 9 ls []) := by
  have hx := K.1; have hb := K.2.1; have hown := K.2.2.2.1; have hts := K.2.2.2.2.1
  intro n
  induction n with
  | zero => intro u2 u3 u4 I J out h hn; exact absurd h.symm hn
  | succ n ih =>
    intro u2 u3 u4 I J out h hn H locs hW ls hl hx1
    replace h : fX6_lead_9b  (fX6_lead_9  n) u2 u3 u4 I = out := h
    unfold fX6_lead_9b at h
    refine lv_iload_n hx hb dX6_lead_9 rfl (lv_at hl 3 rfl) ?_
    refine lv_iload_n hx hb dX6_lead_10 rfl (lv_at hl 2 rfl) ?_
    refine lv_icmp_gt (tgt := 35) hx hb dX6_lead_11 (by decide) (fun c6 => ?_) (fun c6 => ?_)
    · replace h := gi_t h c6
      exact hx1 I h _ _ hW _ (lv_sub hl [0, 1, 2] rfl)
    · replace h := gi_f h c6
      refine lv_aload_n hx hb dX6_lead_14 rfl (lv_at hl 0 rfl) ?_
      refine g_get K hW (t := 2) (ci := 5) (k := 9) (v := .ref (ad 295)) kLC_0 rfl rfl i_X6 (by decide) q_402 rfl (gfv2 rLC_0_9) dX6_lead_15 ?_
      refine lv_iload_n hx hb dX6_lead_18 rfl (lv_at hl 3 rfl) ?_
      refine lv_aload_n hx hb dX6_lead_19 rfl (lv_at hl 0 rfl) ?_
      refine g_get K hW (t := 2) (ci := 5) (k := 0) (v := .ref (ad 1)) kLC_0 rfl rfl i_X6 (by decide) q_393 rfl (gfv2 rLC_0_0) dX6_lead_20 ?_
      refine g_get K hW (t := 2) (ci := 0) (k := 6) (v := .ref (ad 8)) kLC_1 rfl rfl i_X0 (by decide) q_226 rfl (gfv2 rLC_1_6) dX6_lead_23 ?_
      refine lv_iload_n hx hb dX6_lead_26 rfl (lv_at hl 3 rfl) ?_
      obtain ⟨g7, h⟩ := gd_o h hn
      refine g_iald K hW kLC_8 g7 rfl dX6_lead_27 ?_
      refine g_iast K hW kLC_295 g7 rfl dX6_lead_28 (fun H locs hW => ?_)
      obtain ⟨I9, e8, h⟩ := lz_o h
      replace hW := gWd_nI e8 hW
      obtain ⟨u10, e11, h⟩ := lz_o h
      refine lv_iinc (v := u10) (lv' := [(3, .int u10), (0, .ref (ad 0)), (1, .int u2), (2, .int u3)]) hx hb dX6_lead_29 hl (k := 3) rfl (by rw [e11]; rfl) (by decide) rfl (fun ls hl => ?_)
      refine lv_goto (tgt := 9) hx hb dX6_lead_32 (by decide) ?_
      exact ih u2 u3 u10 I9 J _ h hn _ _ hW _ (lv_sub hl [1, 2, 3, 0] rfl) hx1
noncomputable def fX6_lead_47b  (rec : Int32 → Int32 → Int32 → Int32 → gI → Option ((gI))) (u21 : Int32) (u22 : Int32) (u23 : Int32) (u24 : Int32) (I : gI) : Option ((gI)) :=
  gi (u22 < (u24 + u23))
 (some I)
 (gd (vp_in u24 12) (gd (vp_in (u24 + (1 : Int32)) 12) (gd (vp_in (u24 + u23) 12) (lz (wI I 295 (u24).toNatClampNeg (jmax ((I 8 (u24).toNatClampNeg) - (I 295 ((u24 + (1 : Int32))).toNatClampNeg)) ((I 8 ((u24 + u23)).toNatClampNeg) - (I 295 (u24).toNatClampNeg)))) (fun (I31 : gI) => lz ((u24 + (1 : Int32))) (fun (u32 : Int32) => rec u21 u22 u23 u32 I31))))))
noncomputable def fX6_lead_47  : Nat → Int32 → Int32 → Int32 → Int32 → gI → Option ((gI))
  | 0 => fun _ _ _ _ _ => none
  | n + 1 => fX6_lead_47b  (fX6_lead_47  n)
set_option maxHeartbeats 4000000 in
set_option maxRecDepth 100000 in
theorem tX6_lead_47 {l : Launch} {G : gG} {ad : Nat → Nat} {p : Program} {e : Env} {s : State} {m : MethodId} {args : Array Value} {below : List Frame} {meth : Method} {c : Code} {Q : State → Prop} (hok : gInj LC ad) (K : gCx G (gA LC ad) p s m args c cX6_lead 5 RX6)  : ∀ (n : Nat) (u21 : Int32) (u22 : Int32) (u23 : Int32) (u24 : Int32) (I : gI) (J : gJ) (out : Option ((gI))), fX6_lead_47  n u21 u22 u23 u24 I = out → out ≠ none → ∀ (H : Heap) (locs : List Loc), gWd G LC ad (gA LC ad) s.heap I J H locs → ∀ (ls : Array Slot), lv_has ls 5 [(0, .ref (ad 0)), (1, .int u21), (2, .int u22), (3, .int u23), (4, .int u24)] → (∀ (I25 : gI), some I25 = out → ∀ (H : Heap) (locs : List Loc), gWd G LC ad (gA LC ad) s.heap I25 J H locs → ∀ (ls : Array Slot), lv_has ls 5 [(0, .ref (ad 0)), (1, .int u21), (2, .int u22), (3, .int u23)] → W p l e (gRm 1) s m args below meth c H locs 0 0 Q (F0 m 111 ls [])) → W p l e (gRm 1) s m args below meth c H locs 0 0 Q (F0 m 47 ls []) := by
  have hx := K.1; have hb := K.2.1; have hown := K.2.2.2.1; have hts := K.2.2.2.2.1
  intro n
  induction n with
  | zero => intro u21 u22 u23 u24 I J out h hn; exact absurd h.symm hn
  | succ n ih =>
    intro u21 u22 u23 u24 I J out h hn H locs hW ls hl hx1
    replace h : fX6_lead_47b  (fX6_lead_47  n) u21 u22 u23 u24 I = out := h
    unfold fX6_lead_47b at h
    refine lv_iload hx hb dX6_lead_47 (lv_at hl 4 rfl) ?_
    refine lv_iload_n hx hb dX6_lead_49 rfl (lv_at hl 3 rfl) ?_
    refine lv_iadd hx hb dX6_lead_50 ?_
    refine lv_iload_n hx hb dX6_lead_51 rfl (lv_at hl 2 rfl) ?_
    refine lv_icmp_gt (tgt := 111) hx hb dX6_lead_52 (by decide) (fun c26 => ?_) (fun c26 => ?_)
    · replace h := gi_t h c26
      exact hx1 I h _ _ hW _ (lv_sub hl [0, 1, 2, 3] rfl)
    · replace h := gi_f h c26
      refine lv_aload_n hx hb dX6_lead_55 rfl (lv_at hl 0 rfl) ?_
      refine g_get K hW (t := 2) (ci := 5) (k := 9) (v := .ref (ad 295)) kLC_0 rfl rfl i_X6 (by decide) q_402 rfl (gfv2 rLC_0_9) dX6_lead_56 ?_
      refine lv_iload hx hb dX6_lead_59 (lv_at hl 4 rfl) ?_
      refine lv_aload_n hx hb dX6_lead_61 rfl (lv_at hl 0 rfl) ?_
      refine g_get K hW (t := 2) (ci := 5) (k := 0) (v := .ref (ad 1)) kLC_0 rfl rfl i_X6 (by decide) q_393 rfl (gfv2 rLC_0_0) dX6_lead_62 ?_
      refine g_get K hW (t := 2) (ci := 0) (k := 6) (v := .ref (ad 8)) kLC_1 rfl rfl i_X0 (by decide) q_226 rfl (gfv2 rLC_1_6) dX6_lead_65 ?_
      refine lv_iload hx hb dX6_lead_68 (lv_at hl 4 rfl) ?_
      obtain ⟨g27, h⟩ := gd_o h hn
      refine g_iald K hW kLC_8 g27 rfl dX6_lead_70 ?_
      refine lv_aload_n hx hb dX6_lead_71 rfl (lv_at hl 0 rfl) ?_
      refine g_get K hW (t := 2) (ci := 5) (k := 9) (v := .ref (ad 295)) kLC_0 rfl rfl i_X6 (by decide) q_402 rfl (gfv2 rLC_0_9) dX6_lead_72 ?_
      refine lv_iload hx hb dX6_lead_75 (lv_at hl 4 rfl) ?_
      refine lv_iconst (v := (1 : Int32)) hx hb dX6_lead_77 (by decide) ?_
      refine lv_iadd hx hb dX6_lead_78 ?_
      obtain ⟨g28, h⟩ := gd_o h hn
      refine g_iald K hW kLC_295 g28 rfl dX6_lead_79 ?_
      refine lv_isub hx hb dX6_lead_80 ?_
      refine lv_aload_n hx hb dX6_lead_81 rfl (lv_at hl 0 rfl) ?_
      refine g_get K hW (t := 2) (ci := 5) (k := 0) (v := .ref (ad 1)) kLC_0 rfl rfl i_X6 (by decide) q_393 rfl (gfv2 rLC_0_0) dX6_lead_82 ?_
      refine g_get K hW (t := 2) (ci := 0) (k := 6) (v := .ref (ad 8)) kLC_1 rfl rfl i_X0 (by decide) q_226 rfl (gfv2 rLC_1_6) dX6_lead_85 ?_
      refine lv_iload hx hb dX6_lead_88 (lv_at hl 4 rfl) ?_
      refine lv_iload_n hx hb dX6_lead_90 rfl (lv_at hl 3 rfl) ?_
      refine lv_iadd hx hb dX6_lead_91 ?_
      obtain ⟨g29, h⟩ := gd_o h hn
      refine g_iald K hW kLC_8 g29 rfl dX6_lead_92 ?_
      refine lv_aload_n hx hb dX6_lead_93 rfl (lv_at hl 0 rfl) ?_
      refine g_get K hW (t := 2) (ci := 5) (k := 9) (v := .ref (ad 295)) kLC_0 rfl rfl i_X6 (by decide) q_402 rfl (gfv2 rLC_0_9) dX6_lead_94 ?_
      refine lv_iload hx hb dX6_lead_97 (lv_at hl 4 rfl) ?_
      refine g_iald K hW kLC_295 g27 rfl dX6_lead_99 ?_
      refine lv_isub hx hb dX6_lead_100 ?_
      refine g_max K hl q_931 (by decide) (Nat.le_of_ble_eq_true rfl) ⟨Nat.zero_le _, Nat.zero_le _⟩ dX6_lead_101 ?_
      refine g_iast K hW kLC_295 g27 rfl dX6_lead_104 (fun H locs hW => ?_)
      obtain ⟨I31, e30, h⟩ := lz_o h
      replace hW := gWd_nI e30 hW
      obtain ⟨u32, e33, h⟩ := lz_o h
      refine lv_iinc (v := u32) (lv' := [(4, .int u32), (0, .ref (ad 0)), (1, .int u21), (2, .int u22), (3, .int u23)]) hx hb dX6_lead_105 hl (k := 4) rfl (by rw [e33]; rfl) (by decide) rfl (fun ls hl => ?_)
      refine lv_goto (tgt := 47) hx hb dX6_lead_108 (by decide) ?_
      exact ih u21 u22 u23 u32 I31 J _ h hn _ _ hW _ (lv_sub hl [1, 2, 3, 4, 0] rfl) hx1
noncomputable def fX6_lead_37b  (rec : Int32 → Int32 → Int32 → gI → Option ((gI))) (u16 : Int32) (u17 : Int32) (u18 : Int32) (I : gI) : Option ((gI)) :=
  gi ((u17 - u16) < u18)
 (some I)
 (bd (fX6_lead_47 FU u16 u17 u18 u16 I) (fun (I36 : gI) => lz ((u18 + (1 : Int32))) (fun (u38 : Int32) => rec u16 u17 u38 I36)))
noncomputable def fX6_lead_37  : Nat → Int32 → Int32 → Int32 → gI → Option ((gI))
  | 0 => fun _ _ _ _ => none
  | n + 1 => fX6_lead_37b  (fX6_lead_37  n)
set_option maxHeartbeats 4000000 in
set_option maxRecDepth 100000 in
theorem tX6_lead_37 {l : Launch} {G : gG} {ad : Nat → Nat} {p : Program} {e : Env} {s : State} {m : MethodId} {args : Array Value} {below : List Frame} {meth : Method} {c : Code} {Q : State → Prop} (hok : gInj LC ad) (K : gCx G (gA LC ad) p s m args c cX6_lead 5 RX6)  : ∀ (n : Nat) (u16 : Int32) (u17 : Int32) (u18 : Int32) (I : gI) (J : gJ) (out : Option ((gI))), fX6_lead_37  n u16 u17 u18 I = out → out ≠ none → ∀ (H : Heap) (locs : List Loc), gWd G LC ad (gA LC ad) s.heap I J H locs → ∀ (ls : Array Slot), lv_has ls 5 [(0, .ref (ad 0)), (1, .int u16), (2, .int u17), (3, .int u18)] → (∀ (I19 : gI), some I19 = out → ∀ (H : Heap) (locs : List Loc), gWd G LC ad (gA LC ad) s.heap I19 J H locs → ∀ (ls : Array Slot), lv_has ls 5 [(0, .ref (ad 0)), (1, .int u16)] → W p l e (gRm 1) s m args below meth c H locs 0 0 Q (F0 m 117 ls [])) → W p l e (gRm 1) s m args below meth c H locs 0 0 Q (F0 m 37 ls []) := by
  have hx := K.1; have hb := K.2.1; have hown := K.2.2.2.1; have hts := K.2.2.2.2.1
  intro n
  induction n with
  | zero => intro u16 u17 u18 I J out h hn; exact absurd h.symm hn
  | succ n ih =>
    intro u16 u17 u18 I J out h hn H locs hW ls hl hx1
    replace h : fX6_lead_37b  (fX6_lead_37  n) u16 u17 u18 I = out := h
    unfold fX6_lead_37b at h
    refine lv_iload_n hx hb dX6_lead_37 rfl (lv_at hl 3 rfl) ?_
    refine lv_iload_n hx hb dX6_lead_38 rfl (lv_at hl 2 rfl) ?_
    refine lv_iload_n hx hb dX6_lead_39 rfl (lv_at hl 1 rfl) ?_
    refine lv_isub hx hb dX6_lead_40 ?_
    refine lv_icmp_gt (tgt := 117) hx hb dX6_lead_41 (by decide) (fun c20 => ?_) (fun c20 => ?_)
    · replace h := gi_t h c20
      exact hx1 I h _ _ hW _ (lv_sub hl [0, 1] rfl)
    · replace h := gi_f h c20
      refine lv_iload_n hx hb dX6_lead_44 rfl (lv_at hl 1 rfl) ?_
      refine lv_istore (lv' := [(4, .int u16), (0, .ref (ad 0)), (1, .int u16), (2, .int u17), (3, .int u18)]) hx hb dX6_lead_45 hl (by decide) rfl (fun ls hl => ?_)
      obtain ⟨r34, e35, h⟩ := bd_o h hn
      refine tX6_lead_47 hok K FU u16 u17 u18 u16 I J (some r34) e35 (Option.some_ne_none _) _ _ hW _ (lv_sub hl [1, 2, 3, 4, 0] rfl) ?_
      · intro I36 q37 H locs hW ls hl
        replace q37 := Option.some.inj q37
        subst q37
        obtain ⟨u38, e39, h⟩ := lz_o h
        refine lv_iinc (v := u38) (lv' := [(3, .int u38), (0, .ref (ad 0)), (1, .int u16), (2, .int u17)]) hx hb dX6_lead_111 hl (k := 3) rfl (by rw [e39]; rfl) (by decide) rfl (fun ls hl => ?_)
        refine lv_goto (tgt := 37) hx hb dX6_lead_114 (by decide) ?_
        exact ih u16 u17 u38 I36 J _ h hn _ _ hW _ (lv_sub hl [1, 2, 3, 0] rfl) hx1
noncomputable def fX6_lead  (x1 : Int32) (x2 : Int32) (I : gI) : Option (Int32 × gI) :=
  gi (x1 ≤ x2)
 (bd (fX6_lead_9 FU x1 x2 x1 I) (fun (I14 : gI) => bd (fX6_lead_37 FU x1 x2 (1 : Int32) I14) (fun (I42 : gI) => gd (vp_in x1 12) (some ((I42 295 (x1).toNatClampNeg), I42)))))
 (some ((0 : Int32), I))
set_option maxHeartbeats 4000000 in
set_option maxRecDepth 100000 in
theorem kX6_lead {l : Launch} {G : gG} {ad : Nat → Nat} (hok : gInj LC ad)    (x1 : Int32) (x2 : Int32) (I : gI) (J : gJ) (r : Int32) (I' : gI) (h : fX6_lead x1 x2 I = some (r, I')) : gMi l yX6_lead cX6_lead 5 (some .int) 1 G LC ad [.ref (ad 0), .int x1, .int x2] I J r True I' J := by
  refine gMi_of (lst := [(0, .ref (ad 0)), (1, .int x1), (2, .int x2)]) (by decide) hok (Nat.le_of_ble_eq_true rfl) rfl ?_
  intro p e s m args below meth c Q ls K hW hl hfin
  have hn : (some (r, I') : Option (Int32 × gI)) ≠ none := Option.some_ne_none _
  have hx := K.1; have hb := K.2.1; have hown := K.2.2.2.1; have hts := K.2.2.2.2.1
  unfold fX6_lead at h
  refine lv_iload_n hx hb dX6_lead_0 rfl (lv_at hl 1 rfl) ?_
  refine lv_iload_n hx hb dX6_lead_1 rfl (lv_at hl 2 rfl) ?_
  refine lv_icmp_le (tgt := 7) hx hb dX6_lead_2 (by decide) (fun c1 => ?_) (fun c1 => ?_)
  · replace h := gi_t h c1
    refine lv_iload_n hx hb dX6_lead_7 rfl (lv_at hl 1 rfl) ?_
    refine lv_istore_n (lv' := [(3, .int x1), (0, .ref (ad 0)), (1, .int x1), (2, .int x2)]) hx hb dX6_lead_8 rfl hl (by decide) rfl (fun ls hl => ?_)
    obtain ⟨r12, e13, h⟩ := bd_o h hn
    refine tX6_lead_9 hok K FU x1 x2 x1 I J (some r12) e13 (Option.some_ne_none _) _ _ hW _ (lv_sub hl [1, 2, 3, 0] rfl) ?_
    · intro I14 q15 H locs hW ls hl
      replace q15 := Option.some.inj q15
      subst q15
      refine lv_iconst (v := (1 : Int32)) hx hb dX6_lead_35 (by decide) ?_
      refine lv_istore_n (lv' := [(3, .int (1 : Int32)), (0, .ref (ad 0)), (1, .int x1), (2, .int x2)]) hx hb dX6_lead_36 rfl hl (by decide) rfl (fun ls hl => ?_)
      obtain ⟨r40, e41, h⟩ := bd_o h hn
      refine tX6_lead_37 hok K FU x1 x2 (1 : Int32) I14 J (some r40) e41 (Option.some_ne_none _) _ _ hW _ (lv_sub hl [1, 2, 3, 0] rfl) ?_
      · intro I42 q43 H locs hW ls hl
        replace q43 := Option.some.inj q43
        subst q43
        refine lv_aload_n hx hb dX6_lead_117 rfl (lv_at hl 0 rfl) ?_
        refine g_get K hW (t := 2) (ci := 5) (k := 9) (v := .ref (ad 295)) kLC_0 rfl rfl i_X6 (by decide) q_402 rfl (gfv2 rLC_0_9) dX6_lead_118 ?_
        refine lv_iload_n hx hb dX6_lead_121 rfl (lv_at hl 1 rfl) ?_
        obtain ⟨g44, h⟩ := gd_o h hn
        refine g_iald K hW kLC_295 g44 rfl dX6_lead_122 ?_
        obtain ⟨a1, a2⟩ := so2 h
        replace hW := gWd_nI a2 hW
        exact g_nmi a1 (hfin _ _ _ _ hW dX6_lead_123)
  · replace h := gi_f h c1
    refine lv_iconst (v := (0 : Int32)) hx hb dX6_lead_5 (by decide) ?_
    obtain ⟨a1, a2⟩ := so2 h
    replace hW := gWd_nI a2 hW
    exact g_nmi a1 (hfin _ _ _ _ hW dX6_lead_6)
theorem nm_X6_lead : gNm yX6_lead 2 := by decide +kernel
noncomputable def fX6_ends  (x1 : Int32) (x2 : Int32) (I : gI) : Option (Int32 × gI) :=
  gi ((fX6_isRun x1 x2) = 0)
 (some ((-1000 : Int32), I))
 (bd (fX6_lead x1 x2 I) (pr (fun (u3 : Int32) (I4 : gI) => some (u3, I4))))
set_option maxHeartbeats 4000000 in
set_option maxRecDepth 100000 in
theorem kX6_ends {l : Launch} {G : gG} {ad : Nat → Nat} (hok : gInj LC ad)    (x1 : Int32) (x2 : Int32) (I : gI) (J : gJ) (r : Int32) (I' : gI) (h : fX6_ends x1 x2 I = some (r, I')) : gMi l yX6_ends cX6_ends 3 (some .int) 2 G LC ad [.ref (ad 0), .int x1, .int x2] I J r True I' J := by
  refine gMi_of (lst := [(0, .ref (ad 0)), (1, .int x1), (2, .int x2)]) (by decide) hok (Nat.le_of_ble_eq_true rfl) rfl ?_
  intro p e s m args below meth c Q ls K hW hl hfin
  have hn : (some (r, I') : Option (Int32 × gI)) ≠ none := Option.some_ne_none _
  have hx := K.1; have hb := K.2.1; have hown := K.2.2.2.1; have hts := K.2.2.2.2.1
  unfold fX6_ends at h
  refine lv_iload_n hx hb dX6_ends_0 rfl (lv_at hl 1 rfl) ?_
  refine lv_iload_n hx hb dX6_ends_1 rfl (lv_at hl 2 rfl) ?_
  refine g_callSi (rest := []) K hW hl (kX6_isRun (l := l) (G := G) (ad := ad) hok x1 x2 I J (fX6_isRun x1 x2) rfl) q_447 q_448 q_133 q_449 nm_X6_isRun ⟨Nat.le_of_ble_eq_true rfl, Nat.le_of_ble_eq_true rfl⟩ rfl rfl (Nat.le_of_ble_eq_true rfl) ⟨Nat.zero_le _, Nat.zero_le _⟩ dX6_ends_2 (fun z1 H locs hW => ?_)
  refine lv_if_eq (tgt := 17) hx hb dX6_ends_5 (by decide) (fun c2 => ?_) (fun c2 => ?_)
  · replace h := gi_t h c2
    refine lv_sipush (v := (-1000 : Int32)) hx hb dX6_ends_17 (by decide) ?_
    obtain ⟨a1, a2⟩ := so2 h
    replace hW := gWd_nI a2 hW
    exact g_nmi a1 (hfin _ _ _ _ hW dX6_ends_20)
  · replace h := gi_f h c2
    refine lv_aload_n hx hb dX6_ends_8 rfl (lv_at hl 0 rfl) ?_
    refine lv_iload_n hx hb dX6_ends_9 rfl (lv_at hl 1 rfl) ?_
    refine lv_iload_n hx hb dX6_ends_10 rfl (lv_at hl 2 rfl) ?_
    obtain ⟨⟨u3, I4⟩, e5, h⟩ := bd_o h hn
    replace h := pr_o h
    refine g_callVi (rest := []) K hW hl (kX6_lead (l := l) (G := G) (ad := ad) hok x1 x2 I J u3 I4 e5) kLC_0 rfl (gG_V q_1009 q_1011 q_51 q_133 q_1012) nm_X6_lead ⟨Nat.le_of_ble_eq_true rfl, Nat.le_of_ble_eq_true rfl⟩ rfl rfl (Nat.le_of_ble_eq_true rfl) ⟨Nat.zero_le _, Nat.zero_le _⟩ dX6_ends_11 (fun z6 H locs hW => ?_)
    refine lv_goto (tgt := 20) hx hb dX6_ends_14 (by decide) ?_
    obtain ⟨a1, a2⟩ := so2 h
    replace hW := gWd_nI a2 hW
    exact g_nmi a1 (hfin _ _ _ _ hW dX6_ends_20)
noncomputable def fX6_take  (x1 : Int32) (x2 : Int32) (I : gI) : Option (Int32 × gI) :=
  gi ((fX6_isRun x1 x2) = 0)
 (some ((-1 : Int32), I))
 (gd (vp_in x1 12) (bd (fX6_lead (x1 + (1 : Int32)) x2 I) (pr (fun (u4 : Int32) (I5 : gI) => lz (((I 8 (x1).toNatClampNeg) - u4)) (fun (u8 : Int32) => gd (vp_in x2 12) (bd (fX6_lead x1 (x2 - (1 : Int32)) I5) (pr (fun (u11 : Int32) (I12 : gI) => lz (((I5 8 (x2).toNatClampNeg) - u11)) (fun (u15 : Int32) => gi (u8 < u15)
 (some ((1 : Int32), I12))
 (some ((0 : Int32), I12)))))))))))
set_option maxHeartbeats 4000000 in
set_option maxRecDepth 100000 in
theorem kX6_take {l : Launch} {G : gG} {ad : Nat → Nat} (hok : gInj LC ad)    (x1 : Int32) (x2 : Int32) (I : gI) (J : gJ) (r : Int32) (I' : gI) (h : fX6_take x1 x2 I = some (r, I')) : gMi l yX6_take cX6_take 5 (some .int) 2 G LC ad [.ref (ad 0), .int x1, .int x2] I J r True I' J := by
  refine gMi_of (lst := [(0, .ref (ad 0)), (1, .int x1), (2, .int x2)]) (by decide) hok (Nat.le_of_ble_eq_true rfl) rfl ?_
  intro p e s m args below meth c Q ls K hW hl hfin
  have hn : (some (r, I') : Option (Int32 × gI)) ≠ none := Option.some_ne_none _
  have hx := K.1; have hb := K.2.1; have hown := K.2.2.2.1; have hts := K.2.2.2.2.1
  unfold fX6_take at h
  refine lv_iload_n hx hb dX6_take_0 rfl (lv_at hl 1 rfl) ?_
  refine lv_iload_n hx hb dX6_take_1 rfl (lv_at hl 2 rfl) ?_
  refine g_callSi (rest := []) K hW hl (kX6_isRun (l := l) (G := G) (ad := ad) hok x1 x2 I J (fX6_isRun x1 x2) rfl) q_447 q_448 q_133 q_449 nm_X6_isRun ⟨Nat.le_of_ble_eq_true rfl, Nat.le_of_ble_eq_true rfl⟩ rfl rfl (Nat.le_of_ble_eq_true rfl) ⟨Nat.zero_le _, Nat.zero_le _⟩ dX6_take_2 (fun z1 H locs hW => ?_)
  refine lv_if_ne (tgt := 10) hx hb dX6_take_5 (by decide) (fun c2 => ?_) (fun c2 => ?_)
  · replace h := gi_f h c2
    refine lv_aload_n hx hb dX6_take_10 rfl (lv_at hl 0 rfl) ?_
    refine g_get K hW (t := 2) (ci := 5) (k := 0) (v := .ref (ad 1)) kLC_0 rfl rfl i_X6 (by decide) q_393 rfl (gfv2 rLC_0_0) dX6_take_11 ?_
    refine g_get K hW (t := 2) (ci := 0) (k := 6) (v := .ref (ad 8)) kLC_1 rfl rfl i_X0 (by decide) q_226 rfl (gfv2 rLC_1_6) dX6_take_14 ?_
    refine lv_iload_n hx hb dX6_take_17 rfl (lv_at hl 1 rfl) ?_
    obtain ⟨g3, h⟩ := gd_o h hn
    refine g_iald K hW kLC_8 g3 rfl dX6_take_18 ?_
    refine lv_aload_n hx hb dX6_take_19 rfl (lv_at hl 0 rfl) ?_
    refine lv_iload_n hx hb dX6_take_20 rfl (lv_at hl 1 rfl) ?_
    refine lv_iconst (v := (1 : Int32)) hx hb dX6_take_21 (by decide) ?_
    refine lv_iadd hx hb dX6_take_22 ?_
    refine lv_iload_n hx hb dX6_take_23 rfl (lv_at hl 2 rfl) ?_
    obtain ⟨⟨u4, I5⟩, e6, h⟩ := bd_o h hn
    replace h := pr_o h
    refine g_callVi (rest := [.int (I 8 (x1).toNatClampNeg)]) K hW hl (kX6_lead (l := l) (G := G) (ad := ad) hok (x1 + (1 : Int32)) x2 I J u4 I5 e6) kLC_0 rfl (gG_V q_1009 q_1011 q_51 q_133 q_1012) nm_X6_lead ⟨Nat.le_of_ble_eq_true rfl, Nat.le_of_ble_eq_true rfl⟩ rfl rfl (Nat.le_of_ble_eq_true rfl) ⟨Nat.zero_le _, Nat.zero_le _⟩ dX6_take_24 (fun z7 H locs hW => ?_)
    refine lv_isub hx hb dX6_take_27 ?_
    obtain ⟨u8, e9, h⟩ := lz_o h
    refine g_nmi e9 ?_
    refine lv_istore_n (lv' := [(3, .int u8), (0, .ref (ad 0)), (1, .int x1), (2, .int x2)]) hx hb dX6_take_28 rfl hl (by decide) rfl (fun ls hl => ?_)
    refine lv_aload_n hx hb dX6_take_29 rfl (lv_at hl 1 rfl) ?_
    refine g_get K hW (t := 2) (ci := 5) (k := 0) (v := .ref (ad 1)) kLC_0 rfl rfl i_X6 (by decide) q_393 rfl (gfv2 rLC_0_0) dX6_take_30 ?_
    refine g_get K hW (t := 2) (ci := 0) (k := 6) (v := .ref (ad 8)) kLC_1 rfl rfl i_X0 (by decide) q_226 rfl (gfv2 rLC_1_6) dX6_take_33 ?_
    refine lv_iload_n hx hb dX6_take_36 rfl (lv_at hl 3 rfl) ?_
    obtain ⟨g10, h⟩ := gd_o h hn
    refine g_iald K hW kLC_8 g10 rfl dX6_take_37 ?_
    refine lv_aload_n hx hb dX6_take_38 rfl (lv_at hl 1 rfl) ?_
    refine lv_iload_n hx hb dX6_take_39 rfl (lv_at hl 2 rfl) ?_
    refine lv_iload_n hx hb dX6_take_40 rfl (lv_at hl 3 rfl) ?_
    refine lv_iconst (v := (1 : Int32)) hx hb dX6_take_41 (by decide) ?_
    refine lv_isub hx hb dX6_take_42 ?_
    obtain ⟨⟨u11, I12⟩, e13, h⟩ := bd_o h hn
    replace h := pr_o h
    refine g_callVi (rest := [.int (I5 8 (x2).toNatClampNeg)]) K hW hl (kX6_lead (l := l) (G := G) (ad := ad) hok x1 (x2 - (1 : Int32)) I5 J u11 I12 e13) kLC_0 rfl (gG_V q_1009 q_1011 q_51 q_133 q_1012) nm_X6_lead ⟨Nat.le_of_ble_eq_true rfl, Nat.le_of_ble_eq_true rfl⟩ rfl rfl (Nat.le_of_ble_eq_true rfl) ⟨Nat.zero_le _, Nat.zero_le _⟩ dX6_take_43 (fun z14 H locs hW => ?_)
    refine lv_isub hx hb dX6_take_46 ?_
    obtain ⟨u15, e16, h⟩ := lz_o h
    refine g_nmi e16 ?_
    refine lv_istore (lv' := [(4, .int u15), (3, .int u8), (0, .ref (ad 0)), (1, .int x1), (2, .int x2)]) hx hb dX6_take_47 hl (by decide) rfl (fun ls hl => ?_)
    refine lv_iload_n hx hb dX6_take_49 rfl (lv_at hl 1 rfl) ?_
    refine lv_iload hx hb dX6_take_50 (lv_at hl 0 rfl) ?_
    refine lv_icmp_lt (tgt := 59) hx hb dX6_take_52 (by decide) (fun c17 => ?_) (fun c17 => ?_)
    · replace h := gi_t h c17
      refine lv_iconst (v := (1 : Int32)) hx hb dX6_take_59 (by decide) ?_
      obtain ⟨a1, a2⟩ := so2 h
      replace hW := gWd_nI a2 hW
      exact g_nmi a1 (hfin _ _ _ _ hW dX6_take_60)
    · replace h := gi_f h c17
      refine lv_iconst (v := (0 : Int32)) hx hb dX6_take_55 (by decide) ?_
      refine lv_goto (tgt := 60) hx hb dX6_take_56 (by decide) ?_
      obtain ⟨a1, a2⟩ := so2 h
      replace hW := gWd_nI a2 hW
      exact g_nmi a1 (hfin _ _ _ _ hW dX6_take_60)
  · replace h := gi_t h c2
    refine lv_iconst (v := (-1 : Int32)) hx hb dX6_take_8 (by decide) ?_
    obtain ⟨a1, a2⟩ := so2 h
    replace hW := gWd_nI a2 hW
    exact g_nmi a1 (hfin _ _ _ _ hW dX6_take_9)
noncomputable def fX6_best_57b  (rec : Int32 → Int32 → Int32 → Int32 → Int32 → Int32 → Int32 → Int32 → gI → Option ((Int32 × Int32 × Int32))) (u21 : Int32) (u22 : Int32) (u23 : Int32) (u24 : Int32) (u25 : Int32) (u26 : Int32) (u27 : Int32) (u28 : Int32) (I : gI) : Option ((Int32 × Int32 × Int32)) :=
  gi (u21 < u28)
 (some (u23, u24, u25))
 (gd (vp_in u28 12) (lz ((u27 + ((I 8 (u28).toNatClampNeg) - (50 : Int32)))) (fun (u34 : Int32) => lz (fun (u36 : Int32) => fun (u37 : Int32) => fun (u38 : Int32) => lz ((u28 + (1 : Int32))) (fun (u42 : Int32) => rec u21 u22 u36 u37 u38 u26 u34 u42 I)) (fun j39 => gi (u34 ≤ u23)
 (j39 u23 u24 u25)
 (j39 u34 u26 u28)))))
noncomputable def fX6_best_57  : Nat → Int32 → Int32 → Int32 → Int32 → Int32 → Int32 → Int32 → Int32 → gI → Option ((Int32 × Int32 × Int32))
  | 0 => fun _ _ _ _ _ _ _ _ _ => none
  | n + 1 => fX6_best_57b  (fX6_best_57  n)
set_option maxHeartbeats 4000000 in
set_option maxRecDepth 100000 in
theorem tX6_best_57 {l : Launch} {G : gG} {ad : Nat → Nat} {p : Program} {e : Env} {s : State} {m : MethodId} {args : Array Value} {below : List Frame} {meth : Method} {c : Code} {Q : State → Prop} (hok : gInj LC ad) (K : gCx G (gA LC ad) p s m args c cX6_best 10 RX6)  : ∀ (n : Nat) (u21 : Int32) (u22 : Int32) (u23 : Int32) (u24 : Int32) (u25 : Int32) (u26 : Int32) (u27 : Int32) (u28 : Int32) (I : gI) (J : gJ) (out : Option ((Int32 × Int32 × Int32))), fX6_best_57  n u21 u22 u23 u24 u25 u26 u27 u28 I = out → out ≠ none → ∀ (H : Heap) (locs : List Loc), gWd G LC ad (gA LC ad) s.heap I J H locs → ∀ (ls : Array Slot), lv_has ls 10 [(0, .ref (ad 0)), (2, .int u21), (3, .int u22), (4, .int u23), (5, .int u24), (6, .int u25), (7, .int u26), (8, .int u27), (9, .int u28)] → (∀ (y29 : Int32) (y30 : Int32) (y31 : Int32), some (y29, y30, y31) = out → ∀ (H : Heap) (locs : List Loc), gWd G LC ad (gA LC ad) s.heap I J H locs → ∀ (ls : Array Slot), lv_has ls 10 [(0, .ref (ad 0)), (2, .int u21), (3, .int u22), (4, .int y29), (5, .int y30), (6, .int y31), (7, .int u26)] → W p l e (gRm 2) s m args below meth c H locs 0 0 Q (F0 m 106 ls [])) → W p l e (gRm 2) s m args below meth c H locs 0 0 Q (F0 m 57 ls []) := by
  have hx := K.1; have hb := K.2.1; have hown := K.2.2.2.1; have hts := K.2.2.2.2.1
  intro n
  induction n with
  | zero => intro u21 u22 u23 u24 u25 u26 u27 u28 I J out h hn; exact absurd h.symm hn
  | succ n ih =>
    intro u21 u22 u23 u24 u25 u26 u27 u28 I J out h hn H locs hW ls hl hx1
    replace h : fX6_best_57b  (fX6_best_57  n) u21 u22 u23 u24 u25 u26 u27 u28 I = out := h
    unfold fX6_best_57b at h
    refine lv_iload hx hb dX6_best_57 (lv_at hl 8 rfl) ?_
    refine lv_iload_n hx hb dX6_best_59 rfl (lv_at hl 1 rfl) ?_
    refine lv_icmp_gt (tgt := 106) hx hb dX6_best_60 (by decide) (fun c32 => ?_) (fun c32 => ?_)
    · replace h := gi_t h c32
      exact hx1 u23 u24 u25 h _ _ hW _ (lv_sub hl [0, 1, 2, 3, 4, 5, 6] rfl)
    · replace h := gi_f h c32
      refine lv_iload hx hb dX6_best_63 (lv_at hl 7 rfl) ?_
      refine lv_aload_n hx hb dX6_best_65 rfl (lv_at hl 0 rfl) ?_
      refine g_get K hW (t := 2) (ci := 5) (k := 0) (v := .ref (ad 1)) kLC_0 rfl rfl i_X6 (by decide) q_393 rfl (gfv2 rLC_0_0) dX6_best_66 ?_
      refine g_get K hW (t := 2) (ci := 0) (k := 6) (v := .ref (ad 8)) kLC_1 rfl rfl i_X0 (by decide) q_226 rfl (gfv2 rLC_1_6) dX6_best_69 ?_
      refine lv_iload hx hb dX6_best_72 (lv_at hl 8 rfl) ?_
      obtain ⟨g33, h⟩ := gd_o h hn
      refine g_iald K hW kLC_8 g33 rfl dX6_best_74 ?_
      refine lv_bipush (v := (50 : Int32)) hx hb dX6_best_75 (by decide) ?_
      refine lv_isub hx hb dX6_best_77 ?_
      refine lv_iadd hx hb dX6_best_78 ?_
      obtain ⟨u34, e35, h⟩ := lz_o h
      refine g_nmi e35 ?_
      refine lv_istore (lv' := [(8, .int u34), (0, .ref (ad 0)), (2, .int u21), (3, .int u22), (4, .int u23), (5, .int u24), (6, .int u25), (7, .int u26), (9, .int u28)]) hx hb dX6_best_79 hl (by decide) rfl (fun ls hl => ?_)
      refine lv_iload hx hb dX6_best_81 (lv_at hl 0 rfl) ?_
      refine lv_iload hx hb dX6_best_83 (lv_at hl 4 rfl) ?_
      obtain ⟨j39, e40, h⟩ := lz_o h
      have hj41 : ∀ (u36 : Int32) (u37 : Int32) (u38 : Int32), j39 u36 u37 u38 = out → ∀ (H : Heap) (locs : List Loc), gWd G LC ad (gA LC ad) s.heap I J H locs → ∀ (ls : Array Slot), lv_has ls 10 [(0, .ref (ad 0)), (2, .int u21), (3, .int u22), (4, .int u36), (5, .int u37), (6, .int u38), (7, .int u26), (8, .int u34), (9, .int u28)] → W p l e (gRm 2) s m args below meth c H locs 0 0 Q (F0 m 100 ls []) := by
        intro u36 u37 u38 h H locs hW ls hl
        replace h := jn3 e40 h
        obtain ⟨u42, e43, h⟩ := lz_o h
        refine lv_iinc (v := u42) (lv' := [(9, .int u42), (0, .ref (ad 0)), (2, .int u21), (3, .int u22), (4, .int u36), (5, .int u37), (6, .int u38), (7, .int u26), (8, .int u34)]) hx hb dX6_best_100 hl (k := 8) rfl (by rw [e43]; rfl) (by decide) rfl (fun ls hl => ?_)
        refine lv_goto (tgt := 57) hx hb dX6_best_103 (by decide) ?_
        exact ih u21 u22 u36 u37 u38 u26 u34 u42 I J _ h hn _ _ hW _ (lv_sub hl [1, 2, 3, 4, 5, 6, 7, 8, 0] rfl) hx1
      refine lv_icmp_le (tgt := 100) hx hb dX6_best_85 (by decide) (fun c44 => ?_) (fun c44 => ?_)
      · replace h := gi_t h c44
        exact hj41 u23 u24 u25 h _ _ hW _ (lv_sub hl [1, 2, 3, 4, 5, 6, 7, 0, 8] rfl)
      · replace h := gi_f h c44
        refine lv_iload hx hb dX6_best_88 (lv_at hl 0 rfl) ?_
        refine lv_istore (lv' := [(4, .int u34), (8, .int u34), (0, .ref (ad 0)), (2, .int u21), (3, .int u22), (5, .int u24), (6, .int u25), (7, .int u26), (9, .int u28)]) hx hb dX6_best_90 hl (by decide) rfl (fun ls hl => ?_)
        refine lv_iload hx hb dX6_best_92 (lv_at hl 7 rfl) ?_
        refine lv_istore (lv' := [(5, .int u26), (4, .int u34), (8, .int u34), (0, .ref (ad 0)), (2, .int u21), (3, .int u22), (6, .int u25), (7, .int u26), (9, .int u28)]) hx hb dX6_best_94 hl (by decide) rfl (fun ls hl => ?_)
        refine lv_iload hx hb dX6_best_96 (lv_at hl 8 rfl) ?_
        refine lv_istore (lv' := [(6, .int u28), (5, .int u26), (4, .int u34), (8, .int u34), (0, .ref (ad 0)), (2, .int u21), (3, .int u22), (7, .int u26), (9, .int u28)]) hx hb dX6_best_98 hl (by decide) rfl (fun ls hl => ?_)
        exact hj41 u34 u26 u28 h _ _ hW _ (lv_sub hl [4, 5, 6, 2, 1, 0, 7, 3, 8] rfl)
noncomputable def fX6_best_44b  (rec : Int32 → Int32 → Int32 → Int32 → Int32 → Int32 → gI → Option ((Int32 × Int32 × Int32))) (u11 : Int32) (u12 : Int32) (u13 : Int32) (u14 : Int32) (u15 : Int32) (u16 : Int32) (I : gI) : Option ((Int32 × Int32 × Int32)) :=
  gi (u11 < u16)
 (some (u13, u14, u15))
 (bd (fX6_best_57 FU u11 u12 u13 u14 u15 u16 (0 : Int32) u16 I) (pr (fun (u47 : Int32) => (pr (fun (u48 : Int32) (u49 : Int32) => lz ((u16 + (1 : Int32))) (fun (u51 : Int32) => rec u11 u12 u47 u48 u49 u51 I))))))
noncomputable def fX6_best_44  : Nat → Int32 → Int32 → Int32 → Int32 → Int32 → Int32 → gI → Option ((Int32 × Int32 × Int32))
  | 0 => fun _ _ _ _ _ _ _ => none
  | n + 1 => fX6_best_44b  (fX6_best_44  n)
set_option maxHeartbeats 4000000 in
set_option maxRecDepth 100000 in
theorem tX6_best_44 {l : Launch} {G : gG} {ad : Nat → Nat} {p : Program} {e : Env} {s : State} {m : MethodId} {args : Array Value} {below : List Frame} {meth : Method} {c : Code} {Q : State → Prop} (hok : gInj LC ad) (K : gCx G (gA LC ad) p s m args c cX6_best 10 RX6)  : ∀ (n : Nat) (u11 : Int32) (u12 : Int32) (u13 : Int32) (u14 : Int32) (u15 : Int32) (u16 : Int32) (I : gI) (J : gJ) (out : Option ((Int32 × Int32 × Int32))), fX6_best_44  n u11 u12 u13 u14 u15 u16 I = out → out ≠ none → ∀ (H : Heap) (locs : List Loc), gWd G LC ad (gA LC ad) s.heap I J H locs → ∀ (ls : Array Slot), lv_has ls 10 [(0, .ref (ad 0)), (2, .int u11), (3, .int u12), (4, .int u13), (5, .int u14), (6, .int u15), (7, .int u16)] → (∀ (y17 : Int32) (y18 : Int32) (y19 : Int32), some (y17, y18, y19) = out → ∀ (H : Heap) (locs : List Loc), gWd G LC ad (gA LC ad) s.heap I J H locs → ∀ (ls : Array Slot), lv_has ls 10 [(3, .int u12), (4, .int y17), (5, .int y18), (6, .int y19)] → W p l e (gRm 2) s m args below meth c H locs 0 0 Q (F0 m 112 ls [])) → W p l e (gRm 2) s m args below meth c H locs 0 0 Q (F0 m 44 ls []) := by
  have hx := K.1; have hb := K.2.1; have hown := K.2.2.2.1; have hts := K.2.2.2.2.1
  intro n
  induction n with
  | zero => intro u11 u12 u13 u14 u15 u16 I J out h hn; exact absurd h.symm hn
  | succ n ih =>
    intro u11 u12 u13 u14 u15 u16 I J out h hn H locs hW ls hl hx1
    replace h : fX6_best_44b  (fX6_best_44  n) u11 u12 u13 u14 u15 u16 I = out := h
    unfold fX6_best_44b at h
    refine lv_iload hx hb dX6_best_44 (lv_at hl 6 rfl) ?_
    refine lv_iload_n hx hb dX6_best_46 rfl (lv_at hl 1 rfl) ?_
    refine lv_icmp_gt (tgt := 112) hx hb dX6_best_47 (by decide) (fun c20 => ?_) (fun c20 => ?_)
    · replace h := gi_t h c20
      exact hx1 u13 u14 u15 h _ _ hW _ (lv_sub hl [2, 3, 4, 5] rfl)
    · replace h := gi_f h c20
      refine lv_iconst (v := (0 : Int32)) hx hb dX6_best_50 (by decide) ?_
      refine lv_istore (lv' := [(8, .int (0 : Int32)), (0, .ref (ad 0)), (2, .int u11), (3, .int u12), (4, .int u13), (5, .int u14), (6, .int u15), (7, .int u16)]) hx hb dX6_best_51 hl (by decide) rfl (fun ls hl => ?_)
      refine lv_iload hx hb dX6_best_53 (lv_at hl 7 rfl) ?_
      refine lv_istore (lv' := [(9, .int u16), (8, .int (0 : Int32)), (0, .ref (ad 0)), (2, .int u11), (3, .int u12), (4, .int u13), (5, .int u14), (6, .int u15), (7, .int u16)]) hx hb dX6_best_55 hl (by decide) rfl (fun ls hl => ?_)
      obtain ⟨r45, e46, h⟩ := bd_o h hn
      refine tX6_best_57 hok K FU u11 u12 u13 u14 u15 u16 (0 : Int32) u16 I J (some r45) e46 (Option.some_ne_none _) _ _ hW _ (lv_sub hl [2, 3, 4, 5, 6, 7, 8, 1, 0] rfl) ?_
      · intro u47 u48 u49 q50 H locs hW ls hl
        replace q50 := Option.some.inj q50
        subst q50
        replace h := pr_o h
        replace h := pr_o h
        obtain ⟨u51, e52, h⟩ := lz_o h
        refine lv_iinc (v := u51) (lv' := [(7, .int u51), (0, .ref (ad 0)), (2, .int u11), (3, .int u12), (4, .int u47), (5, .int u48), (6, .int u49)]) hx hb dX6_best_106 hl (k := 6) rfl (by rw [e52]; rfl) (by decide) rfl (fun ls hl => ?_)
        refine lv_goto (tgt := 44) hx hb dX6_best_109 (by decide) ?_
        exact ih u11 u12 u47 u48 u49 u51 I J _ h hn _ _ hW _ (lv_sub hl [1, 2, 3, 4, 5, 6, 0] rfl) hx1
noncomputable def fX6_best  (x1 : Int32) (x2 : Int32) (x3 : Int32) (I : gI) : Option (Int32) :=
  lz (some (-1000 : Int32)) (fun j2 => gi ((fX6_isRun x1 x2) = 0)
 (j2)
 (gi ((fX6_within x3 (0 : Int32) (2 : Int32)) = 0)
 (j2)
 (gd (vp_in x1 12) (lz (((I 8 (x1).toNatClampNeg) - (50 : Int32))) (fun (u9 : Int32) => bd (fX6_best_44 FU x2 x3 u9 x1 x1 x1 I) (pr (fun (u55 : Int32) => (pr (fun (u56 : Int32) (u57 : Int32) => gi (x3 = 0)
 (some u55)
 (gi (x3 = (1 : Int32))
 (some u56)
 (some u57)))))))))))
set_option maxHeartbeats 4000000 in
set_option maxRecDepth 100000 in
theorem kX6_best {l : Launch} {G : gG} {ad : Nat → Nat} (hok : gInj LC ad)    (x1 : Int32) (x2 : Int32) (x3 : Int32) (I : gI) (J : gJ) (r : Int32) (h : fX6_best x1 x2 x3 I = some r) : gMi l yX6_best cX6_best 10 (some .int) 2 G LC ad [.ref (ad 0), .int x1, .int x2, .int x3] I J r True I J := by
  refine gMi_of (lst := [(0, .ref (ad 0)), (1, .int x1), (2, .int x2), (3, .int x3)]) (by decide) hok (Nat.le_of_ble_eq_true rfl) rfl ?_
  intro p e s m args below meth c Q ls K hW hl hfin
  have hn : (some r : Option (Int32)) ≠ none := Option.some_ne_none _
  have hx := K.1; have hb := K.2.1; have hown := K.2.2.2.1; have hts := K.2.2.2.2.1
  unfold fX6_best at h
  refine lv_iload_n hx hb dX6_best_0 rfl (lv_at hl 1 rfl) ?_
  refine lv_iload_n hx hb dX6_best_1 rfl (lv_at hl 2 rfl) ?_
  refine g_callSi (rest := []) K hW hl (kX6_isRun (l := l) (G := G) (ad := ad) hok x1 x2 I J (fX6_isRun x1 x2) rfl) q_447 q_448 q_133 q_449 nm_X6_isRun ⟨Nat.le_of_ble_eq_true rfl, Nat.le_of_ble_eq_true rfl⟩ rfl rfl (Nat.le_of_ble_eq_true rfl) ⟨Nat.zero_le _, Nat.zero_le _⟩ dX6_best_2 (fun z1 H locs hW => ?_)
  obtain ⟨j2, e3, h⟩ := lz_o h
  have hj4 : j2 = (some r) → ∀ (H : Heap) (locs : List Loc), gWd G LC ad (gA LC ad) s.heap I J H locs → ∀ (ls : Array Slot), lv_has ls 10 [] → W p l e (gRm 2) s m args below meth c H locs 0 0 Q (F0 m 17 ls []) := by
    intro h H locs hW ls hl
    replace h := jn0 e3 h
    refine lv_sipush (v := (-1000 : Int32)) hx hb dX6_best_17 (by decide) ?_
    obtain a1 := so1 h
    exact g_nmi a1 (hfin _ _ _ _ hW dX6_best_20)
  refine lv_if_eq (tgt := 17) hx hb dX6_best_5 (by decide) (fun c5 => ?_) (fun c5 => ?_)
  · replace h := gi_t h c5
    exact hj4 h _ _ hW _ (lv_sub hl [] rfl)
  · replace h := gi_f h c5
    refine lv_iload_n hx hb dX6_best_8 rfl (lv_at hl 3 rfl) ?_
    refine lv_iconst (v := (0 : Int32)) hx hb dX6_best_9 (by decide) ?_
    refine lv_iconst (v := (2 : Int32)) hx hb dX6_best_10 (by decide) ?_
    refine g_callSi (rest := []) K hW hl (kX6_within (l := l) (G := G) (ad := ad) hok x3 (0 : Int32) (2 : Int32) I J (fX6_within x3 (0 : Int32) (2 : Int32)) rfl) q_440 q_441 q_133 q_442 nm_X6_within ⟨Nat.le_of_ble_eq_true rfl, Nat.le_of_ble_eq_true rfl⟩ rfl rfl (Nat.le_of_ble_eq_true rfl) ⟨Nat.zero_le _, Nat.zero_le _⟩ dX6_best_11 (fun z6 H locs hW => ?_)
    refine lv_if_ne (tgt := 21) hx hb dX6_best_14 (by decide) (fun c7 => ?_) (fun c7 => ?_)
    · replace h := gi_f h c7
      refine lv_aload_n hx hb dX6_best_21 rfl (lv_at hl 0 rfl) ?_
      refine g_get K hW (t := 2) (ci := 5) (k := 0) (v := .ref (ad 1)) kLC_0 rfl rfl i_X6 (by decide) q_393 rfl (gfv2 rLC_0_0) dX6_best_22 ?_
      refine g_get K hW (t := 2) (ci := 0) (k := 6) (v := .ref (ad 8)) kLC_1 rfl rfl i_X0 (by decide) q_226 rfl (gfv2 rLC_1_6) dX6_best_25 ?_
      refine lv_iload_n hx hb dX6_best_28 rfl (lv_at hl 1 rfl) ?_
      obtain ⟨g8, h⟩ := gd_o h hn
      refine g_iald K hW kLC_8 g8 rfl dX6_best_29 ?_
      refine lv_bipush (v := (50 : Int32)) hx hb dX6_best_30 (by decide) ?_
      refine lv_isub hx hb dX6_best_32 ?_
      obtain ⟨u9, e10, h⟩ := lz_o h
      refine g_nmi e10 ?_
      refine lv_istore (lv' := [(4, .int u9), (0, .ref (ad 0)), (1, .int x1), (2, .int x2), (3, .int x3)]) hx hb dX6_best_33 hl (by decide) rfl (fun ls hl => ?_)
      refine lv_iload_n hx hb dX6_best_35 rfl (lv_at hl 2 rfl) ?_
      refine lv_istore (lv' := [(5, .int x1), (4, .int u9), (0, .ref (ad 0)), (1, .int x1), (2, .int x2), (3, .int x3)]) hx hb dX6_best_36 hl (by decide) rfl (fun ls hl => ?_)
      refine lv_iload_n hx hb dX6_best_38 rfl (lv_at hl 3 rfl) ?_
      refine lv_istore (lv' := [(6, .int x1), (5, .int x1), (4, .int u9), (0, .ref (ad 0)), (1, .int x1), (2, .int x2), (3, .int x3)]) hx hb dX6_best_39 hl (by decide) rfl (fun ls hl => ?_)
      refine lv_iload_n hx hb dX6_best_41 rfl (lv_at hl 4 rfl) ?_
      refine lv_istore (lv' := [(7, .int x1), (6, .int x1), (5, .int x1), (4, .int u9), (0, .ref (ad 0)), (1, .int x1), (2, .int x2), (3, .int x3)]) hx hb dX6_best_42 hl (by decide) rfl (fun ls hl => ?_)
      obtain ⟨r53, e54, h⟩ := bd_o h hn
      refine tX6_best_44 hok K FU x2 x3 u9 x1 x1 x1 I J (some r53) e54 (Option.some_ne_none _) _ _ hW _ (lv_sub hl [4, 6, 7, 3, 2, 1, 0] rfl) ?_
      · intro u55 u56 u57 q58 H locs hW ls hl
        replace q58 := Option.some.inj q58
        subst q58
        replace h := pr_o h
        replace h := pr_o h
        refine lv_iload_n hx hb dX6_best_112 rfl (lv_at hl 0 rfl) ?_
        refine lv_if_ne (tgt := 119) hx hb dX6_best_113 (by decide) (fun c59 => ?_) (fun c59 => ?_)
        · replace h := gi_f h c59
          refine lv_iload_n hx hb dX6_best_119 rfl (lv_at hl 0 rfl) ?_
          refine lv_iconst (v := (1 : Int32)) hx hb dX6_best_120 (by decide) ?_
          refine lv_icmp_ne (tgt := 129) hx hb dX6_best_121 (by decide) (fun c60 => ?_) (fun c60 => ?_)
          · replace h := gi_f h c60
            refine lv_iload hx hb dX6_best_129 (lv_at hl 3 rfl) ?_
            obtain a1 := so1 h
            exact g_nmi a1 (hfin _ _ _ _ hW dX6_best_131)
          · replace h := gi_t h c60
            refine lv_iload hx hb dX6_best_124 (lv_at hl 2 rfl) ?_
            refine lv_goto (tgt := 131) hx hb dX6_best_126 (by decide) ?_
            obtain a1 := so1 h
            exact g_nmi a1 (hfin _ _ _ _ hW dX6_best_131)
        · replace h := gi_t h c59
          refine lv_iload hx hb dX6_best_116 (lv_at hl 1 rfl) ?_
          obtain a1 := so1 h
          exact g_nmi a1 (hfin _ _ _ _ hW dX6_best_118)
    · replace h := gi_t h c7
      exact hj4 h _ _ hW _ (lv_sub hl [] rfl)
