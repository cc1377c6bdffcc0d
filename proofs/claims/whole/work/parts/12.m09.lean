-- 12.m09: the reference: hoped isHope hope keep chance first paid doesFit fitting was oddsOfSet likeliestNow likeliest surest greaterPart ask doesBid bidFor bidderOf auction
theorem nm_X7_allRows : gNm yX7_allRows 1 := by decide +kernel
theorem nm_X7_oddsOf : gNm yX7_oddsOf 1 := by decide +kernel
noncomputable def fX7_hoped_17b  (rec : Int32 → Int64 → Int32 → Int64 → Int32 → gI → Option ((Int64))) (u6 : Int32) (u7 : Int64) (u8 : Int32) (u9 : Int64) (u10 : Int32) (I : gI) : Option ((Int64)) :=
  gi ((5 : Int32) ≤ u10)
 (some u9)
 (bd (fX7_allRows (u8 - (1 : Int32)) I) (fun (u13 : Int64) => gd (vp_in ((34 : Int32) + u10) 1592) (lz ((u13 * ((I 1 (((34 : Int32) + u10)).toNatClampNeg)).toInt64)) (fun (u17 : Int64) => bd (fX7_oddsOf u10 I) (fun (u19 : Int32) => lz (fun (u22 : Int64) => lz ((u9 + ((u19).toInt64 * u22))) (fun (u26 : Int64) => lz ((u10 + (1 : Int32))) (fun (u28 : Int32) => rec u6 u7 u8 u26 u28 I))) (fun j23 => gi ((lg_cmp u17 u7) ≤ 0)
 (j23 u7)
 (j23 u17)))))))
noncomputable def fX7_hoped_17  : Nat → Int32 → Int64 → Int32 → Int64 → Int32 → gI → Option ((Int64))
  | 0 => fun _ _ _ _ _ _ => none
  | n + 1 => fX7_hoped_17b  (fX7_hoped_17  n)
set_option maxHeartbeats 4000000 in
set_option maxRecDepth 100000 in
theorem tX7_hoped_17 {l : Launch} {G : gG} {ad : Nat → Nat} {p : Program} {e : Env} {s : State} {m : MethodId} {args : Array Value} {below : List Frame} {meth : Method} {c : Code} {Q : State → Prop} (hok : gInj LM ad) (K : gCx G (gA LM ad) p s m args c cX7_hoped 10 RX7)  : ∀ (n : Nat) (u6 : Int32) (u7 : Int64) (u8 : Int32) (u9 : Int64) (u10 : Int32) (I : gI) (J : gJ) (out : Option ((Int64))), fX7_hoped_17  n u6 u7 u8 u9 u10 I = out → out ≠ none → ∀ (H : Heap) (locs : List Loc), gWd G LM ad (gA LM ad) s.heap I J H locs → ∀ (ls : Array Slot), lv_has ls 10 [(0, .ref (ad 0)), (1, .int u6), (2, .long u7), (4, .int u8), (5, .long u9), (7, .int u10)] → (∀ (y11 : Int64), some y11 = out → ∀ (H : Heap) (locs : List Loc), gWd G LM ad (gA LM ad) s.heap I J H locs → ∀ (ls : Array Slot), lv_has ls 10 [(0, .ref (ad 0)), (1, .int u6), (4, .int u8), (5, .long y11)] → W p l e (gRm 4) s m args below meth c H locs 0 0 Q (F0 m 77 ls [])) → W p l e (gRm 4) s m args below meth c H locs 0 0 Q (F0 m 17 ls []) := by
  have hx := K.1; have hb := K.2.1; have hown := K.2.2.2.1; have hts := K.2.2.2.2.1
  intro n
  induction n with
  | zero => intro u6 u7 u8 u9 u10 I J out h hn; exact absurd h.symm hn
  | succ n ih =>
    intro u6 u7 u8 u9 u10 I J out h hn H locs hW ls hl hx1
    replace h : fX7_hoped_17b  (fX7_hoped_17  n) u6 u7 u8 u9 u10 I = out := h
    unfold fX7_hoped_17b at h
    refine lv_iload hx hb dX7_hoped_17 (lv_at hl 5 rfl) ?_
    refine lv_iconst (v := (5 : Int32)) hx hb dX7_hoped_19 (by decide) ?_
    refine lv_icmp_ge (tgt := 77) hx hb dX7_hoped_20 (by decide) (fun c12 => ?_) (fun c12 => ?_)
    · replace h := gi_t h c12
      exact hx1 u9 h _ _ hW _ (lv_sub hl [0, 1, 3, 4] rfl)
    · replace h := gi_f h c12
      refine lv_aload_n hx hb dX7_hoped_23 rfl (lv_at hl 0 rfl) ?_
      refine lv_iload hx hb dX7_hoped_24 (lv_at hl 3 rfl) ?_
      refine lv_iconst (v := (1 : Int32)) hx hb dX7_hoped_26 (by decide) ?_
      refine lv_isub hx hb dX7_hoped_27 ?_
      obtain ⟨u13, e14, h⟩ := bd_o h hn
      refine g_callVl (rest := []) K hW hl (kX7_allRows (l := l) (G := G) (ad := ad) hok (u8 - (1 : Int32)) I J u13 e14) kLM_0 rfl (gG_V q_1632 q_1634 q_114 q_139 q_1635) nm_X7_allRows ⟨Nat.le_of_ble_eq_true rfl, Nat.le_of_ble_eq_true rfl⟩ rfl rfl (Nat.le_of_ble_eq_true rfl) ⟨Nat.zero_le _, Nat.zero_le _⟩ dX7_hoped_28 (fun H locs hW => ?_)
      refine lv_aload_n hx hb dX7_hoped_31 rfl (lv_at hl 0 rfl) ?_
      refine g_get K hW (t := 2) (ci := 6) (k := 0) (v := .ref (ad 1)) kLM_0 rfl rfl i_X7 (by decide) q_1077 rfl (gfv2 rLM_0_0) dX7_hoped_32 ?_
      refine lv_bipush (v := (34 : Int32)) hx hb dX7_hoped_35 (by decide) ?_
      refine lv_iload hx hb dX7_hoped_37 (lv_at hl 5 rfl) ?_
      refine lv_iadd hx hb dX7_hoped_39 ?_
      obtain ⟨g16, h⟩ := gd_o h hn
      refine g_iald K hW kLM_1 g16 rfl dX7_hoped_40 ?_
      refine lv_i2l hx hb dX7_hoped_41 rfl ?_
      refine lv_lmul hx hb dX7_hoped_42 ?_
      obtain ⟨u17, e18, h⟩ := lz_o h
      refine g_nml e18 ?_
      refine lv_lstore (lv' := [(8, .long u17), (0, .ref (ad 0)), (1, .int u6), (2, .long u7), (4, .int u8), (5, .long u9), (7, .int u10)]) hx hb dX7_hoped_43 hl (by decide) rfl (fun ls hl => ?_)
      refine lv_lload hx hb dX7_hoped_45 (lv_at hl 5 rfl) ?_
      refine lv_aload_n hx hb dX7_hoped_47 rfl (lv_at hl 1 rfl) ?_
      refine lv_iload hx hb dX7_hoped_48 (lv_at hl 6 rfl) ?_
      obtain ⟨u19, e20, h⟩ := bd_o h hn
      refine g_callVi (rest := [.long u9]) K hW hl (kX7_oddsOf (l := l) (G := G) (ad := ad) hok u10 I J u19 e20) kLM_0 rfl (gG_V q_1640 q_1642 q_116 q_139 q_1643) nm_X7_oddsOf ⟨Nat.le_of_ble_eq_true rfl, Nat.le_of_ble_eq_true rfl⟩ rfl rfl (Nat.le_of_ble_eq_true rfl) ⟨Nat.zero_le _, Nat.zero_le _⟩ dX7_hoped_50 (fun z21 H locs hW => ?_)
      refine lv_i2l hx hb dX7_hoped_53 rfl ?_
      refine lv_lload hx hb dX7_hoped_54 (lv_at hl 0 rfl) ?_
      refine lv_lload_n hx hb dX7_hoped_56 rfl (lv_at hl 3 rfl) ?_
      refine W.lcmp hx hb dX7_hoped_57 ?_
      obtain ⟨j23, e24, h⟩ := lz_o h
      have hj25 : ∀ (u22 : Int64), j23 u22 = out → ∀ (H : Heap) (locs : List Loc), gWd G LM ad (gA LM ad) s.heap I J H locs → ∀ (ls : Array Slot), lv_has ls 10 [(0, .ref (ad 0)), (1, .int u6), (2, .long u7), (4, .int u8), (7, .int u10)] → W p l e (gRm 4) s m args below meth c H locs 0 0 Q (F0 m 67 ls [.long u22, .long (u19).toInt64, .long u9]) := by
        intro u22 h H locs hW ls hl
        replace h := jn1 e24 h
        refine lv_lmul hx hb dX7_hoped_67 ?_
        refine lv_ladd hx hb dX7_hoped_68 ?_
        obtain ⟨u26, e27, h⟩ := lz_o h
        refine g_nml e27 ?_
        refine lv_lstore (lv' := [(5, .long u26), (0, .ref (ad 0)), (1, .int u6), (2, .long u7), (4, .int u8), (7, .int u10)]) hx hb dX7_hoped_69 hl (by decide) rfl (fun ls hl => ?_)
        obtain ⟨u28, e29, h⟩ := lz_o h
        refine lv_iinc (v := u28) (lv' := [(7, .int u28), (5, .long u26), (0, .ref (ad 0)), (1, .int u6), (2, .long u7), (4, .int u8)]) hx hb dX7_hoped_71 hl (k := 5) rfl (by rw [e29]; rfl) (by decide) rfl (fun ls hl => ?_)
        refine lv_goto (tgt := 17) hx hb dX7_hoped_74 (by decide) ?_
        exact ih u6 u7 u8 u26 u28 I J _ h hn _ _ hW _ (lv_sub hl [2, 3, 4, 5, 1, 0] rfl) hx1
      refine lv_if_le (tgt := 66) hx hb dX7_hoped_58 (by decide) (fun c30 => ?_) (fun c30 => ?_)
      · replace h := gi_t h c30
        refine lv_lload_n hx hb dX7_hoped_66 rfl (lv_at hl 3 rfl) ?_
        exact hj25 u7 h _ _ hW _ (lv_sub hl [1, 2, 3, 4, 6] rfl)
      · replace h := gi_f h c30
        refine lv_lload hx hb dX7_hoped_61 (lv_at hl 0 rfl) ?_
        refine lv_goto (tgt := 67) hx hb dX7_hoped_63 (by decide) ?_
        exact hj25 u17 h _ _ hW _ (lv_sub hl [1, 2, 3, 4, 6] rfl)
noncomputable def fX7_hoped_5b  (rec : Int32 → Int64 → Int32 → gI → Option ((Int64))) (u1 : Int32) (u2 : Int64) (u3 : Int32) (I : gI) : Option ((Int64)) :=
  gi (u1 < u3)
 (some u2)
 (bd (fX7_hoped_17 FU u1 u2 u3 (0 : Int64) (0 : Int32) I) (fun (u33 : Int64) => lz ((u3 + (1 : Int32))) (fun (u35 : Int32) => rec u1 u33 u35 I)))
noncomputable def fX7_hoped_5  : Nat → Int32 → Int64 → Int32 → gI → Option ((Int64))
  | 0 => fun _ _ _ _ => none
  | n + 1 => fX7_hoped_5b  (fX7_hoped_5  n)
set_option maxHeartbeats 4000000 in
set_option maxRecDepth 100000 in
theorem tX7_hoped_5 {l : Launch} {G : gG} {ad : Nat → Nat} {p : Program} {e : Env} {s : State} {m : MethodId} {args : Array Value} {below : List Frame} {meth : Method} {c : Code} {Q : State → Prop} (hok : gInj LM ad) (K : gCx G (gA LM ad) p s m args c cX7_hoped 10 RX7)  : ∀ (n : Nat) (u1 : Int32) (u2 : Int64) (u3 : Int32) (I : gI) (J : gJ) (out : Option ((Int64))), fX7_hoped_5  n u1 u2 u3 I = out → out ≠ none → ∀ (H : Heap) (locs : List Loc), gWd G LM ad (gA LM ad) s.heap I J H locs → ∀ (ls : Array Slot), lv_has ls 10 [(0, .ref (ad 0)), (1, .int u1), (2, .long u2), (4, .int u3)] → (∀ (y4 : Int64), some y4 = out → ∀ (H : Heap) (locs : List Loc), gWd G LM ad (gA LM ad) s.heap I J H locs → ∀ (ls : Array Slot), lv_has ls 10 [(2, .long y4)] → W p l e (gRm 4) s m args below meth c H locs 0 0 Q (F0 m 86 ls [])) → W p l e (gRm 4) s m args below meth c H locs 0 0 Q (F0 m 5 ls []) := by
  have hx := K.1; have hb := K.2.1; have hown := K.2.2.2.1; have hts := K.2.2.2.2.1
  intro n
  induction n with
  | zero => intro u1 u2 u3 I J out h hn; exact absurd h.symm hn
  | succ n ih =>
    intro u1 u2 u3 I J out h hn H locs hW ls hl hx1
    replace h : fX7_hoped_5b  (fX7_hoped_5  n) u1 u2 u3 I = out := h
    unfold fX7_hoped_5b at h
    refine lv_iload hx hb dX7_hoped_5 (lv_at hl 3 rfl) ?_
    refine lv_iload_n hx hb dX7_hoped_7 rfl (lv_at hl 1 rfl) ?_
    refine lv_icmp_gt (tgt := 86) hx hb dX7_hoped_8 (by decide) (fun c5 => ?_) (fun c5 => ?_)
    · replace h := gi_t h c5
      exact hx1 u2 h _ _ hW _ (lv_sub hl [2] rfl)
    · replace h := gi_f h c5
      refine lv_lconst (v := (0 : Int64)) hx hb dX7_hoped_11 rfl ?_
      refine lv_lstore (lv' := [(5, .long (0 : Int64)), (0, .ref (ad 0)), (1, .int u1), (2, .long u2), (4, .int u3)]) hx hb dX7_hoped_12 hl (by decide) rfl (fun ls hl => ?_)
      refine lv_iconst (v := (0 : Int32)) hx hb dX7_hoped_14 (by decide) ?_
      refine lv_istore (lv' := [(7, .int (0 : Int32)), (5, .long (0 : Int64)), (0, .ref (ad 0)), (1, .int u1), (2, .long u2), (4, .int u3)]) hx hb dX7_hoped_15 hl (by decide) rfl (fun ls hl => ?_)
      obtain ⟨r31, e32, h⟩ := bd_o h hn
      refine tX7_hoped_17 hok K FU u1 u2 u3 (0 : Int64) (0 : Int32) I J (some r31) e32 (Option.some_ne_none _) _ _ hW _ (lv_sub hl [2, 3, 4, 5, 1, 0] rfl) ?_
      · intro u33 q34 H locs hW ls hl
        replace q34 := Option.some.inj q34
        subst q34
        refine lv_lload hx hb dX7_hoped_77 (lv_at hl 3 rfl) ?_
        refine lv_lstore_n (lv' := [(2, .long u33), (0, .ref (ad 0)), (1, .int u1), (4, .int u3), (5, .long u33)]) hx hb dX7_hoped_79 rfl hl (by decide) rfl (fun ls hl => ?_)
        obtain ⟨u35, e36, h⟩ := lz_o h
        refine lv_iinc (v := u35) (lv' := [(4, .int u35), (2, .long u33), (0, .ref (ad 0)), (1, .int u1), (5, .long u33)]) hx hb dX7_hoped_80 hl (k := 3) rfl (by rw [e36]; rfl) (by decide) rfl (fun ls hl => ?_)
        refine lv_goto (tgt := 5) hx hb dX7_hoped_83 (by decide) ?_
        exact ih u1 u33 u35 I J _ h hn _ _ hW _ (lv_sub hl [2, 3, 1, 0] rfl) hx1
noncomputable def fX7_hoped  (x1 : Int32) (I : gI) : Option (Int64) :=
  bd (fX7_hoped_5 FU x1 (0 : Int64) (1 : Int32) I) (fun (u39 : Int64) => some u39)
set_option maxHeartbeats 4000000 in
set_option maxRecDepth 100000 in
theorem kX7_hoped {l : Launch} {G : gG} {ad : Nat → Nat} (hok : gInj LM ad)    (x1 : Int32) (I : gI) (J : gJ) (r : Int64) (h : fX7_hoped x1 I = some r) : gMl l yX7_hoped cX7_hoped 10 (some .long) 4 G LM ad [.ref (ad 0), .int x1] I J r I J := by
  refine gMl_of (lst := [(0, .ref (ad 0)), (1, .int x1)]) (by decide) hok (Nat.le_of_ble_eq_true rfl) rfl ?_
  intro p e s m args below meth c Q ls K hW hl hfin
  have hn : (some r : Option (Int64)) ≠ none := Option.some_ne_none _
  have hx := K.1; have hb := K.2.1; have hown := K.2.2.2.1; have hts := K.2.2.2.2.1
  unfold fX7_hoped at h
  refine lv_lconst (v := (0 : Int64)) hx hb dX7_hoped_0 rfl ?_
  refine lv_lstore_n (lv' := [(2, .long (0 : Int64)), (0, .ref (ad 0)), (1, .int x1)]) hx hb dX7_hoped_1 rfl hl (by decide) rfl (fun ls hl => ?_)
  refine lv_iconst (v := (1 : Int32)) hx hb dX7_hoped_2 (by decide) ?_
  refine lv_istore (lv' := [(4, .int (1 : Int32)), (2, .long (0 : Int64)), (0, .ref (ad 0)), (1, .int x1)]) hx hb dX7_hoped_3 hl (by decide) rfl (fun ls hl => ?_)
  obtain ⟨r37, e38, h⟩ := bd_o h hn
  refine tX7_hoped_5 hok K FU x1 (0 : Int64) (1 : Int32) I J (some r37) e38 (Option.some_ne_none _) _ _ hW _ (lv_sub hl [2, 3, 1, 0] rfl) ?_
  · intro u39 q40 H locs hW ls hl
    replace q40 := Option.some.inj q40
    subst q40
    refine lv_lload_n hx hb dX7_hoped_86 rfl (lv_at hl 0 rfl) ?_
    obtain a1 := so1 h
    exact g_nml a1 (hfin _ _ _ _ hW dX7_hoped_87)
noncomputable def fX7_isHope  (x0 : Int32)  : Int32 :=
  (fX7_isIn x0 (0 : Int32) (6 : Int32))
set_option maxHeartbeats 4000000 in
set_option maxRecDepth 100000 in
theorem kX7_isHope {l : Launch} {G : gG} {ad : Nat → Nat} (hok : gInj LM ad)    (x0 : Int32) (I : gI) (J : gJ) (r : Int32) (h : fX7_isHope x0 = r) : gMi l yX7_isHope cX7_isHope 1 (some .boolean) 2 G LM ad [.int x0] I J r (r = 0 ∨ r = 1) I J := by
  refine gMz_of (lst := [(0, .int x0)]) (by decide) hok (Nat.le_of_ble_eq_true rfl) rfl ?_
  intro p e s m args below meth c Q ls K hW hl hfin
  have hx := K.1; have hb := K.2.1; have hown := K.2.2.2.1; have hts := K.2.2.2.2.1
  unfold fX7_isHope at h
  refine lv_iload_n hx hb dX7_isHope_0 rfl (lv_at hl 0 rfl) ?_
  refine lv_iconst (v := (0 : Int32)) hx hb dX7_isHope_1 (by decide) ?_
  refine lv_bipush (v := (6 : Int32)) hx hb dX7_isHope_2 (by decide) ?_
  refine g_callSi (rest := []) K hW hl (kX7_isIn (l := l) (G := G) (ad := ad) hok x0 (0 : Int32) (6 : Int32) I J (fX7_isIn x0 (0 : Int32) (6 : Int32)) rfl) q_1171 q_1172 q_139 q_1173 nm_X7_isIn ⟨Nat.le_of_ble_eq_true rfl, Nat.le_of_ble_eq_true rfl⟩ rfl rfl (Nat.le_of_ble_eq_true rfl) ⟨Nat.zero_le _, Nat.zero_le _⟩ dX7_isHope_4 (fun z1 H locs hW => ?_)
  obtain a1 := h.symm
  exact g_nmi a1 (hfin _ _ _ _ (a1 ▸ z1) hW dX7_isHope_7)
theorem nm_X7_isHope : gNm yX7_isHope 1 := by decide +kernel
theorem nm_X7_hoped : gNm yX7_hoped 1 := by decide +kernel
noncomputable def fX7_hope  (x1 : Int32) (x2 : Int32) (I : gI) : Option (Int64) :=
  gi ((fX7_isHope x1) = 0)
 (some (-1 : Int64))
 (bd (fX7_hoped x1 I) (fun (u3 : Int64) => bd (fX7_allRows x1 I) (fun (u6 : Int64) => bd (fX7_partOfAll u3 u6 x2) (fun (u9 : Int64) => some u9))))
set_option maxHeartbeats 4000000 in
set_option maxRecDepth 100000 in
theorem kX7_hope {l : Launch} {G : gG} {ad : Nat → Nat} (hok : gInj LM ad)    (x1 : Int32) (x2 : Int32) (I : gI) (J : gJ) (r : Int64) (h : fX7_hope x1 x2 I = some r) : gMl l yX7_hope cX7_hope 3 (some .long) 5 G LM ad [.ref (ad 0), .int x1, .int x2] I J r I J := by
  refine gMl_of (lst := [(0, .ref (ad 0)), (1, .int x1), (2, .int x2)]) (by decide) hok (Nat.le_of_ble_eq_true rfl) rfl ?_
  intro p e s m args below meth c Q ls K hW hl hfin
  have hn : (some r : Option (Int64)) ≠ none := Option.some_ne_none _
  have hx := K.1; have hb := K.2.1; have hown := K.2.2.2.1; have hts := K.2.2.2.2.1
  unfold fX7_hope at h
  refine lv_iload_n hx hb dX7_hope_0 rfl (lv_at hl 1 rfl) ?_
  refine g_callSi (rest := []) K hW hl (kX7_isHope (l := l) (G := G) (ad := ad) hok x1 I J (fX7_isHope x1) rfl) q_1625 q_1626 q_139 q_1627 nm_X7_isHope ⟨Nat.le_of_ble_eq_true rfl, Nat.le_of_ble_eq_true rfl⟩ rfl rfl (Nat.le_of_ble_eq_true rfl) ⟨Nat.zero_le _, Nat.zero_le _⟩ dX7_hope_1 (fun z1 H locs hW => ?_)
  refine lv_if_eq (tgt := 24) hx hb dX7_hope_4 (by decide) (fun c2 => ?_) (fun c2 => ?_)
  · replace h := gi_t h c2
    refine lv_ldc2 (v := (-1 : Int64)) hx hb hown (hts _ q_1570) dX7_hope_24 ?_
    obtain a1 := so1 h
    exact g_nml a1 (hfin _ _ _ _ hW dX7_hope_27)
  · replace h := gi_f h c2
    refine lv_aload_n hx hb dX7_hope_7 rfl (lv_at hl 0 rfl) ?_
    refine lv_iload_n hx hb dX7_hope_8 rfl (lv_at hl 1 rfl) ?_
    obtain ⟨u3, e4, h⟩ := bd_o h hn
    refine g_callVl (rest := []) K hW hl (kX7_hoped (l := l) (G := G) (ad := ad) hok x1 I J u3 e4) kLM_0 rfl (gG_V q_1628 q_1630 q_113 q_139 q_1631) nm_X7_hoped ⟨Nat.le_of_ble_eq_true rfl, Nat.le_of_ble_eq_true rfl⟩ rfl rfl (Nat.le_of_ble_eq_true rfl) ⟨Nat.zero_le _, Nat.zero_le _⟩ dX7_hope_9 (fun H locs hW => ?_)
    refine lv_aload_n hx hb dX7_hope_12 rfl (lv_at hl 0 rfl) ?_
    refine lv_iload_n hx hb dX7_hope_13 rfl (lv_at hl 1 rfl) ?_
    obtain ⟨u6, e7, h⟩ := bd_o h hn
    refine g_callVl (rest := [.long u3]) K hW hl (kX7_allRows (l := l) (G := G) (ad := ad) hok x1 I J u6 e7) kLM_0 rfl (gG_V q_1632 q_1634 q_114 q_139 q_1635) nm_X7_allRows ⟨Nat.le_of_ble_eq_true rfl, Nat.le_of_ble_eq_true rfl⟩ rfl rfl (Nat.le_of_ble_eq_true rfl) ⟨Nat.zero_le _, Nat.zero_le _⟩ dX7_hope_14 (fun H locs hW => ?_)
    refine lv_iload_n hx hb dX7_hope_17 rfl (lv_at hl 2 rfl) ?_
    obtain ⟨u9, e10, h⟩ := bd_o h hn
    refine g_callSl (rest := []) K hW hl (kX7_partOfAll (l := l) (G := G) (ad := ad) hok u3 u6 x2 I J u9 e10) q_1571 q_1572 q_139 q_1573 nm_X7_partOfAll ⟨Nat.le_of_ble_eq_true rfl, Nat.le_of_ble_eq_true rfl⟩ rfl rfl (Nat.le_of_ble_eq_true rfl) ⟨Nat.zero_le _, Nat.zero_le _⟩ dX7_hope_18 (fun H locs hW => ?_)
    refine lv_goto (tgt := 27) hx hb dX7_hope_21 (by decide) ?_
    obtain a1 := so1 h
    exact g_nml a1 (hfin _ _ _ _ hW dX7_hope_27)
noncomputable def fX7_keep  (x1 : Int32) (I : gI) : Option (Int32) :=
  gi ((fX7_isHope x1) = 0)
 (some (0 : Int32))
 (bd (fX7_hoped x1 I) (fun (u3 : Int64) => bd (fX7_allRows x1 I) (fun (u6 : Int64) => gd (vp_in ((34 : Int32) + (I 1 9)) 1592) (gi ((lg_cmp u3 (u6 * ((I 1 (((34 : Int32) + (I 1 9))).toNatClampNeg)).toInt64)) ≤ 0)
 (some (0 : Int32))
 (some (1 : Int32))))))
set_option maxHeartbeats 4000000 in
set_option maxRecDepth 100000 in
theorem kX7_keep {l : Launch} {G : gG} {ad : Nat → Nat} (hok : gInj LM ad)    (x1 : Int32) (I : gI) (J : gJ) (r : Int32) (h : fX7_keep x1 I = some r) : gMi l yX7_keep cX7_keep 2 (some .boolean) 5 G LM ad [.ref (ad 0), .int x1] I J r (r = 0 ∨ r = 1) I J := by
  refine gMz_of (lst := [(0, .ref (ad 0)), (1, .int x1)]) (by decide) hok (Nat.le_of_ble_eq_true rfl) rfl ?_
  intro p e s m args below meth c Q ls K hW hl hfin
  have hn : (some r : Option (Int32)) ≠ none := Option.some_ne_none _
  have hx := K.1; have hb := K.2.1; have hown := K.2.2.2.1; have hts := K.2.2.2.2.1
  unfold fX7_keep at h
  refine lv_iload_n hx hb dX7_keep_0 rfl (lv_at hl 1 rfl) ?_
  refine g_callSi (rest := []) K hW hl (kX7_isHope (l := l) (G := G) (ad := ad) hok x1 I J (fX7_isHope x1) rfl) q_1625 q_1626 q_139 q_1627 nm_X7_isHope ⟨Nat.le_of_ble_eq_true rfl, Nat.le_of_ble_eq_true rfl⟩ rfl rfl (Nat.le_of_ble_eq_true rfl) ⟨Nat.zero_le _, Nat.zero_le _⟩ dX7_keep_1 (fun z1 H locs hW => ?_)
  refine lv_if_eq (tgt := 42) hx hb dX7_keep_4 (by decide) (fun c2 => ?_) (fun c2 => ?_)
  · replace h := gi_t h c2
    refine lv_iconst (v := (0 : Int32)) hx hb dX7_keep_42 (by decide) ?_
    obtain a1 := so1 h
    exact g_nmi a1 (hfin _ _ _ _ (a1 ▸ (Or.inl rfl)) hW dX7_keep_43)
  · replace h := gi_f h c2
    refine lv_aload_n hx hb dX7_keep_7 rfl (lv_at hl 0 rfl) ?_
    refine lv_iload_n hx hb dX7_keep_8 rfl (lv_at hl 1 rfl) ?_
    obtain ⟨u3, e4, h⟩ := bd_o h hn
    refine g_callVl (rest := []) K hW hl (kX7_hoped (l := l) (G := G) (ad := ad) hok x1 I J u3 e4) kLM_0 rfl (gG_V q_1628 q_1630 q_113 q_139 q_1631) nm_X7_hoped ⟨Nat.le_of_ble_eq_true rfl, Nat.le_of_ble_eq_true rfl⟩ rfl rfl (Nat.le_of_ble_eq_true rfl) ⟨Nat.zero_le _, Nat.zero_le _⟩ dX7_keep_9 (fun H locs hW => ?_)
    refine lv_aload_n hx hb dX7_keep_12 rfl (lv_at hl 0 rfl) ?_
    refine lv_iload_n hx hb dX7_keep_13 rfl (lv_at hl 1 rfl) ?_
    obtain ⟨u6, e7, h⟩ := bd_o h hn
    refine g_callVl (rest := [.long u3]) K hW hl (kX7_allRows (l := l) (G := G) (ad := ad) hok x1 I J u6 e7) kLM_0 rfl (gG_V q_1632 q_1634 q_114 q_139 q_1635) nm_X7_allRows ⟨Nat.le_of_ble_eq_true rfl, Nat.le_of_ble_eq_true rfl⟩ rfl rfl (Nat.le_of_ble_eq_true rfl) ⟨Nat.zero_le _, Nat.zero_le _⟩ dX7_keep_14 (fun H locs hW => ?_)
    refine lv_aload_n hx hb dX7_keep_17 rfl (lv_at hl 0 rfl) ?_
    refine g_get K hW (t := 2) (ci := 6) (k := 0) (v := .ref (ad 1)) kLM_0 rfl rfl i_X7 (by decide) q_1077 rfl (gfv2 rLM_0_0) dX7_keep_18 ?_
    refine lv_bipush (v := (34 : Int32)) hx hb dX7_keep_21 (by decide) ?_
    refine lv_aload_n hx hb dX7_keep_23 rfl (lv_at hl 0 rfl) ?_
    refine g_get K hW (t := 2) (ci := 6) (k := 0) (v := .ref (ad 1)) kLM_0 rfl rfl i_X7 (by decide) q_1077 rfl (gfv2 rLM_0_0) dX7_keep_24 ?_
    refine lv_bipush (v := (9 : Int32)) hx hb dX7_keep_27 (by decide) ?_
    refine g_iald K hW kLM_1 in_9_1592 tn_9 dX7_keep_29 ?_
    refine lv_iadd hx hb dX7_keep_30 ?_
    obtain ⟨g9, h⟩ := gd_o h hn
    refine g_iald K hW kLM_1 g9 rfl dX7_keep_31 ?_
    refine lv_i2l hx hb dX7_keep_32 rfl ?_
    refine lv_lmul hx hb dX7_keep_33 ?_
    refine W.lcmp hx hb dX7_keep_34 ?_
    refine lv_if_le (tgt := 42) hx hb dX7_keep_35 (by decide) (fun c10 => ?_) (fun c10 => ?_)
    · replace h := gi_t h c10
      refine lv_iconst (v := (0 : Int32)) hx hb dX7_keep_42 (by decide) ?_
      obtain a1 := so1 h
      exact g_nmi a1 (hfin _ _ _ _ (a1 ▸ (Or.inl rfl)) hW dX7_keep_43)
    · replace h := gi_f h c10
      refine lv_iconst (v := (1 : Int32)) hx hb dX7_keep_38 (by decide) ?_
      refine lv_goto (tgt := 43) hx hb dX7_keep_39 (by decide) ?_
      obtain a1 := so1 h
      exact g_nmi a1 (hfin _ _ _ _ (a1 ▸ (Or.inr rfl)) hW dX7_keep_43)
noncomputable def fX7_chance  (x1 : Int32) (x2 : Int32) (I : gI) : Option (Int64) :=
  gi ((fX7_isSort x1) = 0)
 (some (-1 : Int64))
 (bd (fX7_oddsOf x1 I) (fun (u3 : Int32) => bd (fX7_whole I) (fun (u6 : Int32) => bd (fX7_partOfAll (u3).toInt64 (u6).toInt64 x2) (fun (u9 : Int64) => some u9))))
set_option maxHeartbeats 4000000 in
set_option maxRecDepth 100000 in
theorem kX7_chance {l : Launch} {G : gG} {ad : Nat → Nat} (hok : gInj LM ad)    (x1 : Int32) (x2 : Int32) (I : gI) (J : gJ) (r : Int64) (h : fX7_chance x1 x2 I = some r) : gMl l yX7_chance cX7_chance 3 (some .long) 3 G LM ad [.ref (ad 0), .int x1, .int x2] I J r I J := by
  refine gMl_of (lst := [(0, .ref (ad 0)), (1, .int x1), (2, .int x2)]) (by decide) hok (Nat.le_of_ble_eq_true rfl) rfl ?_
  intro p e s m args below meth c Q ls K hW hl hfin
  have hn : (some r : Option (Int64)) ≠ none := Option.some_ne_none _
  have hx := K.1; have hb := K.2.1; have hown := K.2.2.2.1; have hts := K.2.2.2.2.1
  unfold fX7_chance at h
  refine lv_iload_n hx hb dX7_chance_0 rfl (lv_at hl 1 rfl) ?_
  refine g_callSi (rest := []) K hW hl (kX7_isSort (l := l) (G := G) (ad := ad) hok x1 I J (fX7_isSort x1) rfl) q_1168 q_1169 q_139 q_1170 nm_X7_isSort ⟨Nat.le_of_ble_eq_true rfl, Nat.le_of_ble_eq_true rfl⟩ rfl rfl (Nat.le_of_ble_eq_true rfl) ⟨Nat.zero_le _, Nat.zero_le _⟩ dX7_chance_1 (fun z1 H locs hW => ?_)
  refine lv_if_eq (tgt := 25) hx hb dX7_chance_4 (by decide) (fun c2 => ?_) (fun c2 => ?_)
  · replace h := gi_t h c2
    refine lv_ldc2 (v := (-1 : Int64)) hx hb hown (hts _ q_1570) dX7_chance_25 ?_
    obtain a1 := so1 h
    exact g_nml a1 (hfin _ _ _ _ hW dX7_chance_28)
  · replace h := gi_f h c2
    refine lv_aload_n hx hb dX7_chance_7 rfl (lv_at hl 0 rfl) ?_
    refine lv_iload_n hx hb dX7_chance_8 rfl (lv_at hl 1 rfl) ?_
    obtain ⟨u3, e4, h⟩ := bd_o h hn
    refine g_callVi (rest := []) K hW hl (kX7_oddsOf (l := l) (G := G) (ad := ad) hok x1 I J u3 e4) kLM_0 rfl (gG_V q_1640 q_1642 q_116 q_139 q_1643) nm_X7_oddsOf ⟨Nat.le_of_ble_eq_true rfl, Nat.le_of_ble_eq_true rfl⟩ rfl rfl (Nat.le_of_ble_eq_true rfl) ⟨Nat.zero_le _, Nat.zero_le _⟩ dX7_chance_9 (fun z5 H locs hW => ?_)
    refine lv_i2l hx hb dX7_chance_12 rfl ?_
    refine lv_aload_n hx hb dX7_chance_13 rfl (lv_at hl 0 rfl) ?_
    obtain ⟨u6, e7, h⟩ := bd_o h hn
    refine g_callVi (rest := [.long (u3).toInt64]) K hW hl (kX7_whole (l := l) (G := G) (ad := ad) hok I J u6 e7) kLM_0 rfl (gG_V q_1636 q_1638 q_115 q_139 q_1639) nm_X7_whole ⟨Nat.le_of_ble_eq_true rfl, Nat.le_of_ble_eq_true rfl⟩ rfl rfl (Nat.le_of_ble_eq_true rfl) ⟨Nat.zero_le _, Nat.zero_le _⟩ dX7_chance_14 (fun z8 H locs hW => ?_)
    refine lv_i2l hx hb dX7_chance_17 rfl ?_
    refine lv_iload_n hx hb dX7_chance_18 rfl (lv_at hl 2 rfl) ?_
    obtain ⟨u9, e10, h⟩ := bd_o h hn
    refine g_callSl (rest := []) K hW hl (kX7_partOfAll (l := l) (G := G) (ad := ad) hok (u3).toInt64 (u6).toInt64 x2 I J u9 e10) q_1571 q_1572 q_139 q_1573 nm_X7_partOfAll ⟨Nat.le_of_ble_eq_true rfl, Nat.le_of_ble_eq_true rfl⟩ rfl rfl (Nat.le_of_ble_eq_true rfl) ⟨Nat.zero_le _, Nat.zero_le _⟩ dX7_chance_19 (fun H locs hW => ?_)
    refine lv_goto (tgt := 28) hx hb dX7_chance_22 (by decide) ?_
    obtain a1 := so1 h
    exact g_nml a1 (hfin _ _ _ _ hW dX7_chance_28)
noncomputable def fX7_first_14b  (rec : Int32 → Int64 → Int32 → gI → Option ((Int32) ⊕ (Unit))) (u3 : Int32) (u4 : Int64) (u5 : Int32) (I : gI) : Option ((Int32) ⊕ (Unit)) :=
  gi ((10 : Int32) < u5)
 (some (Sum.inr ()))
 (bd (fX7_whole I) (fun (u8 : Int32) => bd (fX7_oddsOf u3 I) (fun (u11 : Int32) => lz ((u4 * ((u8 - u11)).toInt64)) (fun (u14 : Int64) => bd (fX7_allRows u5 I) (fun (u16 : Int64) => gi (0 < (lg_cmp ((2 : Int64) * u14) u16))
 (lz ((u5 + (1 : Int32))) (fun (u20 : Int32) => rec u3 u14 u20 I))
 (some (Sum.inl u5)))))))
noncomputable def fX7_first_14  : Nat → Int32 → Int64 → Int32 → gI → Option ((Int32) ⊕ (Unit))
  | 0 => fun _ _ _ _ => none
  | n + 1 => fX7_first_14b  (fX7_first_14  n)
set_option maxHeartbeats 4000000 in
set_option maxRecDepth 100000 in
theorem tX7_first_14 {l : Launch} {G : gG} {ad : Nat → Nat} {p : Program} {e : Env} {s : State} {m : MethodId} {args : Array Value} {below : List Frame} {meth : Method} {c : Code} {Q : State → Prop} (hok : gInj LM ad) (K : gCx G (gA LM ad) p s m args c cX7_first 5 RX7)  : ∀ (n : Nat) (u3 : Int32) (u4 : Int64) (u5 : Int32) (I : gI) (J : gJ) (out : Option ((Int32) ⊕ (Unit))), fX7_first_14  n u3 u4 u5 I = out → out ≠ none → ∀ (H : Heap) (locs : List Loc), gWd G LM ad (gA LM ad) s.heap I J H locs → ∀ (ls : Array Slot), lv_has ls 5 [(0, .ref (ad 0)), (1, .int u3), (2, .long u4), (4, .int u5)] → (∀ (y6 : Int32), some (Sum.inl y6) = out → ∀ (H : Heap) (locs : List Loc), gWd G LM ad (gA LM ad) s.heap I J H locs → ∀ (ls : Array Slot), lv_has ls 5 [(4, .int y6)] → W p l e (gRm 4) s m args below meth c H locs 0 0 Q (F0 m 50 ls [])) → (some (Sum.inr ()) = out → ∀ (H : Heap) (locs : List Loc), gWd G LM ad (gA LM ad) s.heap I J H locs → ∀ (ls : Array Slot), lv_has ls 5 [] → W p l e (gRm 4) s m args below meth c H locs 0 0 Q (F0 m 59 ls [])) → W p l e (gRm 4) s m args below meth c H locs 0 0 Q (F0 m 14 ls []) := by
  have hx := K.1; have hb := K.2.1; have hown := K.2.2.2.1; have hts := K.2.2.2.2.1
  intro n
  induction n with
  | zero => intro u3 u4 u5 I J out h hn; exact absurd h.symm hn
  | succ n ih =>
    intro u3 u4 u5 I J out h hn H locs hW ls hl hx1 hx2
    replace h : fX7_first_14b  (fX7_first_14  n) u3 u4 u5 I = out := h
    unfold fX7_first_14b at h
    refine lv_iload hx hb dX7_first_14 (lv_at hl 3 rfl) ?_
    refine lv_bipush (v := (10 : Int32)) hx hb dX7_first_16 (by decide) ?_
    refine lv_icmp_gt (tgt := 59) hx hb dX7_first_18 (by decide) (fun c7 => ?_) (fun c7 => ?_)
    · replace h := gi_t h c7
      exact hx2 h _ _ hW _ (lv_sub hl [] rfl)
    · replace h := gi_f h c7
      refine lv_lload_n hx hb dX7_first_21 rfl (lv_at hl 2 rfl) ?_
      refine lv_aload_n hx hb dX7_first_22 rfl (lv_at hl 0 rfl) ?_
      obtain ⟨u8, e9, h⟩ := bd_o h hn
      refine g_callVi (rest := [.long u4]) K hW hl (kX7_whole (l := l) (G := G) (ad := ad) hok I J u8 e9) kLM_0 rfl (gG_V q_1636 q_1638 q_115 q_139 q_1639) nm_X7_whole ⟨Nat.le_of_ble_eq_true rfl, Nat.le_of_ble_eq_true rfl⟩ rfl rfl (Nat.le_of_ble_eq_true rfl) ⟨Nat.zero_le _, Nat.zero_le _⟩ dX7_first_23 (fun z10 H locs hW => ?_)
      refine lv_aload_n hx hb dX7_first_26 rfl (lv_at hl 0 rfl) ?_
      refine lv_iload_n hx hb dX7_first_27 rfl (lv_at hl 1 rfl) ?_
      obtain ⟨u11, e12, h⟩ := bd_o h hn
      refine g_callVi (rest := [.int u8, .long u4]) K hW hl (kX7_oddsOf (l := l) (G := G) (ad := ad) hok u3 I J u11 e12) kLM_0 rfl (gG_V q_1640 q_1642 q_116 q_139 q_1643) nm_X7_oddsOf ⟨Nat.le_of_ble_eq_true rfl, Nat.le_of_ble_eq_true rfl⟩ rfl rfl (Nat.le_of_ble_eq_true rfl) ⟨Nat.zero_le _, Nat.zero_le _⟩ dX7_first_28 (fun z13 H locs hW => ?_)
      refine lv_isub hx hb dX7_first_31 ?_
      refine lv_i2l hx hb dX7_first_32 rfl ?_
      refine lv_lmul hx hb dX7_first_33 ?_
      obtain ⟨u14, e15, h⟩ := lz_o h
      refine g_nml e15 ?_
      refine lv_lstore_n (lv' := [(2, .long u14), (0, .ref (ad 0)), (1, .int u3), (4, .int u5)]) hx hb dX7_first_34 rfl hl (by decide) rfl (fun ls hl => ?_)
      refine lv_ldc2 (v := (2 : Int64)) hx hb hown (hts _ q_1656) dX7_first_35 ?_
      refine lv_lload_n hx hb dX7_first_38 rfl (lv_at hl 0 rfl) ?_
      refine lv_lmul hx hb dX7_first_39 ?_
      refine lv_aload_n hx hb dX7_first_40 rfl (lv_at hl 1 rfl) ?_
      refine lv_iload hx hb dX7_first_41 (lv_at hl 3 rfl) ?_
      obtain ⟨u16, e17, h⟩ := bd_o h hn
      refine g_callVl (rest := [.long ((2 : Int64) * u14)]) K hW hl (kX7_allRows (l := l) (G := G) (ad := ad) hok u5 I J u16 e17) kLM_0 rfl (gG_V q_1632 q_1634 q_114 q_139 q_1635) nm_X7_allRows ⟨Nat.le_of_ble_eq_true rfl, Nat.le_of_ble_eq_true rfl⟩ rfl rfl (Nat.le_of_ble_eq_true rfl) ⟨Nat.zero_le _, Nat.zero_le _⟩ dX7_first_43 (fun H locs hW => ?_)
      refine W.lcmp hx hb dX7_first_46 ?_
      refine lv_if_gt (tgt := 53) hx hb dX7_first_47 (by decide) (fun c19 => ?_) (fun c19 => ?_)
      · replace h := gi_t h c19
        obtain ⟨u20, e21, h⟩ := lz_o h
        refine lv_iinc (v := u20) (lv' := [(4, .int u20), (2, .long u14), (0, .ref (ad 0)), (1, .int u3)]) hx hb dX7_first_53 hl (k := 3) rfl (by rw [e21]; rfl) (by decide) rfl (fun ls hl => ?_)
        refine lv_goto (tgt := 14) hx hb dX7_first_56 (by decide) ?_
        exact ih u3 u14 u20 I J _ h hn _ _ hW _ (lv_sub hl [2, 3, 1, 0] rfl) hx1 hx2
      · replace h := gi_f h c19
        exact hx1 u5 h _ _ hW _ (lv_sub hl [3] rfl)
noncomputable def fX7_first  (x1 : Int32) (I : gI) : Option (Int32) :=
  gi ((fX7_isSort x1) = 0)
 (some (-1 : Int32))
 (bd (fX7_first_14 FU x1 (1 : Int64) (1 : Int32) I) (sm (fun (u24 : Int32) => some u24) (fun _ => some (-1 : Int32))))
set_option maxHeartbeats 4000000 in
set_option maxRecDepth 100000 in
theorem kX7_first {l : Launch} {G : gG} {ad : Nat → Nat} (hok : gInj LM ad)    (x1 : Int32) (I : gI) (J : gJ) (r : Int32) (h : fX7_first x1 I = some r) : gMi l yX7_first cX7_first 5 (some .int) 4 G LM ad [.ref (ad 0), .int x1] I J r True I J := by
  refine gMi_of (lst := [(0, .ref (ad 0)), (1, .int x1)]) (by decide) hok (Nat.le_of_ble_eq_true rfl) rfl ?_
  intro p e s m args below meth c Q ls K hW hl hfin
  have hn : (some r : Option (Int32)) ≠ none := Option.some_ne_none _
  have hx := K.1; have hb := K.2.1; have hown := K.2.2.2.1; have hts := K.2.2.2.2.1
  unfold fX7_first at h
  refine lv_iload_n hx hb dX7_first_0 rfl (lv_at hl 1 rfl) ?_
  refine g_callSi (rest := []) K hW hl (kX7_isSort (l := l) (G := G) (ad := ad) hok x1 I J (fX7_isSort x1) rfl) q_1168 q_1169 q_139 q_1170 nm_X7_isSort ⟨Nat.le_of_ble_eq_true rfl, Nat.le_of_ble_eq_true rfl⟩ rfl rfl (Nat.le_of_ble_eq_true rfl) ⟨Nat.zero_le _, Nat.zero_le _⟩ dX7_first_1 (fun z1 H locs hW => ?_)
  refine lv_if_ne (tgt := 9) hx hb dX7_first_4 (by decide) (fun c2 => ?_) (fun c2 => ?_)
  · replace h := gi_f h c2
    refine lv_lconst (v := (1 : Int64)) hx hb dX7_first_9 rfl ?_
    refine lv_lstore_n (lv' := [(2, .long (1 : Int64)), (0, .ref (ad 0)), (1, .int x1)]) hx hb dX7_first_10 rfl hl (by decide) rfl (fun ls hl => ?_)
    refine lv_iconst (v := (1 : Int32)) hx hb dX7_first_11 (by decide) ?_
    refine lv_istore (lv' := [(4, .int (1 : Int32)), (2, .long (1 : Int64)), (0, .ref (ad 0)), (1, .int x1)]) hx hb dX7_first_12 hl (by decide) rfl (fun ls hl => ?_)
    obtain ⟨r22, e23, h⟩ := bd_o h hn
    refine tX7_first_14 hok K FU x1 (1 : Int64) (1 : Int32) I J (some r22) e23 (Option.some_ne_none _) _ _ hW _ (lv_sub hl [2, 3, 1, 0] rfl) ?_ ?_
    · intro u24 q25 H locs hW ls hl
      replace q25 := Option.some.inj q25
      subst q25
      replace h := sm_l h
      refine lv_iload hx hb dX7_first_50 (lv_at hl 0 rfl) ?_
      obtain a1 := so1 h
      exact g_nmi a1 (hfin _ _ _ _ hW dX7_first_52)
    · intro q26 H locs hW ls hl
      replace q26 := Option.some.inj q26
      subst q26
      replace h := sm_r h
      refine lv_iconst (v := (-1 : Int32)) hx hb dX7_first_59 (by decide) ?_
      obtain a1 := so1 h
      exact g_nmi a1 (hfin _ _ _ _ hW dX7_first_60)
  · replace h := gi_t h c2
    refine lv_iconst (v := (-1 : Int32)) hx hb dX7_first_7 (by decide) ?_
    obtain a1 := so1 h
    exact g_nmi a1 (hfin _ _ _ _ hW dX7_first_8)
theorem in_4_1592 : vp_in (4 : Int32) 1592 := in_c (by decide +kernel) (by decide +kernel)
noncomputable def fX7_paid_7b  (rec : Int32 → gI → Option ((gI))) (u15 : Int32) (I : gI) : Option ((gI)) :=
  gi ((6 : Int32) ≤ u15)
 (some I)
 (gd (vp_in ((63 : Int32) + u15) 1592) (lz (wI I 1 (((63 : Int32) + u15)).toNatClampNeg (0 : Int32)) (fun (I20 : gI) => lz ((u15 + (1 : Int32))) (fun (u21 : Int32) => rec u21 I20))))
noncomputable def fX7_paid_7  : Nat → Int32 → gI → Option ((gI))
  | 0 => fun _ _ => none
  | n + 1 => fX7_paid_7b  (fX7_paid_7  n)
set_option maxHeartbeats 4000000 in
set_option maxRecDepth 100000 in
theorem tX7_paid_7 {l : Launch} {G : gG} {ad : Nat → Nat} {p : Program} {e : Env} {s : State} {m : MethodId} {args : Array Value} {below : List Frame} {meth : Method} {c : Code} {Q : State → Prop} (hok : gInj LM ad) (K : gCx G (gA LM ad) p s m args c cX7_paid 4 RX7)  : ∀ (n : Nat) (u15 : Int32) (I : gI) (J : gJ) (out : Option ((gI))), fX7_paid_7  n u15 I = out → out ≠ none → ∀ (H : Heap) (locs : List Loc), gWd G LM ad (gA LM ad) s.heap I J H locs → ∀ (ls : Array Slot), lv_has ls 4 [(0, .ref (ad 0)), (3, .int u15)] → (∀ (I16 : gI), some I16 = out → ∀ (H : Heap) (locs : List Loc), gWd G LM ad (gA LM ad) s.heap I16 J H locs → ∀ (ls : Array Slot), lv_has ls 4 [(0, .ref (ad 0))] → W p l e (gRm 3) s m args below meth c H locs 0 0 Q (F0 m 29 ls [])) → W p l e (gRm 3) s m args below meth c H locs 0 0 Q (F0 m 7 ls []) := by
  have hx := K.1; have hb := K.2.1; have hown := K.2.2.2.1; have hts := K.2.2.2.2.1
  intro n
  induction n with
  | zero => intro u15 I J out h hn; exact absurd h.symm hn
  | succ n ih =>
    intro u15 I J out h hn H locs hW ls hl hx1
    replace h : fX7_paid_7b  (fX7_paid_7  n) u15 I = out := h
    unfold fX7_paid_7b at h
    refine lv_iload_n hx hb dX7_paid_7 rfl (lv_at hl 1 rfl) ?_
    refine lv_bipush (v := (6 : Int32)) hx hb dX7_paid_8 (by decide) ?_
    refine lv_icmp_ge (tgt := 29) hx hb dX7_paid_10 (by decide) (fun c17 => ?_) (fun c17 => ?_)
    · replace h := gi_t h c17
      exact hx1 I h _ _ hW _ (lv_sub hl [0] rfl)
    · replace h := gi_f h c17
      refine lv_aload_n hx hb dX7_paid_13 rfl (lv_at hl 0 rfl) ?_
      refine g_get K hW (t := 2) (ci := 6) (k := 0) (v := .ref (ad 1)) kLM_0 rfl rfl i_X7 (by decide) q_1077 rfl (gfv2 rLM_0_0) dX7_paid_14 ?_
      refine lv_bipush (v := (63 : Int32)) hx hb dX7_paid_17 (by decide) ?_
      refine lv_iload_n hx hb dX7_paid_19 rfl (lv_at hl 1 rfl) ?_
      refine lv_iadd hx hb dX7_paid_20 ?_
      refine lv_iconst (v := (0 : Int32)) hx hb dX7_paid_21 (by decide) ?_
      obtain ⟨g18, h⟩ := gd_o h hn
      refine g_iast K hW kLM_1 g18 rfl dX7_paid_22 (fun H locs hW => ?_)
      obtain ⟨I20, e19, h⟩ := lz_o h
      replace hW := gWd_nI e19 hW
      obtain ⟨u21, e22, h⟩ := lz_o h
      refine lv_iinc (v := u21) (lv' := [(3, .int u21), (0, .ref (ad 0))]) hx hb dX7_paid_23 hl (k := 1) rfl (by rw [e22]; rfl) (by decide) rfl (fun ls hl => ?_)
      refine lv_goto (tgt := 7) hx hb dX7_paid_26 (by decide) ?_
      exact ih u21 I20 J _ h hn _ _ hW _ (lv_sub hl [1, 0] rfl) hx1
noncomputable def fX7_paid  (x1 : Int32) (x2 : Int32) (I : gI) : Option (Int32 × gI) :=
  gi (x1 = (-1 : Int32))
 (bd (fX7_paid_7 FU (0 : Int32) I) (fun (I25 : gI) => lz (wI I25 1 4 (0 : Int32)) (fun (I28 : gI) => some ((0 : Int32), I28))))
 (gi ((fX7_isBuyer x1 I) = 0)
 (some ((-2 : Int32), I))
 (gd (vp_in ((63 : Int32) + x1) 1592) (gi ((I 1 (((63 : Int32) + x1)).toNatClampNeg) = 0)
 (lz (fun (u6 : Int32) => lz (wI I 1 (((63 : Int32) + x1)).toNatClampNeg u6) (fun (I11 : gI) => lz (wI I11 1 4 ((I11 1 4) + (1 : Int32))) (fun (I13 : gI) => some ((I13 1 4), I13)))) (fun j7 => gi (x2 = 0)
 (j7 (2 : Int32))
 (j7 (1 : Int32))))
 (some ((-2 : Int32), I)))))
set_option maxHeartbeats 4000000 in
set_option maxRecDepth 100000 in
theorem kX7_paid {l : Launch} {G : gG} {ad : Nat → Nat} (hok : gInj LM ad)    (x1 : Int32) (x2 : Int32) (I : gI) (J : gJ) (r : Int32) (I' : gI) (h : fX7_paid x1 x2 I = some (r, I')) : gMi l yX7_paid cX7_paid 4 (some .int) 3 G LM ad [.ref (ad 0), .int x1, .int x2] I J r True I' J := by
  refine gMi_of (lst := [(0, .ref (ad 0)), (1, .int x1), (2, .int x2)]) (by decide) hok (Nat.le_of_ble_eq_true rfl) rfl ?_
  intro p e s m args below meth c Q ls K hW hl hfin
  have hn : (some (r, I') : Option (Int32 × gI)) ≠ none := Option.some_ne_none _
  have hx := K.1; have hb := K.2.1; have hown := K.2.2.2.1; have hts := K.2.2.2.2.1
  unfold fX7_paid at h
  refine lv_iload_n hx hb dX7_paid_0 rfl (lv_at hl 1 rfl) ?_
  refine lv_iconst (v := (-1 : Int32)) hx hb dX7_paid_1 (by decide) ?_
  refine lv_icmp_ne (tgt := 38) hx hb dX7_paid_2 (by decide) (fun c1 => ?_) (fun c1 => ?_)
  · replace h := gi_f h c1
    refine lv_aload_n hx hb dX7_paid_38 rfl (lv_at hl 0 rfl) ?_
    refine lv_iload_n hx hb dX7_paid_39 rfl (lv_at hl 1 rfl) ?_
    refine g_callVi (rest := []) K hW hl (kX7_isBuyer (l := l) (G := G) (ad := ad) hok x1 I J (fX7_isBuyer x1 I) rfl) kLM_0 rfl (gG_V q_1350 q_1352 q_80 q_139 q_1353) nm_X7_isBuyer ⟨Nat.le_of_ble_eq_true rfl, Nat.le_of_ble_eq_true rfl⟩ rfl rfl (Nat.le_of_ble_eq_true rfl) ⟨Nat.zero_le _, Nat.zero_le _⟩ dX7_paid_40 (fun z2 H locs hW => ?_)
    refine lv_if_eq (tgt := 58) hx hb dX7_paid_43 (by decide) (fun c3 => ?_) (fun c3 => ?_)
    · replace h := gi_t h c3
      refine lv_bipush (v := (-2 : Int32)) hx hb dX7_paid_58 (by decide) ?_
      obtain ⟨a1, a2⟩ := so2 h
      replace hW := gWd_nI a2 hW
      exact g_nmi a1 (hfin _ _ _ _ hW dX7_paid_60)
    · replace h := gi_f h c3
      refine lv_aload_n hx hb dX7_paid_46 rfl (lv_at hl 0 rfl) ?_
      refine g_get K hW (t := 2) (ci := 6) (k := 0) (v := .ref (ad 1)) kLM_0 rfl rfl i_X7 (by decide) q_1077 rfl (gfv2 rLM_0_0) dX7_paid_47 ?_
      refine lv_bipush (v := (63 : Int32)) hx hb dX7_paid_50 (by decide) ?_
      refine lv_iload_n hx hb dX7_paid_52 rfl (lv_at hl 1 rfl) ?_
      refine lv_iadd hx hb dX7_paid_53 ?_
      obtain ⟨g4, h⟩ := gd_o h hn
      refine g_iald K hW kLM_1 g4 rfl dX7_paid_54 ?_
      refine lv_if_eq (tgt := 61) hx hb dX7_paid_55 (by decide) (fun c5 => ?_) (fun c5 => ?_)
      · replace h := gi_t h c5
        refine lv_aload_n hx hb dX7_paid_61 rfl (lv_at hl 0 rfl) ?_
        refine g_get K hW (t := 2) (ci := 6) (k := 0) (v := .ref (ad 1)) kLM_0 rfl rfl i_X7 (by decide) q_1077 rfl (gfv2 rLM_0_0) dX7_paid_62 ?_
        refine lv_bipush (v := (63 : Int32)) hx hb dX7_paid_65 (by decide) ?_
        refine lv_iload_n hx hb dX7_paid_67 rfl (lv_at hl 1 rfl) ?_
        refine lv_iadd hx hb dX7_paid_68 ?_
        refine lv_iload_n hx hb dX7_paid_69 rfl (lv_at hl 2 rfl) ?_
        obtain ⟨j7, e8, h⟩ := lz_o h
        have hj9 : ∀ (u6 : Int32), j7 u6 = (some (r, I')) → ∀ (H : Heap) (locs : List Loc), gWd G LM ad (gA LM ad) s.heap I J H locs → ∀ (ls : Array Slot), lv_has ls 4 [(0, .ref (ad 0))] → W p l e (gRm 3) s m args below meth c H locs 0 0 Q (F0 m 78 ls [.int u6, .int ((63 : Int32) + x1), .ref (ad 1)]) := by
          intro u6 h H locs hW ls hl
          replace h := jn1 e8 h
          refine g_iast K hW kLM_1 g4 rfl dX7_paid_78 (fun H locs hW => ?_)
          obtain ⟨I11, e10, h⟩ := lz_o h
          replace hW := gWd_nI e10 hW
          refine lv_aload_n hx hb dX7_paid_79 rfl (lv_at hl 0 rfl) ?_
          refine g_get K hW (t := 2) (ci := 6) (k := 0) (v := .ref (ad 1)) kLM_0 rfl rfl i_X7 (by decide) q_1077 rfl (gfv2 rLM_0_0) dX7_paid_80 ?_
          refine lv_iconst (v := (4 : Int32)) hx hb dX7_paid_83 (by decide) ?_
          refine lv_dup2_11 hx hb dX7_paid_84 rfl rfl ?_
          refine g_iald K hW kLM_1 in_4_1592 tn_4 dX7_paid_85 ?_
          refine lv_iconst (v := (1 : Int32)) hx hb dX7_paid_86 (by decide) ?_
          refine lv_iadd hx hb dX7_paid_87 ?_
          refine g_iast K hW kLM_1 in_4_1592 tn_4 dX7_paid_88 (fun H locs hW => ?_)
          obtain ⟨I13, e12, h⟩ := lz_o h
          replace hW := gWd_nI e12 hW
          refine lv_aload_n hx hb dX7_paid_89 rfl (lv_at hl 0 rfl) ?_
          refine g_get K hW (t := 2) (ci := 6) (k := 0) (v := .ref (ad 1)) kLM_0 rfl rfl i_X7 (by decide) q_1077 rfl (gfv2 rLM_0_0) dX7_paid_90 ?_
          refine lv_iconst (v := (4 : Int32)) hx hb dX7_paid_93 (by decide) ?_
          refine g_iald K hW kLM_1 in_4_1592 tn_4 dX7_paid_94 ?_
          obtain ⟨a1, a2⟩ := so2 h
          replace hW := gWd_nI a2 hW
          exact g_nmi a1 (hfin _ _ _ _ hW dX7_paid_95)
        refine lv_if_eq (tgt := 77) hx hb dX7_paid_70 (by decide) (fun c14 => ?_) (fun c14 => ?_)
        · replace h := gi_t h c14
          refine lv_iconst (v := (2 : Int32)) hx hb dX7_paid_77 (by decide) ?_
          exact hj9 (2 : Int32) h _ _ hW _ (lv_sub hl [0] rfl)
        · replace h := gi_f h c14
          refine lv_iconst (v := (1 : Int32)) hx hb dX7_paid_73 (by decide) ?_
          refine lv_goto (tgt := 78) hx hb dX7_paid_74 (by decide) ?_
          exact hj9 (1 : Int32) h _ _ hW _ (lv_sub hl [0] rfl)
      · replace h := gi_f h c5
        refine lv_bipush (v := (-2 : Int32)) hx hb dX7_paid_58 (by decide) ?_
        obtain ⟨a1, a2⟩ := so2 h
        replace hW := gWd_nI a2 hW
        exact g_nmi a1 (hfin _ _ _ _ hW dX7_paid_60)
  · replace h := gi_t h c1
    refine lv_iconst (v := (0 : Int32)) hx hb dX7_paid_5 (by decide) ?_
    refine lv_istore_n (lv' := [(3, .int (0 : Int32)), (0, .ref (ad 0)), (1, .int x1), (2, .int x2)]) hx hb dX7_paid_6 rfl hl (by decide) rfl (fun ls hl => ?_)
    obtain ⟨r23, e24, h⟩ := bd_o h hn
    refine tX7_paid_7 hok K FU (0 : Int32) I J (some r23) e24 (Option.some_ne_none _) _ _ hW _ (lv_sub hl [1, 0] rfl) ?_
    · intro I25 q26 H locs hW ls hl
      replace q26 := Option.some.inj q26
      subst q26
      refine lv_aload_n hx hb dX7_paid_29 rfl (lv_at hl 0 rfl) ?_
      refine g_get K hW (t := 2) (ci := 6) (k := 0) (v := .ref (ad 1)) kLM_0 rfl rfl i_X7 (by decide) q_1077 rfl (gfv2 rLM_0_0) dX7_paid_30 ?_
      refine lv_iconst (v := (4 : Int32)) hx hb dX7_paid_33 (by decide) ?_
      refine lv_iconst (v := (0 : Int32)) hx hb dX7_paid_34 (by decide) ?_
      refine g_iast K hW kLM_1 in_4_1592 tn_4 dX7_paid_35 (fun H locs hW => ?_)
      obtain ⟨I28, e27, h⟩ := lz_o h
      replace hW := gWd_nI e27 hW
      refine lv_iconst (v := (0 : Int32)) hx hb dX7_paid_36 (by decide) ?_
      obtain ⟨a1, a2⟩ := so2 h
      replace hW := gWd_nI a2 hW
      exact g_nmi a1 (hfin _ _ _ _ hW dX7_paid_37)
noncomputable def fX7_doesFit_12b  (rec : Int32 → Int32 → gI → Option ((Unit) ⊕ (Unit))) (u5 : Int32) (u6 : Int32) (I : gI) : Option ((Unit) ⊕ (Unit)) :=
  gi ((I 1 0) ≤ u6)
 (some (Sum.inr ()))
 (gd (vp_in ((63 : Int32) + u6) 1592) (lz (lz ((u6 + (1 : Int32))) (fun (u12 : Int32) => rec u5 u12 I)) (fun j9 => gi ((I 1 (((63 : Int32) + u6)).toNatClampNeg) = 0)
 (j9)
 (bd (fX7_doesWant u6 u5 I) (fun (u15 : Int32) => lz (fun (u18 : Int32) => gi (u15 = u18)
 (j9)
 (some (Sum.inl ()))) (fun j19 => gi ((I 1 (((63 : Int32) + u6)).toNatClampNeg) = (1 : Int32))
 (j19 (1 : Int32))
 (j19 (0 : Int32))))))))
noncomputable def fX7_doesFit_12  : Nat → Int32 → Int32 → gI → Option ((Unit) ⊕ (Unit))
  | 0 => fun _ _ _ => none
  | n + 1 => fX7_doesFit_12b  (fX7_doesFit_12  n)
set_option maxHeartbeats 4000000 in
set_option maxRecDepth 100000 in
theorem tX7_doesFit_12 {l : Launch} {G : gG} {ad : Nat → Nat} {p : Program} {e : Env} {s : State} {m : MethodId} {args : Array Value} {below : List Frame} {meth : Method} {c : Code} {Q : State → Prop} (hok : gInj LM ad) (K : gCx G (gA LM ad) p s m args c cX7_doesFit 3 RX7)  : ∀ (n : Nat) (u5 : Int32) (u6 : Int32) (I : gI) (J : gJ) (out : Option ((Unit) ⊕ (Unit))), fX7_doesFit_12  n u5 u6 I = out → out ≠ none → ∀ (H : Heap) (locs : List Loc), gWd G LM ad (gA LM ad) s.heap I J H locs → ∀ (ls : Array Slot), lv_has ls 3 [(0, .ref (ad 0)), (1, .int u5), (2, .int u6)] → (some (Sum.inl ()) = out → ∀ (H : Heap) (locs : List Loc), gWd G LM ad (gA LM ad) s.heap I J H locs → ∀ (ls : Array Slot), lv_has ls 3 [] → W p l e (gRm 3) s m args below meth c H locs 0 0 Q (F0 m 61 ls [])) → (some (Sum.inr ()) = out → ∀ (H : Heap) (locs : List Loc), gWd G LM ad (gA LM ad) s.heap I J H locs → ∀ (ls : Array Slot), lv_has ls 3 [] → W p l e (gRm 3) s m args below meth c H locs 0 0 Q (F0 m 69 ls [])) → W p l e (gRm 3) s m args below meth c H locs 0 0 Q (F0 m 12 ls []) := by
  have hx := K.1; have hb := K.2.1; have hown := K.2.2.2.1; have hts := K.2.2.2.2.1
  intro n
  induction n with
  | zero => intro u5 u6 I J out h hn; exact absurd h.symm hn
  | succ n ih =>
    intro u5 u6 I J out h hn H locs hW ls hl hx1 hx2
    replace h : fX7_doesFit_12b  (fX7_doesFit_12  n) u5 u6 I = out := h
    unfold fX7_doesFit_12b at h
    refine lv_iload_n hx hb dX7_doesFit_12 rfl (lv_at hl 2 rfl) ?_
    refine lv_aload_n hx hb dX7_doesFit_13 rfl (lv_at hl 0 rfl) ?_
    refine g_get K hW (t := 2) (ci := 6) (k := 0) (v := .ref (ad 1)) kLM_0 rfl rfl i_X7 (by decide) q_1077 rfl (gfv2 rLM_0_0) dX7_doesFit_14 ?_
    refine lv_iconst (v := (0 : Int32)) hx hb dX7_doesFit_17 (by decide) ?_
    refine g_iald K hW kLM_1 in_0_1592 tn_0 dX7_doesFit_18 ?_
    refine lv_icmp_ge (tgt := 69) hx hb dX7_doesFit_19 (by decide) (fun c7 => ?_) (fun c7 => ?_)
    · replace h := gi_t h c7
      exact hx2 h _ _ hW _ (lv_sub hl [] rfl)
    · replace h := gi_f h c7
      refine lv_aload_n hx hb dX7_doesFit_22 rfl (lv_at hl 0 rfl) ?_
      refine g_get K hW (t := 2) (ci := 6) (k := 0) (v := .ref (ad 1)) kLM_0 rfl rfl i_X7 (by decide) q_1077 rfl (gfv2 rLM_0_0) dX7_doesFit_23 ?_
      refine lv_bipush (v := (63 : Int32)) hx hb dX7_doesFit_26 (by decide) ?_
      refine lv_iload_n hx hb dX7_doesFit_28 rfl (lv_at hl 2 rfl) ?_
      refine lv_iadd hx hb dX7_doesFit_29 ?_
      obtain ⟨g8, h⟩ := gd_o h hn
      refine g_iald K hW kLM_1 g8 rfl dX7_doesFit_30 ?_
      obtain ⟨j9, e10, h⟩ := lz_o h
      have hj11 : j9 = out → ∀ (H : Heap) (locs : List Loc), gWd G LM ad (gA LM ad) s.heap I J H locs → ∀ (ls : Array Slot), lv_has ls 3 [(0, .ref (ad 0)), (1, .int u5), (2, .int u6)] → W p l e (gRm 3) s m args below meth c H locs 0 0 Q (F0 m 63 ls []) := by
        intro h H locs hW ls hl
        replace h := jn0 e10 h
        obtain ⟨u12, e13, h⟩ := lz_o h
        refine lv_iinc (v := u12) (lv' := [(2, .int u12), (0, .ref (ad 0)), (1, .int u5)]) hx hb dX7_doesFit_63 hl (k := 2) rfl (by rw [e13]; rfl) (by decide) rfl (fun ls hl => ?_)
        refine lv_goto (tgt := 12) hx hb dX7_doesFit_66 (by decide) ?_
        exact ih u5 u12 I J _ h hn _ _ hW _ (lv_sub hl [1, 2, 0] rfl) hx1 hx2
      refine lv_if_eq (tgt := 63) hx hb dX7_doesFit_31 (by decide) (fun c14 => ?_) (fun c14 => ?_)
      · replace h := gi_t h c14
        exact hj11 h _ _ hW _ (lv_sub hl [0, 1, 2] rfl)
      · replace h := gi_f h c14
        refine lv_aload_n hx hb dX7_doesFit_34 rfl (lv_at hl 0 rfl) ?_
        refine lv_iload_n hx hb dX7_doesFit_35 rfl (lv_at hl 2 rfl) ?_
        refine lv_iload_n hx hb dX7_doesFit_36 rfl (lv_at hl 1 rfl) ?_
        obtain ⟨u15, e16, h⟩ := bd_o h hn
        refine g_callVi (rest := []) K hW hl (kX7_doesWant (l := l) (G := G) (ad := ad) hok u6 u5 I J u15 e16) kLM_0 rfl (gG_V q_1354 q_1356 q_81 q_139 q_1357) nm_X7_doesWant ⟨Nat.le_of_ble_eq_true rfl, Nat.le_of_ble_eq_true rfl⟩ rfl rfl (Nat.le_of_ble_eq_true rfl) ⟨Nat.zero_le _, Nat.zero_le _⟩ dX7_doesFit_37 (fun z17 H locs hW => ?_)
        refine lv_aload_n hx hb dX7_doesFit_40 rfl (lv_at hl 0 rfl) ?_
        refine g_get K hW (t := 2) (ci := 6) (k := 0) (v := .ref (ad 1)) kLM_0 rfl rfl i_X7 (by decide) q_1077 rfl (gfv2 rLM_0_0) dX7_doesFit_41 ?_
        refine lv_bipush (v := (63 : Int32)) hx hb dX7_doesFit_44 (by decide) ?_
        refine lv_iload_n hx hb dX7_doesFit_46 rfl (lv_at hl 2 rfl) ?_
        refine lv_iadd hx hb dX7_doesFit_47 ?_
        refine g_iald K hW kLM_1 g8 rfl dX7_doesFit_48 ?_
        refine lv_iconst (v := (1 : Int32)) hx hb dX7_doesFit_49 (by decide) ?_
        obtain ⟨j19, e20, h⟩ := lz_o h
        have hj21 : ∀ (u18 : Int32), j19 u18 = out → ∀ (H : Heap) (locs : List Loc), gWd G LM ad (gA LM ad) s.heap I J H locs → ∀ (ls : Array Slot), lv_has ls 3 [(0, .ref (ad 0)), (1, .int u5), (2, .int u6)] → W p l e (gRm 3) s m args below meth c H locs 0 0 Q (F0 m 58 ls [.int u18, .int u15]) := by
          intro u18 h H locs hW ls hl
          replace h := jn1 e20 h
          refine lv_icmp_eq (tgt := 63) hx hb dX7_doesFit_58 (by decide) (fun c22 => ?_) (fun c22 => ?_)
          · replace h := gi_t h c22
            exact hj11 h _ _ hW _ (lv_sub hl [0, 1, 2] rfl)
          · replace h := gi_f h c22
            exact hx1 h _ _ hW _ (lv_sub hl [] rfl)
        refine lv_icmp_ne (tgt := 57) hx hb dX7_doesFit_50 (by decide) (fun c23 => ?_) (fun c23 => ?_)
        · replace h := gi_f h c23
          refine lv_iconst (v := (0 : Int32)) hx hb dX7_doesFit_57 (by decide) ?_
          exact hj21 (0 : Int32) h _ _ hW _ (lv_sub hl [0, 1, 2] rfl)
        · replace h := gi_t h c23
          refine lv_iconst (v := (1 : Int32)) hx hb dX7_doesFit_53 (by decide) ?_
          refine lv_goto (tgt := 58) hx hb dX7_doesFit_54 (by decide) ?_
          exact hj21 (1 : Int32) h _ _ hW _ (lv_sub hl [0, 1, 2] rfl)
noncomputable def fX7_doesFit  (x1 : Int32) (I : gI) : Option (Int32) :=
  bd (fX7_oddsOf x1 I) (fun (u1 : Int32) => gi (u1 = 0)
 (some (0 : Int32))
 (bd (fX7_doesFit_12 FU x1 (0 : Int32) I) (sm (fun _ => some (0 : Int32)) (fun _ => some (1 : Int32)))))
set_option maxHeartbeats 4000000 in
set_option maxRecDepth 100000 in
theorem kX7_doesFit {l : Launch} {G : gG} {ad : Nat → Nat} (hok : gInj LM ad)    (x1 : Int32) (I : gI) (J : gJ) (r : Int32) (h : fX7_doesFit x1 I = some r) : gMi l yX7_doesFit cX7_doesFit 3 (some .boolean) 3 G LM ad [.ref (ad 0), .int x1] I J r (r = 0 ∨ r = 1) I J := by
  refine gMz_of (lst := [(0, .ref (ad 0)), (1, .int x1)]) (by decide) hok (Nat.le_of_ble_eq_true rfl) rfl ?_
  intro p e s m args below meth c Q ls K hW hl hfin
  have hn : (some r : Option (Int32)) ≠ none := Option.some_ne_none _
  have hx := K.1; have hb := K.2.1; have hown := K.2.2.2.1; have hts := K.2.2.2.2.1
  unfold fX7_doesFit at h
  refine lv_aload_n hx hb dX7_doesFit_0 rfl (lv_at hl 0 rfl) ?_
  refine lv_iload_n hx hb dX7_doesFit_1 rfl (lv_at hl 1 rfl) ?_
  obtain ⟨u1, e2, h⟩ := bd_o h hn
  refine g_callVi (rest := []) K hW hl (kX7_oddsOf (l := l) (G := G) (ad := ad) hok x1 I J u1 e2) kLM_0 rfl (gG_V q_1640 q_1642 q_116 q_139 q_1643) nm_X7_oddsOf ⟨Nat.le_of_ble_eq_true rfl, Nat.le_of_ble_eq_true rfl⟩ rfl rfl (Nat.le_of_ble_eq_true rfl) ⟨Nat.zero_le _, Nat.zero_le _⟩ dX7_doesFit_2 (fun z3 H locs hW => ?_)
  refine lv_if_ne (tgt := 10) hx hb dX7_doesFit_5 (by decide) (fun c4 => ?_) (fun c4 => ?_)
  · replace h := gi_f h c4
    refine lv_iconst (v := (0 : Int32)) hx hb dX7_doesFit_10 (by decide) ?_
    refine lv_istore_n (lv' := [(2, .int (0 : Int32)), (0, .ref (ad 0)), (1, .int x1)]) hx hb dX7_doesFit_11 rfl hl (by decide) rfl (fun ls hl => ?_)
    obtain ⟨r24, e25, h⟩ := bd_o h hn
    refine tX7_doesFit_12 hok K FU x1 (0 : Int32) I J (some r24) e25 (Option.some_ne_none _) _ _ hW _ (lv_sub hl [1, 2, 0] rfl) ?_ ?_
    · intro q26 H locs hW ls hl
      replace q26 := Option.some.inj q26
      subst q26
      replace h := sm_l h
      refine lv_iconst (v := (0 : Int32)) hx hb dX7_doesFit_61 (by decide) ?_
      obtain a1 := so1 h
      exact g_nmi a1 (hfin _ _ _ _ (a1 ▸ (Or.inl rfl)) hW dX7_doesFit_62)
    · intro q27 H locs hW ls hl
      replace q27 := Option.some.inj q27
      subst q27
      replace h := sm_r h
      refine lv_iconst (v := (1 : Int32)) hx hb dX7_doesFit_69 (by decide) ?_
      obtain a1 := so1 h
      exact g_nmi a1 (hfin _ _ _ _ (a1 ▸ (Or.inr rfl)) hW dX7_doesFit_70)
  · replace h := gi_t h c4
    refine lv_iconst (v := (0 : Int32)) hx hb dX7_doesFit_8 (by decide) ?_
    obtain a1 := so1 h
    exact g_nmi a1 (hfin _ _ _ _ (a1 ▸ (Or.inl rfl)) hW dX7_doesFit_9)
theorem nm_X7_doesFit : gNm yX7_doesFit 1 := by decide +kernel
noncomputable def fX7_fitting_4b  (rec : Int32 → Int32 → gI → Option ((Int32))) (u1 : Int32) (u2 : Int32) (I : gI) : Option ((Int32)) :=
  gi ((5 : Int32) ≤ u2)
 (some u1)
 (bd (fX7_doesFit u2 I) (fun (u5 : Int32) => lz (fun (u8 : Int32) => lz ((u1 ||| u8)) (fun (u12 : Int32) => lz ((u2 + (1 : Int32))) (fun (u14 : Int32) => rec u12 u14 I))) (fun j9 => gi (u5 = 0)
 (j9 (0 : Int32))
 (j9 (jshl (1 : Int32) u2)))))
noncomputable def fX7_fitting_4  : Nat → Int32 → Int32 → gI → Option ((Int32))
  | 0 => fun _ _ _ => none
  | n + 1 => fX7_fitting_4b  (fX7_fitting_4  n)
set_option maxHeartbeats 4000000 in
set_option maxRecDepth 100000 in
theorem tX7_fitting_4 {l : Launch} {G : gG} {ad : Nat → Nat} {p : Program} {e : Env} {s : State} {m : MethodId} {args : Array Value} {below : List Frame} {meth : Method} {c : Code} {Q : State → Prop} (hok : gInj LM ad) (K : gCx G (gA LM ad) p s m args c cX7_fitting 3 RX7)  : ∀ (n : Nat) (u1 : Int32) (u2 : Int32) (I : gI) (J : gJ) (out : Option ((Int32))), fX7_fitting_4  n u1 u2 I = out → out ≠ none → ∀ (H : Heap) (locs : List Loc), gWd G LM ad (gA LM ad) s.heap I J H locs → ∀ (ls : Array Slot), lv_has ls 3 [(0, .ref (ad 0)), (1, .int u1), (2, .int u2)] → (∀ (y3 : Int32), some y3 = out → ∀ (H : Heap) (locs : List Loc), gWd G LM ad (gA LM ad) s.heap I J H locs → ∀ (ls : Array Slot), lv_has ls 3 [(1, .int y3)] → W p l e (gRm 4) s m args below meth c H locs 0 0 Q (F0 m 33 ls [])) → W p l e (gRm 4) s m args below meth c H locs 0 0 Q (F0 m 4 ls []) := by
  have hx := K.1; have hb := K.2.1; have hown := K.2.2.2.1; have hts := K.2.2.2.2.1
  intro n
  induction n with
  | zero => intro u1 u2 I J out h hn; exact absurd h.symm hn
  | succ n ih =>
    intro u1 u2 I J out h hn H locs hW ls hl hx1
    replace h : fX7_fitting_4b  (fX7_fitting_4  n) u1 u2 I = out := h
    unfold fX7_fitting_4b at h
    refine lv_iload_n hx hb dX7_fitting_4 rfl (lv_at hl 2 rfl) ?_
    refine lv_iconst (v := (5 : Int32)) hx hb dX7_fitting_5 (by decide) ?_
    refine lv_icmp_ge (tgt := 33) hx hb dX7_fitting_6 (by decide) (fun c4 => ?_) (fun c4 => ?_)
    · replace h := gi_t h c4
      exact hx1 u1 h _ _ hW _ (lv_sub hl [1] rfl)
    · replace h := gi_f h c4
      refine lv_iload_n hx hb dX7_fitting_9 rfl (lv_at hl 1 rfl) ?_
      refine lv_aload_n hx hb dX7_fitting_10 rfl (lv_at hl 0 rfl) ?_
      refine lv_iload_n hx hb dX7_fitting_11 rfl (lv_at hl 2 rfl) ?_
      obtain ⟨u5, e6, h⟩ := bd_o h hn
      refine g_callVi (rest := [.int u1]) K hW hl (kX7_doesFit (l := l) (G := G) (ad := ad) hok u2 I J u5 e6) kLM_0 rfl (gG_V q_1669 q_1671 q_118 q_139 q_1672) nm_X7_doesFit ⟨Nat.le_of_ble_eq_true rfl, Nat.le_of_ble_eq_true rfl⟩ rfl rfl (Nat.le_of_ble_eq_true rfl) ⟨Nat.zero_le _, Nat.zero_le _⟩ dX7_fitting_12 (fun z7 H locs hW => ?_)
      obtain ⟨j9, e10, h⟩ := lz_o h
      have hj11 : ∀ (u8 : Int32), j9 u8 = out → ∀ (H : Heap) (locs : List Loc), gWd G LM ad (gA LM ad) s.heap I J H locs → ∀ (ls : Array Slot), lv_has ls 3 [(0, .ref (ad 0)), (2, .int u2)] → W p l e (gRm 4) s m args below meth c H locs 0 0 Q (F0 m 25 ls [.int u8, .int u1]) := by
        intro u8 h H locs hW ls hl
        replace h := jn1 e10 h
        refine lv_ior hx hb dX7_fitting_25 ?_
        obtain ⟨u12, e13, h⟩ := lz_o h
        refine g_nmi e13 ?_
        refine lv_istore_n (lv' := [(1, .int u12), (0, .ref (ad 0)), (2, .int u2)]) hx hb dX7_fitting_26 rfl hl (by decide) rfl (fun ls hl => ?_)
        obtain ⟨u14, e15, h⟩ := lz_o h
        refine lv_iinc (v := u14) (lv' := [(2, .int u14), (1, .int u12), (0, .ref (ad 0))]) hx hb dX7_fitting_27 hl (k := 2) rfl (by rw [e15]; rfl) (by decide) rfl (fun ls hl => ?_)
        refine lv_goto (tgt := 4) hx hb dX7_fitting_30 (by decide) ?_
        exact ih u12 u14 I J _ h hn _ _ hW _ (lv_sub hl [2, 1, 0] rfl) hx1
      refine lv_if_eq (tgt := 24) hx hb dX7_fitting_15 (by decide) (fun c16 => ?_) (fun c16 => ?_)
      · replace h := gi_t h c16
        refine lv_iconst (v := (0 : Int32)) hx hb dX7_fitting_24 (by decide) ?_
        exact hj11 (0 : Int32) h _ _ hW _ (lv_sub hl [0, 2] rfl)
      · replace h := gi_f h c16
        refine lv_iconst (v := (1 : Int32)) hx hb dX7_fitting_18 (by decide) ?_
        refine lv_iload_n hx hb dX7_fitting_19 rfl (lv_at hl 2 rfl) ?_
        refine g_ishl hx hb dX7_fitting_20 ?_
        refine lv_goto (tgt := 25) hx hb dX7_fitting_21 (by decide) ?_
        exact hj11 (jshl (1 : Int32) u2) h _ _ hW _ (lv_sub hl [0, 2] rfl)
noncomputable def fX7_fitting   (I : gI) : Option (Int32) :=
  bd (fX7_fitting_4 FU (0 : Int32) (0 : Int32) I) (fun (u19 : Int32) => some u19)
set_option maxHeartbeats 4000000 in
set_option maxRecDepth 100000 in
theorem kX7_fitting {l : Launch} {G : gG} {ad : Nat → Nat} (hok : gInj LM ad)     (I : gI) (J : gJ) (r : Int32) (h : fX7_fitting I = some r) : gMi l yX7_fitting cX7_fitting 3 (some .int) 4 G LM ad [.ref (ad 0)] I J r True I J := by
  refine gMi_of (lst := [(0, .ref (ad 0))]) (by decide) hok (Nat.le_of_ble_eq_true rfl) rfl ?_
  intro p e s m args below meth c Q ls K hW hl hfin
  have hn : (some r : Option (Int32)) ≠ none := Option.some_ne_none _
  have hx := K.1; have hb := K.2.1; have hown := K.2.2.2.1; have hts := K.2.2.2.2.1
  unfold fX7_fitting at h
  refine lv_iconst (v := (0 : Int32)) hx hb dX7_fitting_0 (by decide) ?_
  refine lv_istore_n (lv' := [(1, .int (0 : Int32)), (0, .ref (ad 0))]) hx hb dX7_fitting_1 rfl hl (by decide) rfl (fun ls hl => ?_)
  refine lv_iconst (v := (0 : Int32)) hx hb dX7_fitting_2 (by decide) ?_
  refine lv_istore_n (lv' := [(2, .int (0 : Int32)), (1, .int (0 : Int32)), (0, .ref (ad 0))]) hx hb dX7_fitting_3 rfl hl (by decide) rfl (fun ls hl => ?_)
  obtain ⟨r17, e18, h⟩ := bd_o h hn
  refine tX7_fitting_4 hok K FU (0 : Int32) (0 : Int32) I J (some r17) e18 (Option.some_ne_none _) _ _ hW _ (lv_sub hl [2, 1, 0] rfl) ?_
  · intro u19 q20 H locs hW ls hl
    replace q20 := Option.some.inj q20
    subst q20
    refine lv_iload_n hx hb dX7_fitting_33 rfl (lv_at hl 0 rfl) ?_
    obtain a1 := so1 h
    exact g_nmi a1 (hfin _ _ _ _ hW dX7_fitting_34)
theorem nm_X7_fitting : gNm yX7_fitting 0 := by decide +kernel
noncomputable def fX7_was   (I : gI) : Option (Int32) :=
  bd (fX7_fitting I) (fun (u1 : Int32) => some u1)
set_option maxHeartbeats 4000000 in
set_option maxRecDepth 100000 in
theorem kX7_was {l : Launch} {G : gG} {ad : Nat → Nat} (hok : gInj LM ad)     (I : gI) (J : gJ) (r : Int32) (h : fX7_was I = some r) : gMi l yX7_was cX7_was 1 (some .int) 5 G LM ad [.ref (ad 0)] I J r True I J := by
  refine gMi_of (lst := [(0, .ref (ad 0))]) (by decide) hok (Nat.le_of_ble_eq_true rfl) rfl ?_
  intro p e s m args below meth c Q ls K hW hl hfin
  have hn : (some r : Option (Int32)) ≠ none := Option.some_ne_none _
  have hx := K.1; have hb := K.2.1; have hown := K.2.2.2.1; have hts := K.2.2.2.2.1
  unfold fX7_was at h
  refine lv_aload_n hx hb dX7_was_0 rfl (lv_at hl 0 rfl) ?_
  obtain ⟨u1, e2, h⟩ := bd_o h hn
  refine g_callVi (rest := []) K hW hl (kX7_fitting (l := l) (G := G) (ad := ad) hok I J u1 e2) kLM_0 rfl (gG_V q_1665 q_1667 q_117 q_139 q_1668) nm_X7_fitting ⟨Nat.le_of_ble_eq_true rfl, Nat.le_of_ble_eq_true rfl⟩ rfl rfl (Nat.le_of_ble_eq_true rfl) ⟨Nat.zero_le _, Nat.zero_le _⟩ dX7_was_1 (fun z3 H locs hW => ?_)
  obtain a1 := so1 h
  exact g_nmi a1 (hfin _ _ _ _ hW dX7_was_4)
noncomputable def fX7_oddsOfSet_4b  (rec : Int32 → Int32 → Int32 → gI → Option ((Int32))) (u1 : Int32) (u2 : Int32) (u3 : Int32) (I : gI) : Option ((Int32)) :=
  gi ((5 : Int32) ≤ u3)
 (some u2)
 (lz (fun (u7 : Int32) => lz ((u2 + u7)) (fun (u11 : Int32) => lz ((u3 + (1 : Int32))) (fun (u13 : Int32) => rec u1 u11 u13 I))) (fun j8 => gi ((fX7_has u1 u3) = 0)
 (j8 (0 : Int32))
 (bd (fX7_oddsOf u3 I) (fun (u16 : Int32) => j8 u16))))
noncomputable def fX7_oddsOfSet_4  : Nat → Int32 → Int32 → Int32 → gI → Option ((Int32))
  | 0 => fun _ _ _ _ => none
  | n + 1 => fX7_oddsOfSet_4b  (fX7_oddsOfSet_4  n)
set_option maxHeartbeats 4000000 in
set_option maxRecDepth 100000 in
theorem tX7_oddsOfSet_4 {l : Launch} {G : gG} {ad : Nat → Nat} {p : Program} {e : Env} {s : State} {m : MethodId} {args : Array Value} {below : List Frame} {meth : Method} {c : Code} {Q : State → Prop} (hok : gInj LM ad) (K : gCx G (gA LM ad) p s m args c cX7_oddsOfSet 4 RX7)  : ∀ (n : Nat) (u1 : Int32) (u2 : Int32) (u3 : Int32) (I : gI) (J : gJ) (out : Option ((Int32))), fX7_oddsOfSet_4  n u1 u2 u3 I = out → out ≠ none → ∀ (H : Heap) (locs : List Loc), gWd G LM ad (gA LM ad) s.heap I J H locs → ∀ (ls : Array Slot), lv_has ls 4 [(0, .ref (ad 0)), (1, .int u1), (2, .int u2), (3, .int u3)] → (∀ (y4 : Int32), some y4 = out → ∀ (H : Heap) (locs : List Loc), gWd G LM ad (gA LM ad) s.heap I J H locs → ∀ (ls : Array Slot), lv_has ls 4 [(2, .int y4)] → W p l e (gRm 3) s m args below meth c H locs 0 0 Q (F0 m 35 ls [])) → W p l e (gRm 3) s m args below meth c H locs 0 0 Q (F0 m 4 ls []) := by
  have hx := K.1; have hb := K.2.1; have hown := K.2.2.2.1; have hts := K.2.2.2.2.1
  intro n
  induction n with
  | zero => intro u1 u2 u3 I J out h hn; exact absurd h.symm hn
  | succ n ih =>
    intro u1 u2 u3 I J out h hn H locs hW ls hl hx1
    replace h : fX7_oddsOfSet_4b  (fX7_oddsOfSet_4  n) u1 u2 u3 I = out := h
    unfold fX7_oddsOfSet_4b at h
    refine lv_iload_n hx hb dX7_oddsOfSet_4 rfl (lv_at hl 3 rfl) ?_
    refine lv_iconst (v := (5 : Int32)) hx hb dX7_oddsOfSet_5 (by decide) ?_
    refine lv_icmp_ge (tgt := 35) hx hb dX7_oddsOfSet_6 (by decide) (fun c5 => ?_) (fun c5 => ?_)
    · replace h := gi_t h c5
      exact hx1 u2 h _ _ hW _ (lv_sub hl [2] rfl)
    · replace h := gi_f h c5
      refine lv_iload_n hx hb dX7_oddsOfSet_9 rfl (lv_at hl 2 rfl) ?_
      refine lv_iload_n hx hb dX7_oddsOfSet_10 rfl (lv_at hl 1 rfl) ?_
      refine lv_iload_n hx hb dX7_oddsOfSet_11 rfl (lv_at hl 3 rfl) ?_
      refine g_callSi (rest := [.int u2]) K hW hl (kX7_has (l := l) (G := G) (ad := ad) hok u1 u3 I J (fX7_has u1 u3) rfl) q_1244 q_1245 q_139 q_1246 nm_X7_has ⟨Nat.le_of_ble_eq_true rfl, Nat.le_of_ble_eq_true rfl⟩ rfl rfl (Nat.le_of_ble_eq_true rfl) ⟨Nat.zero_le _, Nat.zero_le _⟩ dX7_oddsOfSet_12 (fun z6 H locs hW => ?_)
      obtain ⟨j8, e9, h⟩ := lz_o h
      have hj10 : ∀ (u7 : Int32), j8 u7 = out → ∀ (H : Heap) (locs : List Loc), gWd G LM ad (gA LM ad) s.heap I J H locs → ∀ (ls : Array Slot), lv_has ls 4 [(0, .ref (ad 0)), (1, .int u1), (3, .int u3)] → W p l e (gRm 3) s m args below meth c H locs 0 0 Q (F0 m 27 ls [.int u7, .int u2]) := by
        intro u7 h H locs hW ls hl
        replace h := jn1 e9 h
        refine lv_iadd hx hb dX7_oddsOfSet_27 ?_
        obtain ⟨u11, e12, h⟩ := lz_o h
        refine g_nmi e12 ?_
        refine lv_istore_n (lv' := [(2, .int u11), (0, .ref (ad 0)), (1, .int u1), (3, .int u3)]) hx hb dX7_oddsOfSet_28 rfl hl (by decide) rfl (fun ls hl => ?_)
        obtain ⟨u13, e14, h⟩ := lz_o h
        refine lv_iinc (v := u13) (lv' := [(3, .int u13), (2, .int u11), (0, .ref (ad 0)), (1, .int u1)]) hx hb dX7_oddsOfSet_29 hl (k := 3) rfl (by rw [e14]; rfl) (by decide) rfl (fun ls hl => ?_)
        refine lv_goto (tgt := 4) hx hb dX7_oddsOfSet_32 (by decide) ?_
        exact ih u1 u11 u13 I J _ h hn _ _ hW _ (lv_sub hl [2, 3, 1, 0] rfl) hx1
      refine lv_if_eq (tgt := 26) hx hb dX7_oddsOfSet_15 (by decide) (fun c15 => ?_) (fun c15 => ?_)
      · replace h := gi_t h c15
        refine lv_iconst (v := (0 : Int32)) hx hb dX7_oddsOfSet_26 (by decide) ?_
        exact hj10 (0 : Int32) h _ _ hW _ (lv_sub hl [0, 1, 3] rfl)
      · replace h := gi_f h c15
        refine lv_aload_n hx hb dX7_oddsOfSet_18 rfl (lv_at hl 0 rfl) ?_
        refine lv_iload_n hx hb dX7_oddsOfSet_19 rfl (lv_at hl 3 rfl) ?_
        obtain ⟨u16, e17, h⟩ := bd_o h hn
        refine g_callVi (rest := [.int u2]) K hW hl (kX7_oddsOf (l := l) (G := G) (ad := ad) hok u3 I J u16 e17) kLM_0 rfl (gG_V q_1640 q_1642 q_116 q_139 q_1643) nm_X7_oddsOf ⟨Nat.le_of_ble_eq_true rfl, Nat.le_of_ble_eq_true rfl⟩ rfl rfl (Nat.le_of_ble_eq_true rfl) ⟨Nat.zero_le _, Nat.zero_le _⟩ dX7_oddsOfSet_20 (fun z18 H locs hW => ?_)
        refine lv_goto (tgt := 27) hx hb dX7_oddsOfSet_23 (by decide) ?_
        exact hj10 u16 h _ _ hW _ (lv_sub hl [0, 1, 3] rfl)
noncomputable def fX7_oddsOfSet  (x1 : Int32) (I : gI) : Option (Int32) :=
  bd (fX7_oddsOfSet_4 FU x1 (0 : Int32) (0 : Int32) I) (fun (u21 : Int32) => some u21)
set_option maxHeartbeats 4000000 in
set_option maxRecDepth 100000 in
theorem kX7_oddsOfSet {l : Launch} {G : gG} {ad : Nat → Nat} (hok : gInj LM ad)    (x1 : Int32) (I : gI) (J : gJ) (r : Int32) (h : fX7_oddsOfSet x1 I = some r) : gMi l yX7_oddsOfSet cX7_oddsOfSet 4 (some .int) 3 G LM ad [.ref (ad 0), .int x1] I J r True I J := by
  refine gMi_of (lst := [(0, .ref (ad 0)), (1, .int x1)]) (by decide) hok (Nat.le_of_ble_eq_true rfl) rfl ?_
  intro p e s m args below meth c Q ls K hW hl hfin
  have hn : (some r : Option (Int32)) ≠ none := Option.some_ne_none _
  have hx := K.1; have hb := K.2.1; have hown := K.2.2.2.1; have hts := K.2.2.2.2.1
  unfold fX7_oddsOfSet at h
  refine lv_iconst (v := (0 : Int32)) hx hb dX7_oddsOfSet_0 (by decide) ?_
  refine lv_istore_n (lv' := [(2, .int (0 : Int32)), (0, .ref (ad 0)), (1, .int x1)]) hx hb dX7_oddsOfSet_1 rfl hl (by decide) rfl (fun ls hl => ?_)
  refine lv_iconst (v := (0 : Int32)) hx hb dX7_oddsOfSet_2 (by decide) ?_
  refine lv_istore_n (lv' := [(3, .int (0 : Int32)), (2, .int (0 : Int32)), (0, .ref (ad 0)), (1, .int x1)]) hx hb dX7_oddsOfSet_3 rfl hl (by decide) rfl (fun ls hl => ?_)
  obtain ⟨r19, e20, h⟩ := bd_o h hn
  refine tX7_oddsOfSet_4 hok K FU x1 (0 : Int32) (0 : Int32) I J (some r19) e20 (Option.some_ne_none _) _ _ hW _ (lv_sub hl [2, 3, 1, 0] rfl) ?_
  · intro u21 q22 H locs hW ls hl
    replace q22 := Option.some.inj q22
    subst q22
    refine lv_iload_n hx hb dX7_oddsOfSet_35 rfl (lv_at hl 0 rfl) ?_
    obtain a1 := so1 h
    exact g_nmi a1 (hfin _ _ _ _ hW dX7_oddsOfSet_36)
noncomputable def fX7_likeliestNow_4b  (rec : Int32 → Int32 → gI → Option ((Int32))) (u1 : Int32) (u2 : Int32) (I : gI) : Option ((Int32)) :=
  gi ((5 : Int32) ≤ u2)
 (some u1)
 (bd (fX7_doesFit u2 I) (fun (u5 : Int32) => lz (fun (u8 : Int32) => lz ((u2 + (1 : Int32))) (fun (u12 : Int32) => rec u8 u12 I)) (fun j9 => gi (u5 = 0)
 (j9 u1)
 (lz (j9 u2) (fun j15 => gi (u1 = (-1 : Int32))
 (j15)
 (bd (fX7_oddsOf u2 I) (fun (u19 : Int32) => bd (fX7_oddsOf u1 I) (fun (u22 : Int32) => gi (u19 ≤ u22)
 (j9 u1)
 (j15)))))))))
noncomputable def fX7_likeliestNow_4  : Nat → Int32 → Int32 → gI → Option ((Int32))
  | 0 => fun _ _ _ => none
  | n + 1 => fX7_likeliestNow_4b  (fX7_likeliestNow_4  n)
set_option maxHeartbeats 4000000 in
set_option maxRecDepth 100000 in
theorem tX7_likeliestNow_4 {l : Launch} {G : gG} {ad : Nat → Nat} {p : Program} {e : Env} {s : State} {m : MethodId} {args : Array Value} {below : List Frame} {meth : Method} {c : Code} {Q : State → Prop} (hok : gInj LM ad) (K : gCx G (gA LM ad) p s m args c cX7_likeliestNow 3 RX7)  : ∀ (n : Nat) (u1 : Int32) (u2 : Int32) (I : gI) (J : gJ) (out : Option ((Int32))), fX7_likeliestNow_4  n u1 u2 I = out → out ≠ none → ∀ (H : Heap) (locs : List Loc), gWd G LM ad (gA LM ad) s.heap I J H locs → ∀ (ls : Array Slot), lv_has ls 3 [(0, .ref (ad 0)), (1, .int u1), (2, .int u2)] → (∀ (y3 : Int32), some y3 = out → ∀ (H : Heap) (locs : List Loc), gWd G LM ad (gA LM ad) s.heap I J H locs → ∀ (ls : Array Slot), lv_has ls 3 [(1, .int y3)] → W p l e (gRm 4) s m args below meth c H locs 0 0 Q (F0 m 43 ls [])) → W p l e (gRm 4) s m args below meth c H locs 0 0 Q (F0 m 4 ls []) := by
  have hx := K.1; have hb := K.2.1; have hown := K.2.2.2.1; have hts := K.2.2.2.2.1
  intro n
  induction n with
  | zero => intro u1 u2 I J out h hn; exact absurd h.symm hn
  | succ n ih =>
    intro u1 u2 I J out h hn H locs hW ls hl hx1
    replace h : fX7_likeliestNow_4b  (fX7_likeliestNow_4  n) u1 u2 I = out := h
    unfold fX7_likeliestNow_4b at h
    refine lv_iload_n hx hb dX7_likeliestNow_4 rfl (lv_at hl 2 rfl) ?_
    refine lv_iconst (v := (5 : Int32)) hx hb dX7_likeliestNow_5 (by decide) ?_
    refine lv_icmp_ge (tgt := 43) hx hb dX7_likeliestNow_6 (by decide) (fun c4 => ?_) (fun c4 => ?_)
    · replace h := gi_t h c4
      exact hx1 u1 h _ _ hW _ (lv_sub hl [1] rfl)
    · replace h := gi_f h c4
      refine lv_aload_n hx hb dX7_likeliestNow_9 rfl (lv_at hl 0 rfl) ?_
      refine lv_iload_n hx hb dX7_likeliestNow_10 rfl (lv_at hl 2 rfl) ?_
      obtain ⟨u5, e6, h⟩ := bd_o h hn
      refine g_callVi (rest := []) K hW hl (kX7_doesFit (l := l) (G := G) (ad := ad) hok u2 I J u5 e6) kLM_0 rfl (gG_V q_1669 q_1671 q_118 q_139 q_1672) nm_X7_doesFit ⟨Nat.le_of_ble_eq_true rfl, Nat.le_of_ble_eq_true rfl⟩ rfl rfl (Nat.le_of_ble_eq_true rfl) ⟨Nat.zero_le _, Nat.zero_le _⟩ dX7_likeliestNow_11 (fun z7 H locs hW => ?_)
      obtain ⟨j9, e10, h⟩ := lz_o h
      have hj11 : ∀ (u8 : Int32), j9 u8 = out → ∀ (H : Heap) (locs : List Loc), gWd G LM ad (gA LM ad) s.heap I J H locs → ∀ (ls : Array Slot), lv_has ls 3 [(0, .ref (ad 0)), (1, .int u8), (2, .int u2)] → W p l e (gRm 4) s m args below meth c H locs 0 0 Q (F0 m 37 ls []) := by
        intro u8 h H locs hW ls hl
        replace h := jn1 e10 h
        obtain ⟨u12, e13, h⟩ := lz_o h
        refine lv_iinc (v := u12) (lv' := [(2, .int u12), (0, .ref (ad 0)), (1, .int u8)]) hx hb dX7_likeliestNow_37 hl (k := 2) rfl (by rw [e13]; rfl) (by decide) rfl (fun ls hl => ?_)
        refine lv_goto (tgt := 4) hx hb dX7_likeliestNow_40 (by decide) ?_
        exact ih u8 u12 I J _ h hn _ _ hW _ (lv_sub hl [1, 2, 0] rfl) hx1
      refine lv_if_eq (tgt := 37) hx hb dX7_likeliestNow_14 (by decide) (fun c14 => ?_) (fun c14 => ?_)
      · replace h := gi_t h c14
        exact hj11 u1 h _ _ hW _ (lv_sub hl [0, 1, 2] rfl)
      · replace h := gi_f h c14
        refine lv_iload_n hx hb dX7_likeliestNow_17 rfl (lv_at hl 1 rfl) ?_
        refine lv_iconst (v := (-1 : Int32)) hx hb dX7_likeliestNow_18 (by decide) ?_
        obtain ⟨j15, e16, h⟩ := lz_o h
        have hj17 : j15 = out → ∀ (H : Heap) (locs : List Loc), gWd G LM ad (gA LM ad) s.heap I J H locs → ∀ (ls : Array Slot), lv_has ls 3 [(0, .ref (ad 0)), (2, .int u2)] → W p l e (gRm 4) s m args below meth c H locs 0 0 Q (F0 m 35 ls []) := by
          intro h H locs hW ls hl
          replace h := jn0 e16 h
          refine lv_iload_n hx hb dX7_likeliestNow_35 rfl (lv_at hl 1 rfl) ?_
          refine lv_istore_n (lv' := [(1, .int u2), (0, .ref (ad 0)), (2, .int u2)]) hx hb dX7_likeliestNow_36 rfl hl (by decide) rfl (fun ls hl => ?_)
          exact hj11 u2 h _ _ hW _ (lv_sub hl [1, 0, 2] rfl)
        refine lv_icmp_eq (tgt := 35) hx hb dX7_likeliestNow_19 (by decide) (fun c18 => ?_) (fun c18 => ?_)
        · replace h := gi_t h c18
          exact hj17 h _ _ hW _ (lv_sub hl [0, 2] rfl)
        · replace h := gi_f h c18
          refine lv_aload_n hx hb dX7_likeliestNow_22 rfl (lv_at hl 0 rfl) ?_
          refine lv_iload_n hx hb dX7_likeliestNow_23 rfl (lv_at hl 2 rfl) ?_
          obtain ⟨u19, e20, h⟩ := bd_o h hn
          refine g_callVi (rest := []) K hW hl (kX7_oddsOf (l := l) (G := G) (ad := ad) hok u2 I J u19 e20) kLM_0 rfl (gG_V q_1640 q_1642 q_116 q_139 q_1643) nm_X7_oddsOf ⟨Nat.le_of_ble_eq_true rfl, Nat.le_of_ble_eq_true rfl⟩ rfl rfl (Nat.le_of_ble_eq_true rfl) ⟨Nat.zero_le _, Nat.zero_le _⟩ dX7_likeliestNow_24 (fun z21 H locs hW => ?_)
          refine lv_aload_n hx hb dX7_likeliestNow_27 rfl (lv_at hl 0 rfl) ?_
          refine lv_iload_n hx hb dX7_likeliestNow_28 rfl (lv_at hl 1 rfl) ?_
          obtain ⟨u22, e23, h⟩ := bd_o h hn
          refine g_callVi (rest := [.int u19]) K hW hl (kX7_oddsOf (l := l) (G := G) (ad := ad) hok u1 I J u22 e23) kLM_0 rfl (gG_V q_1640 q_1642 q_116 q_139 q_1643) nm_X7_oddsOf ⟨Nat.le_of_ble_eq_true rfl, Nat.le_of_ble_eq_true rfl⟩ rfl rfl (Nat.le_of_ble_eq_true rfl) ⟨Nat.zero_le _, Nat.zero_le _⟩ dX7_likeliestNow_29 (fun z24 H locs hW => ?_)
          refine lv_icmp_le (tgt := 37) hx hb dX7_likeliestNow_32 (by decide) (fun c25 => ?_) (fun c25 => ?_)
          · replace h := gi_t h c25
            exact hj11 u1 h _ _ hW _ (lv_sub hl [0, 1, 2] rfl)
          · replace h := gi_f h c25
            exact hj17 h _ _ hW _ (lv_sub hl [0, 2] rfl)
noncomputable def fX7_likeliestNow   (I : gI) : Option (Int32) :=
  bd (fX7_likeliestNow_4 FU (-1 : Int32) (0 : Int32) I) (fun (u28 : Int32) => some u28)
set_option maxHeartbeats 4000000 in
set_option maxRecDepth 100000 in
theorem kX7_likeliestNow {l : Launch} {G : gG} {ad : Nat → Nat} (hok : gInj LM ad)     (I : gI) (J : gJ) (r : Int32) (h : fX7_likeliestNow I = some r) : gMi l yX7_likeliestNow cX7_likeliestNow 3 (some .int) 4 G LM ad [.ref (ad 0)] I J r True I J := by
  refine gMi_of (lst := [(0, .ref (ad 0))]) (by decide) hok (Nat.le_of_ble_eq_true rfl) rfl ?_
  intro p e s m args below meth c Q ls K hW hl hfin
  have hn : (some r : Option (Int32)) ≠ none := Option.some_ne_none _
  have hx := K.1; have hb := K.2.1; have hown := K.2.2.2.1; have hts := K.2.2.2.2.1
  unfold fX7_likeliestNow at h
  refine lv_iconst (v := (-1 : Int32)) hx hb dX7_likeliestNow_0 (by decide) ?_
  refine lv_istore_n (lv' := [(1, .int (-1 : Int32)), (0, .ref (ad 0))]) hx hb dX7_likeliestNow_1 rfl hl (by decide) rfl (fun ls hl => ?_)
  refine lv_iconst (v := (0 : Int32)) hx hb dX7_likeliestNow_2 (by decide) ?_
  refine lv_istore_n (lv' := [(2, .int (0 : Int32)), (1, .int (-1 : Int32)), (0, .ref (ad 0))]) hx hb dX7_likeliestNow_3 rfl hl (by decide) rfl (fun ls hl => ?_)
  obtain ⟨r26, e27, h⟩ := bd_o h hn
  refine tX7_likeliestNow_4 hok K FU (-1 : Int32) (0 : Int32) I J (some r26) e27 (Option.some_ne_none _) _ _ hW _ (lv_sub hl [2, 1, 0] rfl) ?_
  · intro u28 q29 H locs hW ls hl
    replace q29 := Option.some.inj q29
    subst q29
    refine lv_iload_n hx hb dX7_likeliestNow_43 rfl (lv_at hl 0 rfl) ?_
    obtain a1 := so1 h
    exact g_nmi a1 (hfin _ _ _ _ hW dX7_likeliestNow_44)
theorem nm_X7_likeliestNow : gNm yX7_likeliestNow 0 := by decide +kernel
noncomputable def fX7_likeliest   (I : gI) : Option (Int32) :=
  bd (fX7_likeliestNow I) (fun (u1 : Int32) => some u1)
set_option maxHeartbeats 4000000 in
set_option maxRecDepth 100000 in
theorem kX7_likeliest {l : Launch} {G : gG} {ad : Nat → Nat} (hok : gInj LM ad)     (I : gI) (J : gJ) (r : Int32) (h : fX7_likeliest I = some r) : gMi l yX7_likeliest cX7_likeliest 1 (some .int) 5 G LM ad [.ref (ad 0)] I J r True I J := by
  refine gMi_of (lst := [(0, .ref (ad 0))]) (by decide) hok (Nat.le_of_ble_eq_true rfl) rfl ?_
  intro p e s m args below meth c Q ls K hW hl hfin
  have hn : (some r : Option (Int32)) ≠ none := Option.some_ne_none _
  have hx := K.1; have hb := K.2.1; have hown := K.2.2.2.1; have hts := K.2.2.2.2.1
  unfold fX7_likeliest at h
  refine lv_aload_n hx hb dX7_likeliest_0 rfl (lv_at hl 0 rfl) ?_
  obtain ⟨u1, e2, h⟩ := bd_o h hn
  refine g_callVi (rest := []) K hW hl (kX7_likeliestNow (l := l) (G := G) (ad := ad) hok I J u1 e2) kLM_0 rfl (gG_V q_1677 q_1679 q_119 q_139 q_1680) nm_X7_likeliestNow ⟨Nat.le_of_ble_eq_true rfl, Nat.le_of_ble_eq_true rfl⟩ rfl rfl (Nat.le_of_ble_eq_true rfl) ⟨Nat.zero_le _, Nat.zero_le _⟩ dX7_likeliest_1 (fun z3 H locs hW => ?_)
  obtain a1 := so1 h
  exact g_nmi a1 (hfin _ _ _ _ hW dX7_likeliest_4)
theorem nm_X7_oddsOfSet : gNm yX7_oddsOfSet 1 := by decide +kernel
noncomputable def fX7_surest  (x1 : Int32) (I : gI) : Option (Int64) :=
  bd (fX7_likeliestNow I) (fun (u1 : Int32) => gi (u1 = (-1 : Int32))
 (gi (x1 = 0)
 (some (0 : Int64))
 (some (1 : Int64)))
 (bd (fX7_oddsOf u1 I) (fun (u5 : Int32) => bd (fX7_fitting I) (fun (u8 : Int32) => bd (fX7_oddsOfSet u8 I) (fun (u11 : Int32) => bd (fX7_partOfAll (u5).toInt64 (u11).toInt64 x1) (fun (u14 : Int64) => some u14))))))
set_option maxHeartbeats 4000000 in
set_option maxRecDepth 100000 in
theorem kX7_surest {l : Launch} {G : gG} {ad : Nat → Nat} (hok : gInj LM ad)    (x1 : Int32) (I : gI) (J : gJ) (r : Int64) (h : fX7_surest x1 I = some r) : gMl l yX7_surest cX7_surest 3 (some .long) 5 G LM ad [.ref (ad 0), .int x1] I J r I J := by
  refine gMl_of (lst := [(0, .ref (ad 0)), (1, .int x1)]) (by decide) hok (Nat.le_of_ble_eq_true rfl) rfl ?_
  intro p e s m args below meth c Q ls K hW hl hfin
  have hn : (some r : Option (Int64)) ≠ none := Option.some_ne_none _
  have hx := K.1; have hb := K.2.1; have hown := K.2.2.2.1; have hts := K.2.2.2.2.1
  unfold fX7_surest at h
  refine lv_aload_n hx hb dX7_surest_0 rfl (lv_at hl 0 rfl) ?_
  obtain ⟨u1, e2, h⟩ := bd_o h hn
  refine g_callVi (rest := []) K hW hl (kX7_likeliestNow (l := l) (G := G) (ad := ad) hok I J u1 e2) kLM_0 rfl (gG_V q_1677 q_1679 q_119 q_139 q_1680) nm_X7_likeliestNow ⟨Nat.le_of_ble_eq_true rfl, Nat.le_of_ble_eq_true rfl⟩ rfl rfl (Nat.le_of_ble_eq_true rfl) ⟨Nat.zero_le _, Nat.zero_le _⟩ dX7_surest_1 (fun z3 H locs hW => ?_)
  refine lv_istore_n (lv' := [(2, .int u1), (0, .ref (ad 0)), (1, .int x1)]) hx hb dX7_surest_4 rfl hl (by decide) rfl (fun ls hl => ?_)
  refine lv_iload_n hx hb dX7_surest_5 rfl (lv_at hl 0 rfl) ?_
  refine lv_iconst (v := (-1 : Int32)) hx hb dX7_surest_6 (by decide) ?_
  refine lv_icmp_ne (tgt := 22) hx hb dX7_surest_7 (by decide) (fun c4 => ?_) (fun c4 => ?_)
  · replace h := gi_f h c4
    refine lv_aload_n hx hb dX7_surest_22 rfl (lv_at hl 1 rfl) ?_
    refine lv_iload_n hx hb dX7_surest_23 rfl (lv_at hl 0 rfl) ?_
    obtain ⟨u5, e6, h⟩ := bd_o h hn
    refine g_callVi (rest := []) K hW hl (kX7_oddsOf (l := l) (G := G) (ad := ad) hok u1 I J u5 e6) kLM_0 rfl (gG_V q_1640 q_1642 q_116 q_139 q_1643) nm_X7_oddsOf ⟨Nat.le_of_ble_eq_true rfl, Nat.le_of_ble_eq_true rfl⟩ rfl rfl (Nat.le_of_ble_eq_true rfl) ⟨Nat.zero_le _, Nat.zero_le _⟩ dX7_surest_24 (fun z7 H locs hW => ?_)
    refine lv_i2l hx hb dX7_surest_27 rfl ?_
    refine lv_aload_n hx hb dX7_surest_28 rfl (lv_at hl 1 rfl) ?_
    refine lv_aload_n hx hb dX7_surest_29 rfl (lv_at hl 1 rfl) ?_
    obtain ⟨u8, e9, h⟩ := bd_o h hn
    refine g_callVi (rest := [.ref (ad 0), .long (u5).toInt64]) K hW hl (kX7_fitting (l := l) (G := G) (ad := ad) hok I J u8 e9) kLM_0 rfl (gG_V q_1665 q_1667 q_117 q_139 q_1668) nm_X7_fitting ⟨Nat.le_of_ble_eq_true rfl, Nat.le_of_ble_eq_true rfl⟩ rfl rfl (Nat.le_of_ble_eq_true rfl) ⟨Nat.zero_le _, Nat.zero_le _⟩ dX7_surest_30 (fun z10 H locs hW => ?_)
    obtain ⟨u11, e12, h⟩ := bd_o h hn
    refine g_callVi (rest := [.long (u5).toInt64]) K hW hl (kX7_oddsOfSet (l := l) (G := G) (ad := ad) hok u8 I J u11 e12) kLM_0 rfl (gG_V q_1685 q_1687 q_120 q_139 q_1688) nm_X7_oddsOfSet ⟨Nat.le_of_ble_eq_true rfl, Nat.le_of_ble_eq_true rfl⟩ rfl rfl (Nat.le_of_ble_eq_true rfl) ⟨Nat.zero_le _, Nat.zero_le _⟩ dX7_surest_33 (fun z13 H locs hW => ?_)
    refine lv_i2l hx hb dX7_surest_36 rfl ?_
    refine lv_iload_n hx hb dX7_surest_37 rfl (lv_at hl 2 rfl) ?_
    obtain ⟨u14, e15, h⟩ := bd_o h hn
    refine g_callSl (rest := []) K hW hl (kX7_partOfAll (l := l) (G := G) (ad := ad) hok (u5).toInt64 (u11).toInt64 x1 I J u14 e15) q_1571 q_1572 q_139 q_1573 nm_X7_partOfAll ⟨Nat.le_of_ble_eq_true rfl, Nat.le_of_ble_eq_true rfl⟩ rfl rfl (Nat.le_of_ble_eq_true rfl) ⟨Nat.zero_le _, Nat.zero_le _⟩ dX7_surest_38 (fun H locs hW => ?_)
    obtain a1 := so1 h
    exact g_nml a1 (hfin _ _ _ _ hW dX7_surest_41)
  · replace h := gi_t h c4
    refine lv_iload_n hx hb dX7_surest_10 rfl (lv_at hl 2 rfl) ?_
    refine lv_if_eq (tgt := 18) hx hb dX7_surest_11 (by decide) (fun c17 => ?_) (fun c17 => ?_)
    · replace h := gi_t h c17
      refine lv_lconst (v := (0 : Int64)) hx hb dX7_surest_18 rfl ?_
      refine lv_goto (tgt := 41) hx hb dX7_surest_19 (by decide) ?_
      obtain a1 := so1 h
      exact g_nml a1 (hfin _ _ _ _ hW dX7_surest_41)
    · replace h := gi_f h c17
      refine lv_lconst (v := (1 : Int64)) hx hb dX7_surest_14 rfl ?_
      refine lv_goto (tgt := 41) hx hb dX7_surest_15 (by decide) ?_
      obtain a1 := so1 h
      exact g_nml a1 (hfin _ _ _ _ hW dX7_surest_41)
noncomputable def fX7_greaterPart  (x1 : Int32) (I : gI) : Option (Int32) :=
  bd (fX7_fitting I) (fun (u1 : Int32) => gd (vp_in ((39 : Int32) + x1) 1592) (bd (fX7_oddsOfSet (u1 &&& (I 1 (((39 : Int32) + x1)).toNatClampNeg)) I) (fun (u5 : Int32) => bd (fX7_fitting I) (fun (u8 : Int32) => bd (fX7_oddsOfSet (u8 &&& ((I 1 (((39 : Int32) + x1)).toNatClampNeg) ^^^ (-1 : Int32))) I) (fun (u11 : Int32) => gi (u5 ≤ u11)
 (some u11)
 (some u5))))))
set_option maxHeartbeats 4000000 in
set_option maxRecDepth 100000 in
theorem kX7_greaterPart {l : Launch} {G : gG} {ad : Nat → Nat} (hok : gInj LM ad)    (x1 : Int32) (I : gI) (J : gJ) (r : Int32) (h : fX7_greaterPart x1 I = some r) : gMi l yX7_greaterPart cX7_greaterPart 4 (some .int) 5 G LM ad [.ref (ad 0), .int x1] I J r True I J := by
  refine gMi_of (lst := [(0, .ref (ad 0)), (1, .int x1)]) (by decide) hok (Nat.le_of_ble_eq_true rfl) rfl ?_
  intro p e s m args below meth c Q ls K hW hl hfin
  have hn : (some r : Option (Int32)) ≠ none := Option.some_ne_none _
  have hx := K.1; have hb := K.2.1; have hown := K.2.2.2.1; have hts := K.2.2.2.2.1
  unfold fX7_greaterPart at h
  refine lv_aload_n hx hb dX7_greaterPart_0 rfl (lv_at hl 0 rfl) ?_
  refine lv_aload_n hx hb dX7_greaterPart_1 rfl (lv_at hl 0 rfl) ?_
  obtain ⟨u1, e2, h⟩ := bd_o h hn
  refine g_callVi (rest := [.ref (ad 0)]) K hW hl (kX7_fitting (l := l) (G := G) (ad := ad) hok I J u1 e2) kLM_0 rfl (gG_V q_1665 q_1667 q_117 q_139 q_1668) nm_X7_fitting ⟨Nat.le_of_ble_eq_true rfl, Nat.le_of_ble_eq_true rfl⟩ rfl rfl (Nat.le_of_ble_eq_true rfl) ⟨Nat.zero_le _, Nat.zero_le _⟩ dX7_greaterPart_2 (fun z3 H locs hW => ?_)
  refine lv_aload_n hx hb dX7_greaterPart_5 rfl (lv_at hl 0 rfl) ?_
  refine g_get K hW (t := 2) (ci := 6) (k := 0) (v := .ref (ad 1)) kLM_0 rfl rfl i_X7 (by decide) q_1077 rfl (gfv2 rLM_0_0) dX7_greaterPart_6 ?_
  refine lv_bipush (v := (39 : Int32)) hx hb dX7_greaterPart_9 (by decide) ?_
  refine lv_iload_n hx hb dX7_greaterPart_11 rfl (lv_at hl 1 rfl) ?_
  refine lv_iadd hx hb dX7_greaterPart_12 ?_
  obtain ⟨g4, h⟩ := gd_o h hn
  refine g_iald K hW kLM_1 g4 rfl dX7_greaterPart_13 ?_
  refine lv_iand hx hb dX7_greaterPart_14 ?_
  obtain ⟨u5, e6, h⟩ := bd_o h hn
  refine g_callVi (rest := []) K hW hl (kX7_oddsOfSet (l := l) (G := G) (ad := ad) hok (u1 &&& (I 1 (((39 : Int32) + x1)).toNatClampNeg)) I J u5 e6) kLM_0 rfl (gG_V q_1685 q_1687 q_120 q_139 q_1688) nm_X7_oddsOfSet ⟨Nat.le_of_ble_eq_true rfl, Nat.le_of_ble_eq_true rfl⟩ rfl rfl (Nat.le_of_ble_eq_true rfl) ⟨Nat.zero_le _, Nat.zero_le _⟩ dX7_greaterPart_15 (fun z7 H locs hW => ?_)
  refine lv_istore_n (lv' := [(2, .int u5), (0, .ref (ad 0)), (1, .int x1)]) hx hb dX7_greaterPart_18 rfl hl (by decide) rfl (fun ls hl => ?_)
  refine lv_aload_n hx hb dX7_greaterPart_19 rfl (lv_at hl 1 rfl) ?_
  refine lv_aload_n hx hb dX7_greaterPart_20 rfl (lv_at hl 1 rfl) ?_
  obtain ⟨u8, e9, h⟩ := bd_o h hn
  refine g_callVi (rest := [.ref (ad 0)]) K hW hl (kX7_fitting (l := l) (G := G) (ad := ad) hok I J u8 e9) kLM_0 rfl (gG_V q_1665 q_1667 q_117 q_139 q_1668) nm_X7_fitting ⟨Nat.le_of_ble_eq_true rfl, Nat.le_of_ble_eq_true rfl⟩ rfl rfl (Nat.le_of_ble_eq_true rfl) ⟨Nat.zero_le _, Nat.zero_le _⟩ dX7_greaterPart_21 (fun z10 H locs hW => ?_)
  refine lv_aload_n hx hb dX7_greaterPart_24 rfl (lv_at hl 1 rfl) ?_
  refine g_get K hW (t := 2) (ci := 6) (k := 0) (v := .ref (ad 1)) kLM_0 rfl rfl i_X7 (by decide) q_1077 rfl (gfv2 rLM_0_0) dX7_greaterPart_25 ?_
  refine lv_bipush (v := (39 : Int32)) hx hb dX7_greaterPart_28 (by decide) ?_
  refine lv_iload_n hx hb dX7_greaterPart_30 rfl (lv_at hl 2 rfl) ?_
  refine lv_iadd hx hb dX7_greaterPart_31 ?_
  refine g_iald K hW kLM_1 g4 rfl dX7_greaterPart_32 ?_
  refine lv_iconst (v := (-1 : Int32)) hx hb dX7_greaterPart_33 (by decide) ?_
  refine lv_ixor hx hb dX7_greaterPart_34 ?_
  refine lv_iand hx hb dX7_greaterPart_35 ?_
  obtain ⟨u11, e12, h⟩ := bd_o h hn
  refine g_callVi (rest := []) K hW hl (kX7_oddsOfSet (l := l) (G := G) (ad := ad) hok (u8 &&& ((I 1 (((39 : Int32) + x1)).toNatClampNeg) ^^^ (-1 : Int32))) I J u11 e12) kLM_0 rfl (gG_V q_1685 q_1687 q_120 q_139 q_1688) nm_X7_oddsOfSet ⟨Nat.le_of_ble_eq_true rfl, Nat.le_of_ble_eq_true rfl⟩ rfl rfl (Nat.le_of_ble_eq_true rfl) ⟨Nat.zero_le _, Nat.zero_le _⟩ dX7_greaterPart_36 (fun z13 H locs hW => ?_)
  refine lv_istore_n (lv' := [(3, .int u11), (2, .int u5), (0, .ref (ad 0)), (1, .int x1)]) hx hb dX7_greaterPart_39 rfl hl (by decide) rfl (fun ls hl => ?_)
  refine lv_iload_n hx hb dX7_greaterPart_40 rfl (lv_at hl 1 rfl) ?_
  refine lv_iload_n hx hb dX7_greaterPart_41 rfl (lv_at hl 0 rfl) ?_
  refine lv_icmp_le (tgt := 49) hx hb dX7_greaterPart_42 (by decide) (fun c14 => ?_) (fun c14 => ?_)
  · replace h := gi_t h c14
    refine lv_iload_n hx hb dX7_greaterPart_49 rfl (lv_at hl 0 rfl) ?_
    obtain a1 := so1 h
    exact g_nmi a1 (hfin _ _ _ _ hW dX7_greaterPart_50)
  · replace h := gi_f h c14
    refine lv_iload_n hx hb dX7_greaterPart_45 rfl (lv_at hl 1 rfl) ?_
    refine lv_goto (tgt := 50) hx hb dX7_greaterPart_46 (by decide) ?_
    obtain a1 := so1 h
    exact g_nmi a1 (hfin _ _ _ _ hW dX7_greaterPart_50)
theorem nm_X7_greaterPart : gNm yX7_greaterPart 1 := by decide +kernel
noncomputable def fX7_ask_17b  (rec : Int32 → Int32 → gI → Option ((Int32))) (u8 : Int32) (u9 : Int32) (I : gI) : Option ((Int32)) :=
  gi ((I 1 0) ≤ u9)
 (some u8)
 (gd (vp_in ((63 : Int32) + u9) 1592) (lz (fun (u13 : Int32) => lz ((u9 + (1 : Int32))) (fun (u17 : Int32) => rec u13 u17 I)) (fun j14 => gi ((I 1 (((63 : Int32) + u9)).toNatClampNeg) = 0)
 (lz (j14 u9) (fun j20 => gi (u8 = (-1 : Int32))
 (j20)
 (bd (fX7_greaterPart u9 I) (fun (u24 : Int32) => bd (fX7_greaterPart u8 I) (fun (u27 : Int32) => gi (u27 ≤ u24)
 (j14 u8)
 (j20))))))
 (j14 u8))))
noncomputable def fX7_ask_17  : Nat → Int32 → Int32 → gI → Option ((Int32))
  | 0 => fun _ _ _ => none
  | n + 1 => fX7_ask_17b  (fX7_ask_17  n)
set_option maxHeartbeats 4000000 in
set_option maxRecDepth 100000 in
theorem tX7_ask_17 {l : Launch} {G : gG} {ad : Nat → Nat} {p : Program} {e : Env} {s : State} {m : MethodId} {args : Array Value} {below : List Frame} {meth : Method} {c : Code} {Q : State → Prop} (hok : gInj LM ad) (K : gCx G (gA LM ad) p s m args c cX7_ask 3 RX7)  : ∀ (n : Nat) (u8 : Int32) (u9 : Int32) (I : gI) (J : gJ) (out : Option ((Int32))), fX7_ask_17  n u8 u9 I = out → out ≠ none → ∀ (H : Heap) (locs : List Loc), gWd G LM ad (gA LM ad) s.heap I J H locs → ∀ (ls : Array Slot), lv_has ls 3 [(0, .ref (ad 0)), (1, .int u8), (2, .int u9)] → (∀ (y10 : Int32), some y10 = out → ∀ (H : Heap) (locs : List Loc), gWd G LM ad (gA LM ad) s.heap I J H locs → ∀ (ls : Array Slot), lv_has ls 3 [(1, .int y10)] → W p l e (gRm 6) s m args below meth c H locs 0 0 Q (F0 m 65 ls [])) → W p l e (gRm 6) s m args below meth c H locs 0 0 Q (F0 m 17 ls []) := by
  have hx := K.1; have hb := K.2.1; have hown := K.2.2.2.1; have hts := K.2.2.2.2.1
  intro n
  induction n with
  | zero => intro u8 u9 I J out h hn; exact absurd h.symm hn
  | succ n ih =>
    intro u8 u9 I J out h hn H locs hW ls hl hx1
    replace h : fX7_ask_17b  (fX7_ask_17  n) u8 u9 I = out := h
    unfold fX7_ask_17b at h
    refine lv_iload_n hx hb dX7_ask_17 rfl (lv_at hl 2 rfl) ?_
    refine lv_aload_n hx hb dX7_ask_18 rfl (lv_at hl 0 rfl) ?_
    refine g_get K hW (t := 2) (ci := 6) (k := 0) (v := .ref (ad 1)) kLM_0 rfl rfl i_X7 (by decide) q_1077 rfl (gfv2 rLM_0_0) dX7_ask_19 ?_
    refine lv_iconst (v := (0 : Int32)) hx hb dX7_ask_22 (by decide) ?_
    refine g_iald K hW kLM_1 in_0_1592 tn_0 dX7_ask_23 ?_
    refine lv_icmp_ge (tgt := 65) hx hb dX7_ask_24 (by decide) (fun c11 => ?_) (fun c11 => ?_)
    · replace h := gi_t h c11
      exact hx1 u8 h _ _ hW _ (lv_sub hl [1] rfl)
    · replace h := gi_f h c11
      refine lv_aload_n hx hb dX7_ask_27 rfl (lv_at hl 0 rfl) ?_
      refine g_get K hW (t := 2) (ci := 6) (k := 0) (v := .ref (ad 1)) kLM_0 rfl rfl i_X7 (by decide) q_1077 rfl (gfv2 rLM_0_0) dX7_ask_28 ?_
      refine lv_bipush (v := (63 : Int32)) hx hb dX7_ask_31 (by decide) ?_
      refine lv_iload_n hx hb dX7_ask_33 rfl (lv_at hl 2 rfl) ?_
      refine lv_iadd hx hb dX7_ask_34 ?_
      obtain ⟨g12, h⟩ := gd_o h hn
      refine g_iald K hW kLM_1 g12 rfl dX7_ask_35 ?_
      obtain ⟨j14, e15, h⟩ := lz_o h
      have hj16 : ∀ (u13 : Int32), j14 u13 = out → ∀ (H : Heap) (locs : List Loc), gWd G LM ad (gA LM ad) s.heap I J H locs → ∀ (ls : Array Slot), lv_has ls 3 [(0, .ref (ad 0)), (1, .int u13), (2, .int u9)] → W p l e (gRm 6) s m args below meth c H locs 0 0 Q (F0 m 59 ls []) := by
        intro u13 h H locs hW ls hl
        replace h := jn1 e15 h
        obtain ⟨u17, e18, h⟩ := lz_o h
        refine lv_iinc (v := u17) (lv' := [(2, .int u17), (0, .ref (ad 0)), (1, .int u13)]) hx hb dX7_ask_59 hl (k := 2) rfl (by rw [e18]; rfl) (by decide) rfl (fun ls hl => ?_)
        refine lv_goto (tgt := 17) hx hb dX7_ask_62 (by decide) ?_
        exact ih u13 u17 I J _ h hn _ _ hW _ (lv_sub hl [1, 2, 0] rfl) hx1
      refine lv_if_ne (tgt := 59) hx hb dX7_ask_36 (by decide) (fun c19 => ?_) (fun c19 => ?_)
      · replace h := gi_f h c19
        exact hj16 u8 h _ _ hW _ (lv_sub hl [0, 1, 2] rfl)
      · replace h := gi_t h c19
        refine lv_iload_n hx hb dX7_ask_39 rfl (lv_at hl 1 rfl) ?_
        refine lv_iconst (v := (-1 : Int32)) hx hb dX7_ask_40 (by decide) ?_
        obtain ⟨j20, e21, h⟩ := lz_o h
        have hj22 : j20 = out → ∀ (H : Heap) (locs : List Loc), gWd G LM ad (gA LM ad) s.heap I J H locs → ∀ (ls : Array Slot), lv_has ls 3 [(0, .ref (ad 0)), (2, .int u9)] → W p l e (gRm 6) s m args below meth c H locs 0 0 Q (F0 m 57 ls []) := by
          intro h H locs hW ls hl
          replace h := jn0 e21 h
          refine lv_iload_n hx hb dX7_ask_57 rfl (lv_at hl 1 rfl) ?_
          refine lv_istore_n (lv' := [(1, .int u9), (0, .ref (ad 0)), (2, .int u9)]) hx hb dX7_ask_58 rfl hl (by decide) rfl (fun ls hl => ?_)
          exact hj16 u9 h _ _ hW _ (lv_sub hl [1, 0, 2] rfl)
        refine lv_icmp_eq (tgt := 57) hx hb dX7_ask_41 (by decide) (fun c23 => ?_) (fun c23 => ?_)
        · replace h := gi_t h c23
          exact hj22 h _ _ hW _ (lv_sub hl [0, 2] rfl)
        · replace h := gi_f h c23
          refine lv_aload_n hx hb dX7_ask_44 rfl (lv_at hl 0 rfl) ?_
          refine lv_iload_n hx hb dX7_ask_45 rfl (lv_at hl 2 rfl) ?_
          obtain ⟨u24, e25, h⟩ := bd_o h hn
          refine g_callVi (rest := []) K hW hl (kX7_greaterPart (l := l) (G := G) (ad := ad) hok u9 I J u24 e25) kLM_0 rfl (gG_V q_1693 q_1695 q_121 q_139 q_1696) nm_X7_greaterPart ⟨Nat.le_of_ble_eq_true rfl, Nat.le_of_ble_eq_true rfl⟩ rfl rfl (Nat.le_of_ble_eq_true rfl) ⟨Nat.zero_le _, Nat.zero_le _⟩ dX7_ask_46 (fun z26 H locs hW => ?_)
          refine lv_aload_n hx hb dX7_ask_49 rfl (lv_at hl 0 rfl) ?_
          refine lv_iload_n hx hb dX7_ask_50 rfl (lv_at hl 1 rfl) ?_
          obtain ⟨u27, e28, h⟩ := bd_o h hn
          refine g_callVi (rest := [.int u24]) K hW hl (kX7_greaterPart (l := l) (G := G) (ad := ad) hok u8 I J u27 e28) kLM_0 rfl (gG_V q_1693 q_1695 q_121 q_139 q_1696) nm_X7_greaterPart ⟨Nat.le_of_ble_eq_true rfl, Nat.le_of_ble_eq_true rfl⟩ rfl rfl (Nat.le_of_ble_eq_true rfl) ⟨Nat.zero_le _, Nat.zero_le _⟩ dX7_ask_51 (fun z29 H locs hW => ?_)
          refine lv_icmp_ge (tgt := 59) hx hb dX7_ask_54 (by decide) (fun c30 => ?_) (fun c30 => ?_)
          · replace h := gi_t h c30
            exact hj16 u8 h _ _ hW _ (lv_sub hl [0, 1, 2] rfl)
          · replace h := gi_f h c30
            exact hj22 h _ _ hW _ (lv_sub hl [0, 2] rfl)
noncomputable def fX7_ask   (I : gI) : Option (Int32) :=
  bd (fX7_fitting I) (fun (u1 : Int32) => bd (fX7_bits u1) (fun (u4 : Int32) => gi ((2 : Int32) ≤ u4)
 (bd (fX7_ask_17 FU (-1 : Int32) (0 : Int32) I) (fun (u33 : Int32) => some u33))
 (some (-1 : Int32))))
set_option maxHeartbeats 4000000 in
set_option maxRecDepth 100000 in
theorem kX7_ask {l : Launch} {G : gG} {ad : Nat → Nat} (hok : gInj LM ad)     (I : gI) (J : gJ) (r : Int32) (h : fX7_ask I = some r) : gMi l yX7_ask cX7_ask 3 (some .int) 6 G LM ad [.ref (ad 0)] I J r True I J := by
  refine gMi_of (lst := [(0, .ref (ad 0))]) (by decide) hok (Nat.le_of_ble_eq_true rfl) rfl ?_
  intro p e s m args below meth c Q ls K hW hl hfin
  have hn : (some r : Option (Int32)) ≠ none := Option.some_ne_none _
  have hx := K.1; have hb := K.2.1; have hown := K.2.2.2.1; have hts := K.2.2.2.2.1
  unfold fX7_ask at h
  refine lv_aload_n hx hb dX7_ask_0 rfl (lv_at hl 0 rfl) ?_
  obtain ⟨u1, e2, h⟩ := bd_o h hn
  refine g_callVi (rest := []) K hW hl (kX7_fitting (l := l) (G := G) (ad := ad) hok I J u1 e2) kLM_0 rfl (gG_V q_1665 q_1667 q_117 q_139 q_1668) nm_X7_fitting ⟨Nat.le_of_ble_eq_true rfl, Nat.le_of_ble_eq_true rfl⟩ rfl rfl (Nat.le_of_ble_eq_true rfl) ⟨Nat.zero_le _, Nat.zero_le _⟩ dX7_ask_1 (fun z3 H locs hW => ?_)
  obtain ⟨u4, e5, h⟩ := bd_o h hn
  refine g_callSi (rest := []) K hW hl (kX7_bits (l := l) (G := G) (ad := ad) hok u1 I J u4 e5) q_1382 q_1383 q_139 q_1384 nm_X7_bits ⟨Nat.le_of_ble_eq_true rfl, Nat.le_of_ble_eq_true rfl⟩ rfl rfl (Nat.le_of_ble_eq_true rfl) ⟨Nat.zero_le _, Nat.zero_le _⟩ dX7_ask_4 (fun z6 H locs hW => ?_)
  refine lv_iconst (v := (2 : Int32)) hx hb dX7_ask_7 (by decide) ?_
  refine lv_icmp_ge (tgt := 13) hx hb dX7_ask_8 (by decide) (fun c7 => ?_) (fun c7 => ?_)
  · replace h := gi_t h c7
    refine lv_iconst (v := (-1 : Int32)) hx hb dX7_ask_13 (by decide) ?_
    refine lv_istore_n (lv' := [(1, .int (-1 : Int32)), (0, .ref (ad 0))]) hx hb dX7_ask_14 rfl hl (by decide) rfl (fun ls hl => ?_)
    refine lv_iconst (v := (0 : Int32)) hx hb dX7_ask_15 (by decide) ?_
    refine lv_istore_n (lv' := [(2, .int (0 : Int32)), (1, .int (-1 : Int32)), (0, .ref (ad 0))]) hx hb dX7_ask_16 rfl hl (by decide) rfl (fun ls hl => ?_)
    obtain ⟨r31, e32, h⟩ := bd_o h hn
    refine tX7_ask_17 hok K FU (-1 : Int32) (0 : Int32) I J (some r31) e32 (Option.some_ne_none _) _ _ hW _ (lv_sub hl [2, 1, 0] rfl) ?_
    · intro u33 q34 H locs hW ls hl
      replace q34 := Option.some.inj q34
      subst q34
      refine lv_iload_n hx hb dX7_ask_65 rfl (lv_at hl 0 rfl) ?_
      obtain a1 := so1 h
      exact g_nmi a1 (hfin _ _ _ _ hW dX7_ask_66)
  · replace h := gi_f h c7
    refine lv_iconst (v := (-1 : Int32)) hx hb dX7_ask_11 (by decide) ?_
    obtain a1 := so1 h
    exact g_nmi a1 (hfin _ _ _ _ hW dX7_ask_12)
noncomputable def fX7_doesBid  (x1 : Int32) (x2 : Int32) (I : gI) : Option (Int32) :=
  bd (fX7_doesWant x1 (I 1 9) I) (fun (u1 : Int32) => gi (u1 = 0)
 (some (0 : Int32))
 (bd (fX7_slicesOf x1 I) (fun (u5 : Int32) => gi ((fX7_has u5 x2) = 0)
 (some (0 : Int32))
 (some (1 : Int32)))))
set_option maxHeartbeats 4000000 in
set_option maxRecDepth 100000 in
theorem kX7_doesBid {l : Launch} {G : gG} {ad : Nat → Nat} (hok : gInj LM ad)    (x1 : Int32) (x2 : Int32) (I : gI) (J : gJ) (r : Int32) (h : fX7_doesBid x1 x2 I = some r) : gMi l yX7_doesBid cX7_doesBid 3 (some .boolean) 3 G LM ad [.ref (ad 0), .int x1, .int x2] I J r (r = 0 ∨ r = 1) I J := by
  refine gMz_of (lst := [(0, .ref (ad 0)), (1, .int x1), (2, .int x2)]) (by decide) hok (Nat.le_of_ble_eq_true rfl) rfl ?_
  intro p e s m args below meth c Q ls K hW hl hfin
  have hn : (some r : Option (Int32)) ≠ none := Option.some_ne_none _
  have hx := K.1; have hb := K.2.1; have hown := K.2.2.2.1; have hts := K.2.2.2.2.1
  unfold fX7_doesBid at h
  refine lv_aload_n hx hb dX7_doesBid_0 rfl (lv_at hl 0 rfl) ?_
  refine lv_iload_n hx hb dX7_doesBid_1 rfl (lv_at hl 1 rfl) ?_
  refine lv_aload_n hx hb dX7_doesBid_2 rfl (lv_at hl 0 rfl) ?_
  refine g_get K hW (t := 2) (ci := 6) (k := 0) (v := .ref (ad 1)) kLM_0 rfl rfl i_X7 (by decide) q_1077 rfl (gfv2 rLM_0_0) dX7_doesBid_3 ?_
  refine lv_bipush (v := (9 : Int32)) hx hb dX7_doesBid_6 (by decide) ?_
  refine g_iald K hW kLM_1 in_9_1592 tn_9 dX7_doesBid_8 ?_
  obtain ⟨u1, e2, h⟩ := bd_o h hn
  refine g_callVi (rest := []) K hW hl (kX7_doesWant (l := l) (G := G) (ad := ad) hok x1 (I 1 9) I J u1 e2) kLM_0 rfl (gG_V q_1354 q_1356 q_81 q_139 q_1357) nm_X7_doesWant ⟨Nat.le_of_ble_eq_true rfl, Nat.le_of_ble_eq_true rfl⟩ rfl rfl (Nat.le_of_ble_eq_true rfl) ⟨Nat.zero_le _, Nat.zero_le _⟩ dX7_doesBid_9 (fun z3 H locs hW => ?_)
  refine lv_if_eq (tgt := 31) hx hb dX7_doesBid_12 (by decide) (fun c4 => ?_) (fun c4 => ?_)
  · replace h := gi_t h c4
    refine lv_iconst (v := (0 : Int32)) hx hb dX7_doesBid_31 (by decide) ?_
    obtain a1 := so1 h
    exact g_nmi a1 (hfin _ _ _ _ (a1 ▸ (Or.inl rfl)) hW dX7_doesBid_32)
  · replace h := gi_f h c4
    refine lv_aload_n hx hb dX7_doesBid_15 rfl (lv_at hl 0 rfl) ?_
    refine lv_iload_n hx hb dX7_doesBid_16 rfl (lv_at hl 1 rfl) ?_
    obtain ⟨u5, e6, h⟩ := bd_o h hn
    refine g_callVi (rest := []) K hW hl (kX7_slicesOf (l := l) (G := G) (ad := ad) hok x1 I J u5 e6) kLM_0 rfl (gG_V q_1358 q_1360 q_82 q_139 q_1361) nm_X7_slicesOf ⟨Nat.le_of_ble_eq_true rfl, Nat.le_of_ble_eq_true rfl⟩ rfl rfl (Nat.le_of_ble_eq_true rfl) ⟨Nat.zero_le _, Nat.zero_le _⟩ dX7_doesBid_17 (fun z7 H locs hW => ?_)
    refine lv_iload_n hx hb dX7_doesBid_20 rfl (lv_at hl 2 rfl) ?_
    refine g_callSi (rest := []) K hW hl (kX7_has (l := l) (G := G) (ad := ad) hok u5 x2 I J (fX7_has u5 x2) rfl) q_1244 q_1245 q_139 q_1246 nm_X7_has ⟨Nat.le_of_ble_eq_true rfl, Nat.le_of_ble_eq_true rfl⟩ rfl rfl (Nat.le_of_ble_eq_true rfl) ⟨Nat.zero_le _, Nat.zero_le _⟩ dX7_doesBid_21 (fun z8 H locs hW => ?_)
    refine lv_if_eq (tgt := 31) hx hb dX7_doesBid_24 (by decide) (fun c9 => ?_) (fun c9 => ?_)
    · replace h := gi_t h c9
      refine lv_iconst (v := (0 : Int32)) hx hb dX7_doesBid_31 (by decide) ?_
      obtain a1 := so1 h
      exact g_nmi a1 (hfin _ _ _ _ (a1 ▸ (Or.inl rfl)) hW dX7_doesBid_32)
    · replace h := gi_f h c9
      refine lv_iconst (v := (1 : Int32)) hx hb dX7_doesBid_27 (by decide) ?_
      refine lv_goto (tgt := 32) hx hb dX7_doesBid_28 (by decide) ?_
      obtain a1 := so1 h
      exact g_nmi a1 (hfin _ _ _ _ (a1 ▸ (Or.inr rfl)) hW dX7_doesBid_32)
noncomputable def fX7_bidFor  (x1 : Int32) (I : gI) (J : gJ) : Option (Int32 × gI × gJ) :=
  bd (fX7_bidsNow x1 I J) (pr (fun (u1 : Int32) => pr (fun (I2 : gI) (J3 : gJ) => bd (fX7_longOf x1 I2) (fun (u6 : Int32) => gd (¬ u6 = 0) (some ((u1 / u6), I2, J3))))))
set_option maxHeartbeats 4000000 in
set_option maxRecDepth 100000 in
theorem kX7_bidFor {l : Launch} {G : gG} {ad : Nat → Nat} (hok : gInj LM ad)    (x1 : Int32) (I : gI) (J : gJ) (r : Int32) (I' : gI) (J' : gJ) (h : fX7_bidFor x1 I J = some (r, I', J')) : gMi l yX7_bidFor cX7_bidFor 2 (some .int) 7 G LM ad [.ref (ad 0), .int x1] I J r True I' J' := by
  refine gMi_of (lst := [(0, .ref (ad 0)), (1, .int x1)]) (by decide) hok (Nat.le_of_ble_eq_true rfl) rfl ?_
  intro p e s m args below meth c Q ls K hW hl hfin
  have hn : (some (r, I', J') : Option (Int32 × gI × gJ)) ≠ none := Option.some_ne_none _
  have hx := K.1; have hb := K.2.1; have hown := K.2.2.2.1; have hts := K.2.2.2.2.1
  unfold fX7_bidFor at h
  refine lv_aload_n hx hb dX7_bidFor_0 rfl (lv_at hl 0 rfl) ?_
  refine lv_iload_n hx hb dX7_bidFor_1 rfl (lv_at hl 1 rfl) ?_
  obtain ⟨⟨u1, I2, J3⟩, e4, h⟩ := bd_o h hn
  replace h := pr_o h
  replace h := pr_o h
  refine g_callVi (rest := []) K hW hl (kX7_bidsNow (l := l) (G := G) (ad := ad) hok x1 I J u1 I2 J3 e4) kLM_0 rfl (gG_V q_1370 q_1372 q_85 q_139 q_1373) nm_X7_bidsNow ⟨Nat.le_of_ble_eq_true rfl, Nat.le_of_ble_eq_true rfl⟩ rfl rfl (Nat.le_of_ble_eq_true rfl) ⟨Nat.zero_le _, Nat.zero_le _⟩ dX7_bidFor_2 (fun z5 H locs hW => ?_)
  refine lv_aload_n hx hb dX7_bidFor_5 rfl (lv_at hl 0 rfl) ?_
  refine lv_iload_n hx hb dX7_bidFor_6 rfl (lv_at hl 1 rfl) ?_
  obtain ⟨u6, e7, h⟩ := bd_o h hn
  refine g_callVi (rest := [.int u1]) K hW hl (kX7_longOf (l := l) (G := G) (ad := ad) hok x1 I2 J3 u6 e7) kLM_0 rfl (gG_V q_1362 q_1364 q_83 q_139 q_1365) nm_X7_longOf ⟨Nat.le_of_ble_eq_true rfl, Nat.le_of_ble_eq_true rfl⟩ rfl rfl (Nat.le_of_ble_eq_true rfl) ⟨Nat.zero_le _, Nat.zero_le _⟩ dX7_bidFor_7 (fun z8 H locs hW => ?_)
  obtain ⟨g9, h⟩ := gd_o h hn
  refine lv_idiv hx hb dX7_bidFor_10 g9 ?_
  obtain ⟨a1, a2, a3⟩ := so3 h
  replace hW := gWd_nI a2 hW
  replace hW := gWd_nJ a3 hW
  exact g_nmi a1 (hfin _ _ _ _ hW dX7_bidFor_11)
theorem nm_X7_doesBid : gNm yX7_doesBid 2 := by decide +kernel
theorem nm_X7_bidFor : gNm yX7_bidFor 1 := by decide +kernel
noncomputable def fX7_bidderOf_5b  (rec : Int32 → Int32 → Int32 → Int32 → gI → gJ → Option ((Int32 × gI × gJ))) (u1 : Int32) (u2 : Int32) (u3 : Int32) (u4 : Int32) (I : gI) (J : gJ) : Option ((Int32 × gI × gJ)) :=
  gi ((I 1 0) ≤ u4)
 (some (u3, I, J))
 (lz (fun (u9 : Int32) => fun (I10 : gI) => fun (J11 : gJ) => lz ((u4 + (1 : Int32))) (fun (u15 : Int32) => rec u1 u2 u9 u15 I10 J11)) (fun j12 => gi (u4 = u2)
 (j12 u3 I J)
 (bd (fX7_doesBid u4 u1 I) (fun (u18 : Int32) => gi (u18 = 0)
 (j12 u3 I J)
 (lz (fun (I22 : gI) => fun (J23 : gJ) => j12 u4 I22 J23) (fun j24 => gi (u3 = (-1 : Int32))
 (j24 I J)
 (bd (fX7_bidFor u4 I J) (pr (fun (u28 : Int32) => pr (fun (I29 : gI) (J30 : gJ) => bd (fX7_bidFor u3 I29 J30) (pr (fun (u33 : Int32) => pr (fun (I34 : gI) (J35 : gJ) => gi (u28 ≤ u33)
 (j12 u3 I34 J35)
 (j24 I34 J35))))))))))))))
noncomputable def fX7_bidderOf_5  : Nat → Int32 → Int32 → Int32 → Int32 → gI → gJ → Option ((Int32 × gI × gJ))
  | 0 => fun _ _ _ _ _ _ => none
  | n + 1 => fX7_bidderOf_5b  (fX7_bidderOf_5  n)
set_option maxHeartbeats 4000000 in
set_option maxRecDepth 100000 in
theorem tX7_bidderOf_5 {l : Launch} {G : gG} {ad : Nat → Nat} {p : Program} {e : Env} {s : State} {m : MethodId} {args : Array Value} {below : List Frame} {meth : Method} {c : Code} {Q : State → Prop} (hok : gInj LM ad) (K : gCx G (gA LM ad) p s m args c cX7_bidderOf 5 RX7)  : ∀ (n : Nat) (u1 : Int32) (u2 : Int32) (u3 : Int32) (u4 : Int32) (I : gI) (J : gJ) (out : Option ((Int32 × gI × gJ))), fX7_bidderOf_5  n u1 u2 u3 u4 I J = out → out ≠ none → ∀ (H : Heap) (locs : List Loc), gWd G LM ad (gA LM ad) s.heap I J H locs → ∀ (ls : Array Slot), lv_has ls 5 [(0, .ref (ad 0)), (1, .int u1), (2, .int u2), (3, .int u3), (4, .int u4)] → (∀ (y5 : Int32) (I6 : gI) (J7 : gJ), some (y5, I6, J7) = out → ∀ (H : Heap) (locs : List Loc), gWd G LM ad (gA LM ad) s.heap I6 J7 H locs → ∀ (ls : Array Slot), lv_has ls 5 [(3, .int y5)] → W p l e (gRm 8) s m args below meth c H locs 0 0 Q (F0 m 60 ls [])) → W p l e (gRm 8) s m args below meth c H locs 0 0 Q (F0 m 5 ls []) := by
  have hx := K.1; have hb := K.2.1; have hown := K.2.2.2.1; have hts := K.2.2.2.2.1
  intro n
  induction n with
  | zero => intro u1 u2 u3 u4 I J out h hn; exact absurd h.symm hn
  | succ n ih =>
    intro u1 u2 u3 u4 I J out h hn H locs hW ls hl hx1
    replace h : fX7_bidderOf_5b  (fX7_bidderOf_5  n) u1 u2 u3 u4 I J = out := h
    unfold fX7_bidderOf_5b at h
    refine lv_iload hx hb dX7_bidderOf_5 (lv_at hl 4 rfl) ?_
    refine lv_aload_n hx hb dX7_bidderOf_7 rfl (lv_at hl 0 rfl) ?_
    refine g_get K hW (t := 2) (ci := 6) (k := 0) (v := .ref (ad 1)) kLM_0 rfl rfl i_X7 (by decide) q_1077 rfl (gfv2 rLM_0_0) dX7_bidderOf_8 ?_
    refine lv_iconst (v := (0 : Int32)) hx hb dX7_bidderOf_11 (by decide) ?_
    refine g_iald K hW kLM_1 in_0_1592 tn_0 dX7_bidderOf_12 ?_
    refine lv_icmp_ge (tgt := 60) hx hb dX7_bidderOf_13 (by decide) (fun c8 => ?_) (fun c8 => ?_)
    · replace h := gi_t h c8
      exact hx1 u3 I J h _ _ hW _ (lv_sub hl [3] rfl)
    · replace h := gi_f h c8
      refine lv_iload hx hb dX7_bidderOf_16 (lv_at hl 4 rfl) ?_
      refine lv_iload_n hx hb dX7_bidderOf_18 rfl (lv_at hl 2 rfl) ?_
      obtain ⟨j12, e13, h⟩ := lz_o h
      have hj14 : ∀ (u9 : Int32) (I10 : gI) (J11 : gJ), j12 u9 I10 J11 = out → ∀ (H : Heap) (locs : List Loc), gWd G LM ad (gA LM ad) s.heap I10 J11 H locs → ∀ (ls : Array Slot), lv_has ls 5 [(0, .ref (ad 0)), (1, .int u1), (2, .int u2), (3, .int u9), (4, .int u4)] → W p l e (gRm 8) s m args below meth c H locs 0 0 Q (F0 m 54 ls []) := by
        intro u9 I10 J11 h H locs hW ls hl
        replace h := jn3 e13 h
        obtain ⟨u15, e16, h⟩ := lz_o h
        refine lv_iinc (v := u15) (lv' := [(4, .int u15), (0, .ref (ad 0)), (1, .int u1), (2, .int u2), (3, .int u9)]) hx hb dX7_bidderOf_54 hl (k := 4) rfl (by rw [e16]; rfl) (by decide) rfl (fun ls hl => ?_)
        refine lv_goto (tgt := 5) hx hb dX7_bidderOf_57 (by decide) ?_
        exact ih u1 u2 u9 u15 I10 J11 _ h hn _ _ hW _ (lv_sub hl [1, 2, 3, 4, 0] rfl) hx1
      refine lv_icmp_eq (tgt := 54) hx hb dX7_bidderOf_19 (by decide) (fun c17 => ?_) (fun c17 => ?_)
      · replace h := gi_t h c17
        exact hj14 u3 I J h _ _ hW _ (lv_sub hl [0, 1, 2, 3, 4] rfl)
      · replace h := gi_f h c17
        refine lv_aload_n hx hb dX7_bidderOf_22 rfl (lv_at hl 0 rfl) ?_
        refine lv_iload hx hb dX7_bidderOf_23 (lv_at hl 4 rfl) ?_
        refine lv_iload_n hx hb dX7_bidderOf_25 rfl (lv_at hl 1 rfl) ?_
        obtain ⟨u18, e19, h⟩ := bd_o h hn
        refine g_callVi (rest := []) K hW hl (kX7_doesBid (l := l) (G := G) (ad := ad) hok u4 u1 I J u18 e19) kLM_0 rfl (gG_V q_1705 q_1707 q_123 q_139 q_1708) nm_X7_doesBid ⟨Nat.le_of_ble_eq_true rfl, Nat.le_of_ble_eq_true rfl⟩ rfl rfl (Nat.le_of_ble_eq_true rfl) ⟨Nat.zero_le _, Nat.zero_le _⟩ dX7_bidderOf_26 (fun z20 H locs hW => ?_)
        refine lv_if_eq (tgt := 54) hx hb dX7_bidderOf_29 (by decide) (fun c21 => ?_) (fun c21 => ?_)
        · replace h := gi_t h c21
          exact hj14 u3 I J h _ _ hW _ (lv_sub hl [0, 1, 2, 3, 4] rfl)
        · replace h := gi_f h c21
          refine lv_iload_n hx hb dX7_bidderOf_32 rfl (lv_at hl 3 rfl) ?_
          refine lv_iconst (v := (-1 : Int32)) hx hb dX7_bidderOf_33 (by decide) ?_
          obtain ⟨j24, e25, h⟩ := lz_o h
          have hj26 : ∀ (I22 : gI) (J23 : gJ), j24 I22 J23 = out → ∀ (H : Heap) (locs : List Loc), gWd G LM ad (gA LM ad) s.heap I22 J23 H locs → ∀ (ls : Array Slot), lv_has ls 5 [(0, .ref (ad 0)), (1, .int u1), (2, .int u2), (4, .int u4)] → W p l e (gRm 8) s m args below meth c H locs 0 0 Q (F0 m 51 ls []) := by
            intro I22 J23 h H locs hW ls hl
            replace h := jn2 e25 h
            refine lv_iload hx hb dX7_bidderOf_51 (lv_at hl 3 rfl) ?_
            refine lv_istore_n (lv' := [(3, .int u4), (0, .ref (ad 0)), (1, .int u1), (2, .int u2), (4, .int u4)]) hx hb dX7_bidderOf_53 rfl hl (by decide) rfl (fun ls hl => ?_)
            exact hj14 u4 I22 J23 h _ _ hW _ (lv_sub hl [1, 2, 3, 0, 4] rfl)
          refine lv_icmp_eq (tgt := 51) hx hb dX7_bidderOf_34 (by decide) (fun c27 => ?_) (fun c27 => ?_)
          · replace h := gi_t h c27
            exact hj26 I J h _ _ hW _ (lv_sub hl [0, 1, 2, 4] rfl)
          · replace h := gi_f h c27
            refine lv_aload_n hx hb dX7_bidderOf_37 rfl (lv_at hl 0 rfl) ?_
            refine lv_iload hx hb dX7_bidderOf_38 (lv_at hl 4 rfl) ?_
            obtain ⟨⟨u28, I29, J30⟩, e31, h⟩ := bd_o h hn
            replace h := pr_o h
            replace h := pr_o h
            refine g_callVi (rest := []) K hW hl (kX7_bidFor (l := l) (G := G) (ad := ad) hok u4 I J u28 I29 J30 e31) kLM_0 rfl (gG_V q_1709 q_1711 q_124 q_139 q_1712) nm_X7_bidFor ⟨Nat.le_of_ble_eq_true rfl, Nat.le_of_ble_eq_true rfl⟩ rfl rfl (Nat.le_of_ble_eq_true rfl) ⟨Nat.zero_le _, Nat.zero_le _⟩ dX7_bidderOf_40 (fun z32 H locs hW => ?_)
            refine lv_aload_n hx hb dX7_bidderOf_43 rfl (lv_at hl 0 rfl) ?_
            refine lv_iload_n hx hb dX7_bidderOf_44 rfl (lv_at hl 3 rfl) ?_
            obtain ⟨⟨u33, I34, J35⟩, e36, h⟩ := bd_o h hn
            replace h := pr_o h
            replace h := pr_o h
            refine g_callVi (rest := [.int u28]) K hW hl (kX7_bidFor (l := l) (G := G) (ad := ad) hok u3 I29 J30 u33 I34 J35 e36) kLM_0 rfl (gG_V q_1709 q_1711 q_124 q_139 q_1712) nm_X7_bidFor ⟨Nat.le_of_ble_eq_true rfl, Nat.le_of_ble_eq_true rfl⟩ rfl rfl (Nat.le_of_ble_eq_true rfl) ⟨Nat.zero_le _, Nat.zero_le _⟩ dX7_bidderOf_45 (fun z37 H locs hW => ?_)
            refine lv_icmp_le (tgt := 54) hx hb dX7_bidderOf_48 (by decide) (fun c38 => ?_) (fun c38 => ?_)
            · replace h := gi_t h c38
              exact hj14 u3 I34 J35 h _ _ hW _ (lv_sub hl [0, 1, 2, 3, 4] rfl)
            · replace h := gi_f h c38
              exact hj26 I34 J35 h _ _ hW _ (lv_sub hl [0, 1, 2, 4] rfl)
noncomputable def fX7_bidderOf  (x1 : Int32) (x2 : Int32) (I : gI) (J : gJ) : Option (Int32 × gI × gJ) :=
  bd (fX7_bidderOf_5 FU x1 x2 (-1 : Int32) (0 : Int32) I J) (pr (fun (u41 : Int32) => (pr (fun (I42 : gI) (J43 : gJ) => some (u41, I42, J43)))))
set_option maxHeartbeats 4000000 in
set_option maxRecDepth 100000 in
theorem kX7_bidderOf {l : Launch} {G : gG} {ad : Nat → Nat} (hok : gInj LM ad)    (x1 : Int32) (x2 : Int32) (I : gI) (J : gJ) (r : Int32) (I' : gI) (J' : gJ) (h : fX7_bidderOf x1 x2 I J = some (r, I', J')) : gMi l yX7_bidderOf cX7_bidderOf 5 (some .int) 8 G LM ad [.ref (ad 0), .int x1, .int x2] I J r True I' J' := by
  refine gMi_of (lst := [(0, .ref (ad 0)), (1, .int x1), (2, .int x2)]) (by decide) hok (Nat.le_of_ble_eq_true rfl) rfl ?_
  intro p e s m args below meth c Q ls K hW hl hfin
  have hn : (some (r, I', J') : Option (Int32 × gI × gJ)) ≠ none := Option.some_ne_none _
  have hx := K.1; have hb := K.2.1; have hown := K.2.2.2.1; have hts := K.2.2.2.2.1
  unfold fX7_bidderOf at h
  refine lv_iconst (v := (-1 : Int32)) hx hb dX7_bidderOf_0 (by decide) ?_
  refine lv_istore_n (lv' := [(3, .int (-1 : Int32)), (0, .ref (ad 0)), (1, .int x1), (2, .int x2)]) hx hb dX7_bidderOf_1 rfl hl (by decide) rfl (fun ls hl => ?_)
  refine lv_iconst (v := (0 : Int32)) hx hb dX7_bidderOf_2 (by decide) ?_
  refine lv_istore (lv' := [(4, .int (0 : Int32)), (3, .int (-1 : Int32)), (0, .ref (ad 0)), (1, .int x1), (2, .int x2)]) hx hb dX7_bidderOf_3 hl (by decide) rfl (fun ls hl => ?_)
  obtain ⟨r39, e40, h⟩ := bd_o h hn
  refine tX7_bidderOf_5 hok K FU x1 x2 (-1 : Int32) (0 : Int32) I J (some r39) e40 (Option.some_ne_none _) _ _ hW _ (lv_sub hl [2, 3, 4, 1, 0] rfl) ?_
  · intro u41 I42 J43 q44 H locs hW ls hl
    replace q44 := Option.some.inj q44
    subst q44
    replace h := pr_o h
    replace h := pr_o h
    refine lv_iload_n hx hb dX7_bidderOf_60 rfl (lv_at hl 0 rfl) ?_
    obtain ⟨a1, a2, a3⟩ := so3 h
    replace hW := gWd_nI a2 hW
    replace hW := gWd_nJ a3 hW
    exact g_nmi a1 (hfin _ _ _ _ hW dX7_bidderOf_61)
theorem nm_X7_bidderOf : gNm yX7_bidderOf 2 := by decide +kernel
noncomputable def fX7_auction_46b  (rec : Int32 → Int32 → Int32 → Int32 → Int32 → Int32 → gI → Option ((Int32))) (u16 : Int32) (u17 : Int32) (u18 : Int32) (u19 : Int32) (u20 : Int32) (u21 : Int32) (I : gI) : Option ((Int32)) :=
  gi ((I 1 0) ≤ u21)
 (some u20)
 (bd (fX7_doesBid u21 u16 I) (fun (u24 : Int32) => lz (fun (u27 : Int32) => lz ((u20 + u27)) (fun (u31 : Int32) => lz ((u21 + (1 : Int32))) (fun (u33 : Int32) => rec u16 u17 u18 u19 u31 u33 I))) (fun j28 => gi (u24 = 0)
 (j28 (0 : Int32))
 (j28 (1 : Int32)))))
noncomputable def fX7_auction_46  : Nat → Int32 → Int32 → Int32 → Int32 → Int32 → Int32 → gI → Option ((Int32))
  | 0 => fun _ _ _ _ _ _ _ => none
  | n + 1 => fX7_auction_46b  (fX7_auction_46  n)
set_option maxHeartbeats 4000000 in
set_option maxRecDepth 100000 in
theorem tX7_auction_46 {l : Launch} {G : gG} {ad : Nat → Nat} {p : Program} {e : Env} {s : State} {m : MethodId} {args : Array Value} {below : List Frame} {meth : Method} {c : Code} {Q : State → Prop} (hok : gInj LM ad) (K : gCx G (gA LM ad) p s m args c cX7_auction 7 RX7)  : ∀ (n : Nat) (u16 : Int32) (u17 : Int32) (u18 : Int32) (u19 : Int32) (u20 : Int32) (u21 : Int32) (I : gI) (J : gJ) (out : Option ((Int32))), fX7_auction_46  n u16 u17 u18 u19 u20 u21 I = out → out ≠ none → ∀ (H : Heap) (locs : List Loc), gWd G LM ad (gA LM ad) s.heap I J H locs → ∀ (ls : Array Slot), lv_has ls 7 [(0, .ref (ad 0)), (1, .int u16), (2, .int u17), (3, .int u18), (4, .int u19), (5, .int u20), (6, .int u21)] → (∀ (y22 : Int32), some y22 = out → ∀ (H : Heap) (locs : List Loc), gWd G LM ad (gA LM ad) s.heap I J H locs → ∀ (ls : Array Slot), lv_has ls 7 [(0, .ref (ad 0)), (2, .int u17), (3, .int u18), (4, .int u19), (5, .int y22)] → W p l e (gRm 9) s m args below meth c H locs 0 0 Q (F0 m 83 ls [])) → W p l e (gRm 9) s m args below meth c H locs 0 0 Q (F0 m 46 ls []) := by
  have hx := K.1; have hb := K.2.1; have hown := K.2.2.2.1; have hts := K.2.2.2.2.1
  intro n
  induction n with
  | zero => intro u16 u17 u18 u19 u20 u21 I J out h hn; exact absurd h.symm hn
  | succ n ih =>
    intro u16 u17 u18 u19 u20 u21 I J out h hn H locs hW ls hl hx1
    replace h : fX7_auction_46b  (fX7_auction_46  n) u16 u17 u18 u19 u20 u21 I = out := h
    unfold fX7_auction_46b at h
    refine lv_iload hx hb dX7_auction_46 (lv_at hl 6 rfl) ?_
    refine lv_aload_n hx hb dX7_auction_48 rfl (lv_at hl 0 rfl) ?_
    refine g_get K hW (t := 2) (ci := 6) (k := 0) (v := .ref (ad 1)) kLM_0 rfl rfl i_X7 (by decide) q_1077 rfl (gfv2 rLM_0_0) dX7_auction_49 ?_
    refine lv_iconst (v := (0 : Int32)) hx hb dX7_auction_52 (by decide) ?_
    refine g_iald K hW kLM_1 in_0_1592 tn_0 dX7_auction_53 ?_
    refine lv_icmp_ge (tgt := 83) hx hb dX7_auction_54 (by decide) (fun c23 => ?_) (fun c23 => ?_)
    · replace h := gi_t h c23
      exact hx1 u20 h _ _ hW _ (lv_sub hl [0, 2, 3, 4, 5] rfl)
    · replace h := gi_f h c23
      refine lv_iload hx hb dX7_auction_57 (lv_at hl 5 rfl) ?_
      refine lv_aload_n hx hb dX7_auction_59 rfl (lv_at hl 0 rfl) ?_
      refine lv_iload hx hb dX7_auction_60 (lv_at hl 6 rfl) ?_
      refine lv_iload_n hx hb dX7_auction_62 rfl (lv_at hl 1 rfl) ?_
      obtain ⟨u24, e25, h⟩ := bd_o h hn
      refine g_callVi (rest := [.int u20]) K hW hl (kX7_doesBid (l := l) (G := G) (ad := ad) hok u21 u16 I J u24 e25) kLM_0 rfl (gG_V q_1705 q_1707 q_123 q_139 q_1708) nm_X7_doesBid ⟨Nat.le_of_ble_eq_true rfl, Nat.le_of_ble_eq_true rfl⟩ rfl rfl (Nat.le_of_ble_eq_true rfl) ⟨Nat.zero_le _, Nat.zero_le _⟩ dX7_auction_63 (fun z26 H locs hW => ?_)
      obtain ⟨j28, e29, h⟩ := lz_o h
      have hj30 : ∀ (u27 : Int32), j28 u27 = out → ∀ (H : Heap) (locs : List Loc), gWd G LM ad (gA LM ad) s.heap I J H locs → ∀ (ls : Array Slot), lv_has ls 7 [(0, .ref (ad 0)), (1, .int u16), (2, .int u17), (3, .int u18), (4, .int u19), (6, .int u21)] → W p l e (gRm 9) s m args below meth c H locs 0 0 Q (F0 m 74 ls [.int u27, .int u20]) := by
        intro u27 h H locs hW ls hl
        replace h := jn1 e29 h
        refine lv_iadd hx hb dX7_auction_74 ?_
        obtain ⟨u31, e32, h⟩ := lz_o h
        refine g_nmi e32 ?_
        refine lv_istore (lv' := [(5, .int u31), (0, .ref (ad 0)), (1, .int u16), (2, .int u17), (3, .int u18), (4, .int u19), (6, .int u21)]) hx hb dX7_auction_75 hl (by decide) rfl (fun ls hl => ?_)
        obtain ⟨u33, e34, h⟩ := lz_o h
        refine lv_iinc (v := u33) (lv' := [(6, .int u33), (5, .int u31), (0, .ref (ad 0)), (1, .int u16), (2, .int u17), (3, .int u18), (4, .int u19)]) hx hb dX7_auction_77 hl (k := 6) rfl (by rw [e34]; rfl) (by decide) rfl (fun ls hl => ?_)
        refine lv_goto (tgt := 46) hx hb dX7_auction_80 (by decide) ?_
        exact ih u16 u17 u18 u19 u31 u33 I J _ h hn _ _ hW _ (lv_sub hl [2, 3, 4, 5, 6, 1, 0] rfl) hx1
      refine lv_if_eq (tgt := 73) hx hb dX7_auction_66 (by decide) (fun c35 => ?_) (fun c35 => ?_)
      · replace h := gi_t h c35
        refine lv_iconst (v := (0 : Int32)) hx hb dX7_auction_73 (by decide) ?_
        exact hj30 (0 : Int32) h _ _ hW _ (lv_sub hl [0, 1, 2, 3, 4, 6] rfl)
      · replace h := gi_f h c35
        refine lv_iconst (v := (1 : Int32)) hx hb dX7_auction_69 (by decide) ?_
        refine lv_goto (tgt := 74) hx hb dX7_auction_70 (by decide) ?_
        exact hj30 (1 : Int32) h _ _ hW _ (lv_sub hl [0, 1, 2, 3, 4, 6] rfl)
noncomputable def fX7_auction  (x1 : Int32) (x2 : Int32) (I : gI) (J : gJ) : Option (Int32 × gI × gJ) :=
  gi ((fX7_isSlice x1) = 0)
 (some ((-1 : Int32), I, J))
 (gi ((fX7_isIn x2 (0 : Int32) (2 : Int32)) = 0)
 (some ((-1 : Int32), I, J))
 (bd (fX7_bidderOf x1 (-1 : Int32) I J) (pr (fun (u5 : Int32) => pr (fun (I6 : gI) (J7 : gJ) => gi (u5 = (-1 : Int32))
 (some ((-1 : Int32), I6, J7))
 (bd (fX7_bidderOf x1 u5 I6 J7) (pr (fun (u11 : Int32) => pr (fun (I12 : gI) (J13 : gJ) => bd (fX7_auction_46 FU x1 x2 u5 u11 (0 : Int32) (0 : Int32) I12) (fun (u38 : Int32) => gi (x2 = 0)
 (some (u5, I12, J13))
 (gi (x2 = (2 : Int32))
 (some (u38, I12, J13))
 (gi (u11 = (-1 : Int32))
 (some ((0 : Int32), I12, J13))
 (bd (fX7_bidFor u11 I12 J13) (pr (fun (u43 : Int32) => pr (fun (I44 : gI) (J45 : gJ) => some (u43, I44, J45)))))))))))))))))
set_option maxHeartbeats 4000000 in
set_option maxRecDepth 100000 in
theorem kX7_auction {l : Launch} {G : gG} {ad : Nat → Nat} (hok : gInj LM ad)    (x1 : Int32) (x2 : Int32) (I : gI) (J : gJ) (r : Int32) (I' : gI) (J' : gJ) (h : fX7_auction x1 x2 I J = some (r, I', J')) : gMi l yX7_auction cX7_auction 7 (some .int) 9 G LM ad [.ref (ad 0), .int x1, .int x2] I J r True I' J' := by
  refine gMi_of (lst := [(0, .ref (ad 0)), (1, .int x1), (2, .int x2)]) (by decide) hok (Nat.le_of_ble_eq_true rfl) rfl ?_
  intro p e s m args below meth c Q ls K hW hl hfin
  have hn : (some (r, I', J') : Option (Int32 × gI × gJ)) ≠ none := Option.some_ne_none _
  have hx := K.1; have hb := K.2.1; have hown := K.2.2.2.1; have hts := K.2.2.2.2.1
  unfold fX7_auction at h
  refine lv_iload_n hx hb dX7_auction_0 rfl (lv_at hl 1 rfl) ?_
  refine g_callSi (rest := []) K hW hl (kX7_isSlice (l := l) (G := G) (ad := ad) hok x1 I J (fX7_isSlice x1) rfl) q_1443 q_1444 q_139 q_1445 nm_X7_isSlice ⟨Nat.le_of_ble_eq_true rfl, Nat.le_of_ble_eq_true rfl⟩ rfl rfl (Nat.le_of_ble_eq_true rfl) ⟨Nat.zero_le _, Nat.zero_le _⟩ dX7_auction_1 (fun z1 H locs hW => ?_)
  refine lv_if_eq (tgt := 16) hx hb dX7_auction_4 (by decide) (fun c2 => ?_) (fun c2 => ?_)
  · replace h := gi_t h c2
    refine lv_iconst (v := (-1 : Int32)) hx hb dX7_auction_16 (by decide) ?_
    obtain ⟨a1, a2, a3⟩ := so3 h
    replace hW := gWd_nI a2 hW
    replace hW := gWd_nJ a3 hW
    exact g_nmi a1 (hfin _ _ _ _ hW dX7_auction_17)
  · replace h := gi_f h c2
    refine lv_iload_n hx hb dX7_auction_7 rfl (lv_at hl 2 rfl) ?_
    refine lv_iconst (v := (0 : Int32)) hx hb dX7_auction_8 (by decide) ?_
    refine lv_iconst (v := (2 : Int32)) hx hb dX7_auction_9 (by decide) ?_
    refine g_callSi (rest := []) K hW hl (kX7_isIn (l := l) (G := G) (ad := ad) hok x2 (0 : Int32) (2 : Int32) I J (fX7_isIn x2 (0 : Int32) (2 : Int32)) rfl) q_1171 q_1172 q_139 q_1173 nm_X7_isIn ⟨Nat.le_of_ble_eq_true rfl, Nat.le_of_ble_eq_true rfl⟩ rfl rfl (Nat.le_of_ble_eq_true rfl) ⟨Nat.zero_le _, Nat.zero_le _⟩ dX7_auction_10 (fun z3 H locs hW => ?_)
    refine lv_if_ne (tgt := 18) hx hb dX7_auction_13 (by decide) (fun c4 => ?_) (fun c4 => ?_)
    · replace h := gi_f h c4
      refine lv_aload_n hx hb dX7_auction_18 rfl (lv_at hl 0 rfl) ?_
      refine lv_iload_n hx hb dX7_auction_19 rfl (lv_at hl 1 rfl) ?_
      refine lv_iconst (v := (-1 : Int32)) hx hb dX7_auction_20 (by decide) ?_
      obtain ⟨⟨u5, I6, J7⟩, e8, h⟩ := bd_o h hn
      replace h := pr_o h
      replace h := pr_o h
      refine g_callVi (rest := []) K hW hl (kX7_bidderOf (l := l) (G := G) (ad := ad) hok x1 (-1 : Int32) I J u5 I6 J7 e8) kLM_0 rfl (gG_V q_1701 q_1703 q_122 q_139 q_1704) nm_X7_bidderOf ⟨Nat.le_of_ble_eq_true rfl, Nat.le_of_ble_eq_true rfl⟩ rfl rfl (Nat.le_of_ble_eq_true rfl) ⟨Nat.zero_le _, Nat.zero_le _⟩ dX7_auction_21 (fun z9 H locs hW => ?_)
      refine lv_istore_n (lv' := [(3, .int u5), (0, .ref (ad 0)), (1, .int x1), (2, .int x2)]) hx hb dX7_auction_24 rfl hl (by decide) rfl (fun ls hl => ?_)
      refine lv_iload_n hx hb dX7_auction_25 rfl (lv_at hl 0 rfl) ?_
      refine lv_iconst (v := (-1 : Int32)) hx hb dX7_auction_26 (by decide) ?_
      refine lv_icmp_ne (tgt := 32) hx hb dX7_auction_27 (by decide) (fun c10 => ?_) (fun c10 => ?_)
      · replace h := gi_f h c10
        refine lv_aload_n hx hb dX7_auction_32 rfl (lv_at hl 1 rfl) ?_
        refine lv_iload_n hx hb dX7_auction_33 rfl (lv_at hl 2 rfl) ?_
        refine lv_iload_n hx hb dX7_auction_34 rfl (lv_at hl 0 rfl) ?_
        obtain ⟨⟨u11, I12, J13⟩, e14, h⟩ := bd_o h hn
        replace h := pr_o h
        replace h := pr_o h
        refine g_callVi (rest := []) K hW hl (kX7_bidderOf (l := l) (G := G) (ad := ad) hok x1 u5 I6 J7 u11 I12 J13 e14) kLM_0 rfl (gG_V q_1701 q_1703 q_122 q_139 q_1704) nm_X7_bidderOf ⟨Nat.le_of_ble_eq_true rfl, Nat.le_of_ble_eq_true rfl⟩ rfl rfl (Nat.le_of_ble_eq_true rfl) ⟨Nat.zero_le _, Nat.zero_le _⟩ dX7_auction_35 (fun z15 H locs hW => ?_)
        refine lv_istore (lv' := [(4, .int u11), (3, .int u5), (0, .ref (ad 0)), (1, .int x1), (2, .int x2)]) hx hb dX7_auction_38 hl (by decide) rfl (fun ls hl => ?_)
        refine lv_iconst (v := (0 : Int32)) hx hb dX7_auction_40 (by decide) ?_
        refine lv_istore (lv' := [(5, .int (0 : Int32)), (4, .int u11), (3, .int u5), (0, .ref (ad 0)), (1, .int x1), (2, .int x2)]) hx hb dX7_auction_41 hl (by decide) rfl (fun ls hl => ?_)
        refine lv_iconst (v := (0 : Int32)) hx hb dX7_auction_43 (by decide) ?_
        refine lv_istore (lv' := [(6, .int (0 : Int32)), (5, .int (0 : Int32)), (4, .int u11), (3, .int u5), (0, .ref (ad 0)), (1, .int x1), (2, .int x2)]) hx hb dX7_auction_44 hl (by decide) rfl (fun ls hl => ?_)
        obtain ⟨r36, e37, h⟩ := bd_o h hn
        refine tX7_auction_46 hok K FU x1 x2 u5 u11 (0 : Int32) (0 : Int32) I12 J13 (some r36) e37 (Option.some_ne_none _) _ _ hW _ (lv_sub hl [4, 5, 6, 3, 2, 1, 0] rfl) ?_
        · intro u38 q39 H locs hW ls hl
          replace q39 := Option.some.inj q39
          subst q39
          refine lv_iload_n hx hb dX7_auction_83 rfl (lv_at hl 1 rfl) ?_
          refine lv_if_ne (tgt := 91) hx hb dX7_auction_84 (by decide) (fun c40 => ?_) (fun c40 => ?_)
          · replace h := gi_f h c40
            refine lv_iload_n hx hb dX7_auction_91 rfl (lv_at hl 1 rfl) ?_
            refine lv_iconst (v := (2 : Int32)) hx hb dX7_auction_92 (by decide) ?_
            refine lv_icmp_ne (tgt := 101) hx hb dX7_auction_93 (by decide) (fun c41 => ?_) (fun c41 => ?_)
            · replace h := gi_f h c41
              refine lv_iload hx hb dX7_auction_101 (lv_at hl 3 rfl) ?_
              refine lv_iconst (v := (-1 : Int32)) hx hb dX7_auction_103 (by decide) ?_
              refine lv_icmp_ne (tgt := 111) hx hb dX7_auction_104 (by decide) (fun c42 => ?_) (fun c42 => ?_)
              · replace h := gi_f h c42
                refine lv_aload_n hx hb dX7_auction_111 rfl (lv_at hl 0 rfl) ?_
                refine lv_iload hx hb dX7_auction_112 (lv_at hl 3 rfl) ?_
                obtain ⟨⟨u43, I44, J45⟩, e46, h⟩ := bd_o h hn
                replace h := pr_o h
                replace h := pr_o h
                refine g_callVi (rest := []) K hW hl (kX7_bidFor (l := l) (G := G) (ad := ad) hok u11 I12 J13 u43 I44 J45 e46) kLM_0 rfl (gG_V q_1709 q_1711 q_124 q_139 q_1712) nm_X7_bidFor ⟨Nat.le_of_ble_eq_true rfl, Nat.le_of_ble_eq_true rfl⟩ rfl rfl (Nat.le_of_ble_eq_true rfl) ⟨Nat.zero_le _, Nat.zero_le _⟩ dX7_auction_114 (fun z47 H locs hW => ?_)
                obtain ⟨a1, a2, a3⟩ := so3 h
                replace hW := gWd_nI a2 hW
                replace hW := gWd_nJ a3 hW
                exact g_nmi a1 (hfin _ _ _ _ hW dX7_auction_117)
              · replace h := gi_t h c42
                refine lv_iconst (v := (0 : Int32)) hx hb dX7_auction_107 (by decide) ?_
                refine lv_goto (tgt := 117) hx hb dX7_auction_108 (by decide) ?_
                obtain ⟨a1, a2, a3⟩ := so3 h
                replace hW := gWd_nI a2 hW
                replace hW := gWd_nJ a3 hW
                exact g_nmi a1 (hfin _ _ _ _ hW dX7_auction_117)
            · replace h := gi_t h c41
              refine lv_iload hx hb dX7_auction_96 (lv_at hl 4 rfl) ?_
              refine lv_goto (tgt := 117) hx hb dX7_auction_98 (by decide) ?_
              obtain ⟨a1, a2, a3⟩ := so3 h
              replace hW := gWd_nI a2 hW
              replace hW := gWd_nJ a3 hW
              exact g_nmi a1 (hfin _ _ _ _ hW dX7_auction_117)
          · replace h := gi_t h c40
            refine lv_iload_n hx hb dX7_auction_87 rfl (lv_at hl 2 rfl) ?_
            refine lv_goto (tgt := 117) hx hb dX7_auction_88 (by decide) ?_
            obtain ⟨a1, a2, a3⟩ := so3 h
            replace hW := gWd_nI a2 hW
            replace hW := gWd_nJ a3 hW
            exact g_nmi a1 (hfin _ _ _ _ hW dX7_auction_117)
      · replace h := gi_t h c10
        refine lv_iconst (v := (-1 : Int32)) hx hb dX7_auction_30 (by decide) ?_
        obtain ⟨a1, a2, a3⟩ := so3 h
        replace hW := gWd_nI a2 hW
        replace hW := gWd_nJ a3 hW
        exact g_nmi a1 (hfin _ _ _ _ hW dX7_auction_31)
    · replace h := gi_t h c4
      refine lv_iconst (v := (-1 : Int32)) hx hb dX7_auction_16 (by decide) ?_
      obtain ⟨a1, a2, a3⟩ := so3 h
      replace hW := gWd_nI a2 hW
      replace hW := gWd_nJ a3 hW
      exact g_nmi a1 (hfin _ _ _ _ hW dX7_auction_17)
