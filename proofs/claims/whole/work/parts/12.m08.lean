-- 12.m08: the reference: divisor partOfAll learnt wanted alone since idle poor room foretold broughtBy bestSet pack see oddsOf whole allRows
noncomputable def fX7_divisor_6b  (rec : Int64 → Int64 → Option ((Int64))) (u1 : Int64) (u2 : Int64) : Option ((Int64)) :=
  gi ((lg_cmp u2 (0 : Int64)) = 0)
 (some u1)
 (gd (¬ u2 = 0) (lz ((jlrem u1 u2)) (fun (u6 : Int64) => rec u2 u6)))
noncomputable def fX7_divisor_6  : Nat → Int64 → Int64 → Option ((Int64))
  | 0 => fun _ _ => none
  | n + 1 => fX7_divisor_6b  (fX7_divisor_6  n)
set_option maxHeartbeats 4000000 in
set_option maxRecDepth 100000 in
theorem tX7_divisor_6 {l : Launch} {G : gG} {ad : Nat → Nat} {p : Program} {e : Env} {s : State} {m : MethodId} {args : Array Value} {below : List Frame} {meth : Method} {c : Code} {Q : State → Prop} (hok : gInj LM ad) (K : gCx G (gA LM ad) p s m args c cX7_divisor 10 RX7)  : ∀ (n : Nat) (u1 : Int64) (u2 : Int64) (I : gI) (J : gJ) (out : Option ((Int64))), fX7_divisor_6  n u1 u2 = out → out ≠ none → ∀ (H : Heap) (locs : List Loc), gWd G LM ad (gA LM ad) s.heap I J H locs → ∀ (ls : Array Slot), lv_has ls 10 [(4, .long u1), (6, .long u2)] → (∀ (y3 : Int64), some y3 = out → ∀ (H : Heap) (locs : List Loc), gWd G LM ad (gA LM ad) s.heap I J H locs → ∀ (ls : Array Slot), lv_has ls 10 [(4, .long y3)] → W p l e (gRm 1) s m args below meth c H locs 0 0 Q (F0 m 31 ls [])) → W p l e (gRm 1) s m args below meth c H locs 0 0 Q (F0 m 6 ls []) := by
  have hx := K.1; have hb := K.2.1; have hown := K.2.2.2.1; have hts := K.2.2.2.2.1
  intro n
  induction n with
  | zero => intro u1 u2 I J out h hn; exact absurd h.symm hn
  | succ n ih =>
    intro u1 u2 I J out h hn H locs hW ls hl hx1
    replace h : fX7_divisor_6b  (fX7_divisor_6  n) u1 u2 = out := h
    unfold fX7_divisor_6b at h
    refine lv_lload hx hb dX7_divisor_6 (lv_at hl 1 rfl) ?_
    refine lv_lconst (v := (0 : Int64)) hx hb dX7_divisor_8 rfl ?_
    refine W.lcmp hx hb dX7_divisor_9 ?_
    refine lv_if_eq (tgt := 31) hx hb dX7_divisor_10 (by decide) (fun c4 => ?_) (fun c4 => ?_)
    · replace h := gi_t h c4
      exact hx1 u1 h _ _ hW _ (lv_sub hl [0] rfl)
    · replace h := gi_f h c4
      refine lv_lload hx hb dX7_divisor_13 (lv_at hl 0 rfl) ?_
      refine lv_lload hx hb dX7_divisor_15 (lv_at hl 1 rfl) ?_
      obtain ⟨g5, h⟩ := gd_o h hn
      refine g_lrem hx hb dX7_divisor_17 g5 ?_
      obtain ⟨u6, e7, h⟩ := lz_o h
      refine g_nml e7 ?_
      refine lv_lstore (lv' := [(8, .long u6), (4, .long u1), (6, .long u2)]) hx hb dX7_divisor_18 hl (by decide) rfl (fun ls hl => ?_)
      refine lv_lload hx hb dX7_divisor_20 (lv_at hl 2 rfl) ?_
      refine lv_lstore (lv' := [(4, .long u2), (8, .long u6), (6, .long u2)]) hx hb dX7_divisor_22 hl (by decide) rfl (fun ls hl => ?_)
      refine lv_lload hx hb dX7_divisor_24 (lv_at hl 1 rfl) ?_
      refine lv_lstore (lv' := [(6, .long u6), (4, .long u2), (8, .long u6)]) hx hb dX7_divisor_26 hl (by decide) rfl (fun ls hl => ?_)
      refine lv_goto (tgt := 6) hx hb dX7_divisor_28 (by decide) ?_
      exact ih u2 u6 I J _ h hn _ _ hW _ (lv_sub hl [1, 0] rfl) hx1
noncomputable def fX7_divisor  (x0 : Int64) (x2 : Int64)  : Option (Int64) :=
  bd (fX7_divisor_6 FU x0 x2) (fun (u10 : Int64) => some u10)
set_option maxHeartbeats 4000000 in
set_option maxRecDepth 100000 in
theorem kX7_divisor {l : Launch} {G : gG} {ad : Nat → Nat} (hok : gInj LM ad)    (x0 : Int64) (x2 : Int64) (I : gI) (J : gJ) (r : Int64) (h : fX7_divisor x0 x2 = some r) : gMl l yX7_divisor cX7_divisor 10 (some .long) 1 G LM ad [.long x0, .long x2] I J r I J := by
  refine gMl_of (lst := [(0, .long x0), (2, .long x2)]) (by decide) hok (Nat.le_of_ble_eq_true rfl) rfl ?_
  intro p e s m args below meth c Q ls K hW hl hfin
  have hn : (some r : Option (Int64)) ≠ none := Option.some_ne_none _
  have hx := K.1; have hb := K.2.1; have hown := K.2.2.2.1; have hts := K.2.2.2.2.1
  unfold fX7_divisor at h
  refine lv_lload_n hx hb dX7_divisor_0 rfl (lv_at hl 0 rfl) ?_
  refine lv_lstore (lv' := [(4, .long x0), (0, .long x0), (2, .long x2)]) hx hb dX7_divisor_1 hl (by decide) rfl (fun ls hl => ?_)
  refine lv_lload_n hx hb dX7_divisor_3 rfl (lv_at hl 2 rfl) ?_
  refine lv_lstore (lv' := [(6, .long x2), (4, .long x0), (0, .long x0), (2, .long x2)]) hx hb dX7_divisor_4 hl (by decide) rfl (fun ls hl => ?_)
  obtain ⟨r8, e9, h⟩ := bd_o h hn
  refine tX7_divisor_6 hok K FU x0 x2 I J (some r8) e9 (Option.some_ne_none _) _ _ hW _ (lv_sub hl [1, 0] rfl) ?_
  · intro u10 q11 H locs hW ls hl
    replace q11 := Option.some.inj q11
    subst q11
    refine lv_lload hx hb dX7_divisor_31 (lv_at hl 0 rfl) ?_
    obtain a1 := so1 h
    exact g_nml a1 (hfin _ _ _ _ hW dX7_divisor_33)
theorem nm_X7_divisor : gNm yX7_divisor 2 := by decide +kernel
noncomputable def fX7_partOfAll  (x0 : Int64) (x2 : Int64) (x4 : Int32)  : Option (Int64) :=
  lz (fun (u1 : Int64) => bd (fX7_divisor x0 x2) (fun (u5 : Int64) => gd (¬ u5 = 0) (some (u1 / u5)))) (fun j2 => gi (x4 = 0)
 (j2 x0)
 (j2 x2))
set_option maxHeartbeats 4000000 in
set_option maxRecDepth 100000 in
theorem kX7_partOfAll {l : Launch} {G : gG} {ad : Nat → Nat} (hok : gInj LM ad)    (x0 : Int64) (x2 : Int64) (x4 : Int32) (I : gI) (J : gJ) (r : Int64) (h : fX7_partOfAll x0 x2 x4 = some r) : gMl l yX7_partOfAll cX7_partOfAll 5 (some .long) 2 G LM ad [.long x0, .long x2, .int x4] I J r I J := by
  refine gMl_of (lst := [(0, .long x0), (2, .long x2), (4, .int x4)]) (by decide) hok (Nat.le_of_ble_eq_true rfl) rfl ?_
  intro p e s m args below meth c Q ls K hW hl hfin
  have hn : (some r : Option (Int64)) ≠ none := Option.some_ne_none _
  have hx := K.1; have hb := K.2.1; have hown := K.2.2.2.1; have hts := K.2.2.2.2.1
  unfold fX7_partOfAll at h
  refine lv_iload hx hb dX7_partOfAll_0 (lv_at hl 2 rfl) ?_
  obtain ⟨j2, e3, h⟩ := lz_o h
  have hj4 : ∀ (u1 : Int64), j2 u1 = (some r) → ∀ (H : Heap) (locs : List Loc), gWd G LM ad (gA LM ad) s.heap I J H locs → ∀ (ls : Array Slot), lv_has ls 5 [(0, .long x0), (2, .long x2)] → W p l e (gRm 2) s m args below meth c H locs 0 0 Q (F0 m 10 ls [.long u1]) := by
    intro u1 h H locs hW ls hl
    replace h := jn1 e3 h
    refine lv_lload_n hx hb dX7_partOfAll_10 rfl (lv_at hl 0 rfl) ?_
    refine lv_lload_n hx hb dX7_partOfAll_11 rfl (lv_at hl 1 rfl) ?_
    obtain ⟨u5, e6, h⟩ := bd_o h hn
    refine g_callSl (rest := [.long u1]) K hW hl (kX7_divisor (l := l) (G := G) (ad := ad) hok x0 x2 I J u5 e6) q_1574 q_1575 q_139 q_1576 nm_X7_divisor ⟨Nat.le_of_ble_eq_true rfl, Nat.le_of_ble_eq_true rfl⟩ rfl rfl (Nat.le_of_ble_eq_true rfl) ⟨Nat.zero_le _, Nat.zero_le _⟩ dX7_partOfAll_12 (fun H locs hW => ?_)
    obtain ⟨g8, h⟩ := gd_o h hn
    refine lv_ldiv hx hb dX7_partOfAll_15 g8 ?_
    obtain a1 := so1 h
    exact g_nml a1 (hfin _ _ _ _ hW dX7_partOfAll_16)
  refine lv_if_eq (tgt := 9) hx hb dX7_partOfAll_2 (by decide) (fun c9 => ?_) (fun c9 => ?_)
  · replace h := gi_t h c9
    refine lv_lload_n hx hb dX7_partOfAll_9 rfl (lv_at hl 0 rfl) ?_
    exact hj4 x0 h _ _ hW _ (lv_sub hl [0, 1] rfl)
  · replace h := gi_f h c9
    refine lv_lload_n hx hb dX7_partOfAll_5 rfl (lv_at hl 1 rfl) ?_
    refine lv_goto (tgt := 10) hx hb dX7_partOfAll_6 (by decide) ?_
    exact hj4 x2 h _ _ hW _ (lv_sub hl [0, 1] rfl)
theorem nm_X7_partOfAll : gNm yX7_partOfAll 3 := by decide +kernel
noncomputable def fX7_learnt_19b  (rec : Int32 → Int32 → Int32 → Int32 → Int32 → gI → Option ((Int32 × Int32))) (u3 : Int32) (u4 : Int32) (u5 : Int32) (u6 : Int32) (u7 : Int32) (I : gI) : Option ((Int32 × Int32)) :=
  gi ((I 1 10) ≤ u7)
 (some (u5, u6))
 (bd (fX7_lineOf u7 (1 : Int32) I) (fun (u11 : Int32) => lz (fun (u14 : Int32) => fun (u15 : Int32) => lz ((u7 + (1 : Int32))) (fun (u19 : Int32) => rec u3 u4 u14 u15 u19 I)) (fun j16 => gi (u11 = (3 : Int32))
 (lz ((u6 + (1 : Int32))) (fun (u22 : Int32) => bd (fX7_lineOf u7 (2 : Int32) I) (fun (u24 : Int32) => lz (fun (u27 : Int32) => lz ((u5 + u27)) (fun (u31 : Int32) => j16 u31 u22)) (fun j28 => gi (u24 = u3)
 (j28 (1 : Int32))
 (j28 (0 : Int32))))))
 (j16 u5 u6))))
noncomputable def fX7_learnt_19  : Nat → Int32 → Int32 → Int32 → Int32 → Int32 → gI → Option ((Int32 × Int32))
  | 0 => fun _ _ _ _ _ _ => none
  | n + 1 => fX7_learnt_19b  (fX7_learnt_19  n)
set_option maxHeartbeats 4000000 in
set_option maxRecDepth 100000 in
theorem tX7_learnt_19 {l : Launch} {G : gG} {ad : Nat → Nat} {p : Program} {e : Env} {s : State} {m : MethodId} {args : Array Value} {below : List Frame} {meth : Method} {c : Code} {Q : State → Prop} (hok : gInj LM ad) (K : gCx G (gA LM ad) p s m args c cX7_learnt 6 RX7)  : ∀ (n : Nat) (u3 : Int32) (u4 : Int32) (u5 : Int32) (u6 : Int32) (u7 : Int32) (I : gI) (J : gJ) (out : Option ((Int32 × Int32))), fX7_learnt_19  n u3 u4 u5 u6 u7 I = out → out ≠ none → ∀ (H : Heap) (locs : List Loc), gWd G LM ad (gA LM ad) s.heap I J H locs → ∀ (ls : Array Slot), lv_has ls 6 [(0, .ref (ad 0)), (1, .int u3), (2, .int u4), (3, .int u5), (4, .int u6), (5, .int u7)] → (∀ (y8 : Int32) (y9 : Int32), some (y8, y9) = out → ∀ (H : Heap) (locs : List Loc), gWd G LM ad (gA LM ad) s.heap I J H locs → ∀ (ls : Array Slot), lv_has ls 6 [(2, .int u4), (3, .int y8), (4, .int y9)] → W p l e (gRm 3) s m args below meth c H locs 0 0 Q (F0 m 73 ls [])) → W p l e (gRm 3) s m args below meth c H locs 0 0 Q (F0 m 19 ls []) := by
  have hx := K.1; have hb := K.2.1; have hown := K.2.2.2.1; have hts := K.2.2.2.2.1
  intro n
  induction n with
  | zero => intro u3 u4 u5 u6 u7 I J out h hn; exact absurd h.symm hn
  | succ n ih =>
    intro u3 u4 u5 u6 u7 I J out h hn H locs hW ls hl hx1
    replace h : fX7_learnt_19b  (fX7_learnt_19  n) u3 u4 u5 u6 u7 I = out := h
    unfold fX7_learnt_19b at h
    refine lv_iload hx hb dX7_learnt_19 (lv_at hl 5 rfl) ?_
    refine lv_aload_n hx hb dX7_learnt_21 rfl (lv_at hl 0 rfl) ?_
    refine g_get K hW (t := 2) (ci := 6) (k := 0) (v := .ref (ad 1)) kLM_0 rfl rfl i_X7 (by decide) q_1077 rfl (gfv2 rLM_0_0) dX7_learnt_22 ?_
    refine lv_bipush (v := (10 : Int32)) hx hb dX7_learnt_25 (by decide) ?_
    refine g_iald K hW kLM_1 in_10_1592 tn_10 dX7_learnt_27 ?_
    refine lv_icmp_ge (tgt := 73) hx hb dX7_learnt_28 (by decide) (fun c10 => ?_) (fun c10 => ?_)
    · replace h := gi_t h c10
      exact hx1 u5 u6 h _ _ hW _ (lv_sub hl [2, 3, 4] rfl)
    · replace h := gi_f h c10
      refine lv_aload_n hx hb dX7_learnt_31 rfl (lv_at hl 0 rfl) ?_
      refine lv_iload hx hb dX7_learnt_32 (lv_at hl 5 rfl) ?_
      refine lv_iconst (v := (1 : Int32)) hx hb dX7_learnt_34 (by decide) ?_
      obtain ⟨u11, e12, h⟩ := bd_o h hn
      refine g_callVi (rest := []) K hW hl (kX7_lineOf (l := l) (G := G) (ad := ad) hok u7 (1 : Int32) I J u11 e12) kLM_0 rfl (gG_V q_1546 q_1548 q_110 q_139 q_1549) nm_X7_lineOf ⟨Nat.le_of_ble_eq_true rfl, Nat.le_of_ble_eq_true rfl⟩ rfl rfl (Nat.le_of_ble_eq_true rfl) ⟨Nat.zero_le _, Nat.zero_le _⟩ dX7_learnt_35 (fun z13 H locs hW => ?_)
      refine lv_iconst (v := (3 : Int32)) hx hb dX7_learnt_38 (by decide) ?_
      obtain ⟨j16, e17, h⟩ := lz_o h
      have hj18 : ∀ (u14 : Int32) (u15 : Int32), j16 u14 u15 = out → ∀ (H : Heap) (locs : List Loc), gWd G LM ad (gA LM ad) s.heap I J H locs → ∀ (ls : Array Slot), lv_has ls 6 [(0, .ref (ad 0)), (1, .int u3), (2, .int u4), (3, .int u14), (4, .int u15), (5, .int u7)] → W p l e (gRm 3) s m args below meth c H locs 0 0 Q (F0 m 67 ls []) := by
        intro u14 u15 h H locs hW ls hl
        replace h := jn2 e17 h
        obtain ⟨u19, e20, h⟩ := lz_o h
        refine lv_iinc (v := u19) (lv' := [(5, .int u19), (0, .ref (ad 0)), (1, .int u3), (2, .int u4), (3, .int u14), (4, .int u15)]) hx hb dX7_learnt_67 hl (k := 5) rfl (by rw [e20]; rfl) (by decide) rfl (fun ls hl => ?_)
        refine lv_goto (tgt := 19) hx hb dX7_learnt_70 (by decide) ?_
        exact ih u3 u4 u14 u15 u19 I J _ h hn _ _ hW _ (lv_sub hl [1, 2, 3, 4, 5, 0] rfl) hx1
      refine lv_icmp_eq (tgt := 45) hx hb dX7_learnt_39 (by decide) (fun c21 => ?_) (fun c21 => ?_)
      · replace h := gi_t h c21
        obtain ⟨u22, e23, h⟩ := lz_o h
        refine lv_iinc (v := u22) (lv' := [(4, .int u22), (0, .ref (ad 0)), (1, .int u3), (2, .int u4), (3, .int u5), (5, .int u7)]) hx hb dX7_learnt_45 hl (k := 4) rfl (by rw [e23]; rfl) (by decide) rfl (fun ls hl => ?_)
        refine lv_iload_n hx hb dX7_learnt_48 rfl (lv_at hl 4 rfl) ?_
        refine lv_aload_n hx hb dX7_learnt_49 rfl (lv_at hl 1 rfl) ?_
        refine lv_iload hx hb dX7_learnt_50 (lv_at hl 5 rfl) ?_
        refine lv_iconst (v := (2 : Int32)) hx hb dX7_learnt_52 (by decide) ?_
        obtain ⟨u24, e25, h⟩ := bd_o h hn
        refine g_callVi (rest := [.int u5]) K hW hl (kX7_lineOf (l := l) (G := G) (ad := ad) hok u7 (2 : Int32) I J u24 e25) kLM_0 rfl (gG_V q_1546 q_1548 q_110 q_139 q_1549) nm_X7_lineOf ⟨Nat.le_of_ble_eq_true rfl, Nat.le_of_ble_eq_true rfl⟩ rfl rfl (Nat.le_of_ble_eq_true rfl) ⟨Nat.zero_le _, Nat.zero_le _⟩ dX7_learnt_53 (fun z26 H locs hW => ?_)
        refine lv_iload_n hx hb dX7_learnt_56 rfl (lv_at hl 2 rfl) ?_
        obtain ⟨j28, e29, h⟩ := lz_o h
        have hj30 : ∀ (u27 : Int32), j28 u27 = out → ∀ (H : Heap) (locs : List Loc), gWd G LM ad (gA LM ad) s.heap I J H locs → ∀ (ls : Array Slot), lv_has ls 6 [(0, .ref (ad 0)), (1, .int u3), (2, .int u4), (4, .int u22), (5, .int u7)] → W p l e (gRm 3) s m args below meth c H locs 0 0 Q (F0 m 65 ls [.int u27, .int u5]) := by
          intro u27 h H locs hW ls hl
          replace h := jn1 e29 h
          refine lv_iadd hx hb dX7_learnt_65 ?_
          obtain ⟨u31, e32, h⟩ := lz_o h
          refine g_nmi e32 ?_
          refine lv_istore_n (lv' := [(3, .int u31), (0, .ref (ad 0)), (1, .int u3), (2, .int u4), (4, .int u22), (5, .int u7)]) hx hb dX7_learnt_66 rfl hl (by decide) rfl (fun ls hl => ?_)
          exact hj18 u31 u22 h _ _ hW _ (lv_sub hl [1, 2, 3, 0, 4, 5] rfl)
        refine lv_icmp_ne (tgt := 64) hx hb dX7_learnt_57 (by decide) (fun c33 => ?_) (fun c33 => ?_)
        · replace h := gi_f h c33
          refine lv_iconst (v := (0 : Int32)) hx hb dX7_learnt_64 (by decide) ?_
          exact hj30 (0 : Int32) h _ _ hW _ (lv_sub hl [1, 2, 3, 0, 5] rfl)
        · replace h := gi_t h c33
          refine lv_iconst (v := (1 : Int32)) hx hb dX7_learnt_60 (by decide) ?_
          refine lv_goto (tgt := 65) hx hb dX7_learnt_61 (by decide) ?_
          exact hj30 (1 : Int32) h _ _ hW _ (lv_sub hl [1, 2, 3, 0, 5] rfl)
      · replace h := gi_f h c21
        refine lv_goto (tgt := 67) hx hb dX7_learnt_42 (by decide) ?_
        exact hj18 u5 u6 h _ _ hW _ (lv_sub hl [0, 1, 2, 3, 4, 5] rfl)
noncomputable def fX7_learnt  (x1 : Int32) (x2 : Int32) (I : gI) : Option (Int64) :=
  gi ((fX7_isSort x1) = 0)
 (some (-1 : Int64))
 (bd (fX7_learnt_19 FU x1 x2 (1 : Int32) (5 : Int32) (0 : Int32) I) (pr (fun (u36 : Int32) (u37 : Int32) => bd (fX7_partOfAll (u36).toInt64 (u37).toInt64 x2) (fun (u39 : Int64) => some u39))))
set_option maxHeartbeats 4000000 in
set_option maxRecDepth 100000 in
theorem kX7_learnt {l : Launch} {G : gG} {ad : Nat → Nat} (hok : gInj LM ad)    (x1 : Int32) (x2 : Int32) (I : gI) (J : gJ) (r : Int64) (h : fX7_learnt x1 x2 I = some r) : gMl l yX7_learnt cX7_learnt 6 (some .long) 3 G LM ad [.ref (ad 0), .int x1, .int x2] I J r I J := by
  refine gMl_of (lst := [(0, .ref (ad 0)), (1, .int x1), (2, .int x2)]) (by decide) hok (Nat.le_of_ble_eq_true rfl) rfl ?_
  intro p e s m args below meth c Q ls K hW hl hfin
  have hn : (some r : Option (Int64)) ≠ none := Option.some_ne_none _
  have hx := K.1; have hb := K.2.1; have hown := K.2.2.2.1; have hts := K.2.2.2.2.1
  unfold fX7_learnt at h
  refine lv_iload_n hx hb dX7_learnt_0 rfl (lv_at hl 1 rfl) ?_
  refine g_callSi (rest := []) K hW hl (kX7_isSort (l := l) (G := G) (ad := ad) hok x1 I J (fX7_isSort x1) rfl) q_1168 q_1169 q_139 q_1170 nm_X7_isSort ⟨Nat.le_of_ble_eq_true rfl, Nat.le_of_ble_eq_true rfl⟩ rfl rfl (Nat.le_of_ble_eq_true rfl) ⟨Nat.zero_le _, Nat.zero_le _⟩ dX7_learnt_1 (fun z1 H locs hW => ?_)
  refine lv_if_ne (tgt := 11) hx hb dX7_learnt_4 (by decide) (fun c2 => ?_) (fun c2 => ?_)
  · replace h := gi_f h c2
    refine lv_iconst (v := (1 : Int32)) hx hb dX7_learnt_11 (by decide) ?_
    refine lv_istore_n (lv' := [(3, .int (1 : Int32)), (0, .ref (ad 0)), (1, .int x1), (2, .int x2)]) hx hb dX7_learnt_12 rfl hl (by decide) rfl (fun ls hl => ?_)
    refine lv_iconst (v := (5 : Int32)) hx hb dX7_learnt_13 (by decide) ?_
    refine lv_istore (lv' := [(4, .int (5 : Int32)), (3, .int (1 : Int32)), (0, .ref (ad 0)), (1, .int x1), (2, .int x2)]) hx hb dX7_learnt_14 hl (by decide) rfl (fun ls hl => ?_)
    refine lv_iconst (v := (0 : Int32)) hx hb dX7_learnt_16 (by decide) ?_
    refine lv_istore (lv' := [(5, .int (0 : Int32)), (4, .int (5 : Int32)), (3, .int (1 : Int32)), (0, .ref (ad 0)), (1, .int x1), (2, .int x2)]) hx hb dX7_learnt_17 hl (by decide) rfl (fun ls hl => ?_)
    obtain ⟨r34, e35, h⟩ := bd_o h hn
    refine tX7_learnt_19 hok K FU x1 x2 (1 : Int32) (5 : Int32) (0 : Int32) I J (some r34) e35 (Option.some_ne_none _) _ _ hW _ (lv_sub hl [3, 4, 5, 2, 1, 0] rfl) ?_
    · intro u36 u37 q38 H locs hW ls hl
      replace q38 := Option.some.inj q38
      subst q38
      replace h := pr_o h
      refine lv_iload_n hx hb dX7_learnt_73 rfl (lv_at hl 1 rfl) ?_
      refine lv_i2l hx hb dX7_learnt_74 rfl ?_
      refine lv_iload hx hb dX7_learnt_75 (lv_at hl 2 rfl) ?_
      refine lv_i2l hx hb dX7_learnt_77 rfl ?_
      refine lv_iload_n hx hb dX7_learnt_78 rfl (lv_at hl 0 rfl) ?_
      obtain ⟨u39, e40, h⟩ := bd_o h hn
      refine g_callSl (rest := []) K hW hl (kX7_partOfAll (l := l) (G := G) (ad := ad) hok (u36).toInt64 (u37).toInt64 x2 I J u39 e40) q_1571 q_1572 q_139 q_1573 nm_X7_partOfAll ⟨Nat.le_of_ble_eq_true rfl, Nat.le_of_ble_eq_true rfl⟩ rfl rfl (Nat.le_of_ble_eq_true rfl) ⟨Nat.zero_le _, Nat.zero_le _⟩ dX7_learnt_79 (fun H locs hW => ?_)
      obtain a1 := so1 h
      exact g_nml a1 (hfin _ _ _ _ hW dX7_learnt_82)
  · replace h := gi_t h c2
    refine lv_ldc2 (v := (-1 : Int64)) hx hb hown (hts _ q_1570) dX7_learnt_7 ?_
    obtain a1 := so1 h
    exact g_nml a1 (hfin _ _ _ _ hW dX7_learnt_10)
noncomputable def fX7_wanted_13b  (rec : Int32 → Int32 → Int32 → gI → Option ((Int32))) (u3 : Int32) (u4 : Int32) (u5 : Int32) (I : gI) : Option ((Int32)) :=
  gi ((I 1 0) ≤ u5)
 (some u4)
 (bd (fX7_doesWant u5 u3 I) (fun (u8 : Int32) => lz (fun (u11 : Int32) => lz ((u4 + u11)) (fun (u15 : Int32) => lz ((u5 + (1 : Int32))) (fun (u17 : Int32) => rec u3 u15 u17 I))) (fun j12 => gi (u8 = 0)
 (j12 (0 : Int32))
 (j12 (1 : Int32)))))
noncomputable def fX7_wanted_13  : Nat → Int32 → Int32 → Int32 → gI → Option ((Int32))
  | 0 => fun _ _ _ _ => none
  | n + 1 => fX7_wanted_13b  (fX7_wanted_13  n)
set_option maxHeartbeats 4000000 in
set_option maxRecDepth 100000 in
theorem tX7_wanted_13 {l : Launch} {G : gG} {ad : Nat → Nat} {p : Program} {e : Env} {s : State} {m : MethodId} {args : Array Value} {below : List Frame} {meth : Method} {c : Code} {Q : State → Prop} (hok : gInj LM ad) (K : gCx G (gA LM ad) p s m args c cX7_wanted 4 RX7)  : ∀ (n : Nat) (u3 : Int32) (u4 : Int32) (u5 : Int32) (I : gI) (J : gJ) (out : Option ((Int32))), fX7_wanted_13  n u3 u4 u5 I = out → out ≠ none → ∀ (H : Heap) (locs : List Loc), gWd G LM ad (gA LM ad) s.heap I J H locs → ∀ (ls : Array Slot), lv_has ls 4 [(0, .ref (ad 0)), (1, .int u3), (2, .int u4), (3, .int u5)] → (∀ (y6 : Int32), some y6 = out → ∀ (H : Heap) (locs : List Loc), gWd G LM ad (gA LM ad) s.heap I J H locs → ∀ (ls : Array Slot), lv_has ls 4 [(2, .int y6)] → W p l e (gRm 3) s m args below meth c H locs 0 0 Q (F0 m 46 ls [])) → W p l e (gRm 3) s m args below meth c H locs 0 0 Q (F0 m 13 ls []) := by
  have hx := K.1; have hb := K.2.1; have hown := K.2.2.2.1; have hts := K.2.2.2.2.1
  intro n
  induction n with
  | zero => intro u3 u4 u5 I J out h hn; exact absurd h.symm hn
  | succ n ih =>
    intro u3 u4 u5 I J out h hn H locs hW ls hl hx1
    replace h : fX7_wanted_13b  (fX7_wanted_13  n) u3 u4 u5 I = out := h
    unfold fX7_wanted_13b at h
    refine lv_iload_n hx hb dX7_wanted_13 rfl (lv_at hl 3 rfl) ?_
    refine lv_aload_n hx hb dX7_wanted_14 rfl (lv_at hl 0 rfl) ?_
    refine g_get K hW (t := 2) (ci := 6) (k := 0) (v := .ref (ad 1)) kLM_0 rfl rfl i_X7 (by decide) q_1077 rfl (gfv2 rLM_0_0) dX7_wanted_15 ?_
    refine lv_iconst (v := (0 : Int32)) hx hb dX7_wanted_18 (by decide) ?_
    refine g_iald K hW kLM_1 in_0_1592 tn_0 dX7_wanted_19 ?_
    refine lv_icmp_ge (tgt := 46) hx hb dX7_wanted_20 (by decide) (fun c7 => ?_) (fun c7 => ?_)
    · replace h := gi_t h c7
      exact hx1 u4 h _ _ hW _ (lv_sub hl [2] rfl)
    · replace h := gi_f h c7
      refine lv_iload_n hx hb dX7_wanted_23 rfl (lv_at hl 2 rfl) ?_
      refine lv_aload_n hx hb dX7_wanted_24 rfl (lv_at hl 0 rfl) ?_
      refine lv_iload_n hx hb dX7_wanted_25 rfl (lv_at hl 3 rfl) ?_
      refine lv_iload_n hx hb dX7_wanted_26 rfl (lv_at hl 1 rfl) ?_
      obtain ⟨u8, e9, h⟩ := bd_o h hn
      refine g_callVi (rest := [.int u4]) K hW hl (kX7_doesWant (l := l) (G := G) (ad := ad) hok u5 u3 I J u8 e9) kLM_0 rfl (gG_V q_1354 q_1356 q_81 q_139 q_1357) nm_X7_doesWant ⟨Nat.le_of_ble_eq_true rfl, Nat.le_of_ble_eq_true rfl⟩ rfl rfl (Nat.le_of_ble_eq_true rfl) ⟨Nat.zero_le _, Nat.zero_le _⟩ dX7_wanted_27 (fun z10 H locs hW => ?_)
      obtain ⟨j12, e13, h⟩ := lz_o h
      have hj14 : ∀ (u11 : Int32), j12 u11 = out → ∀ (H : Heap) (locs : List Loc), gWd G LM ad (gA LM ad) s.heap I J H locs → ∀ (ls : Array Slot), lv_has ls 4 [(0, .ref (ad 0)), (1, .int u3), (3, .int u5)] → W p l e (gRm 3) s m args below meth c H locs 0 0 Q (F0 m 38 ls [.int u11, .int u4]) := by
        intro u11 h H locs hW ls hl
        replace h := jn1 e13 h
        refine lv_iadd hx hb dX7_wanted_38 ?_
        obtain ⟨u15, e16, h⟩ := lz_o h
        refine g_nmi e16 ?_
        refine lv_istore_n (lv' := [(2, .int u15), (0, .ref (ad 0)), (1, .int u3), (3, .int u5)]) hx hb dX7_wanted_39 rfl hl (by decide) rfl (fun ls hl => ?_)
        obtain ⟨u17, e18, h⟩ := lz_o h
        refine lv_iinc (v := u17) (lv' := [(3, .int u17), (2, .int u15), (0, .ref (ad 0)), (1, .int u3)]) hx hb dX7_wanted_40 hl (k := 3) rfl (by rw [e18]; rfl) (by decide) rfl (fun ls hl => ?_)
        refine lv_goto (tgt := 13) hx hb dX7_wanted_43 (by decide) ?_
        exact ih u3 u15 u17 I J _ h hn _ _ hW _ (lv_sub hl [2, 3, 1, 0] rfl) hx1
      refine lv_if_eq (tgt := 37) hx hb dX7_wanted_30 (by decide) (fun c19 => ?_) (fun c19 => ?_)
      · replace h := gi_t h c19
        refine lv_iconst (v := (0 : Int32)) hx hb dX7_wanted_37 (by decide) ?_
        exact hj14 (0 : Int32) h _ _ hW _ (lv_sub hl [0, 1, 3] rfl)
      · replace h := gi_f h c19
        refine lv_iconst (v := (1 : Int32)) hx hb dX7_wanted_33 (by decide) ?_
        refine lv_goto (tgt := 38) hx hb dX7_wanted_34 (by decide) ?_
        exact hj14 (1 : Int32) h _ _ hW _ (lv_sub hl [0, 1, 3] rfl)
noncomputable def fX7_wanted  (x1 : Int32) (I : gI) : Option (Int32) :=
  gi ((fX7_isSort x1) = 0)
 (some (-1 : Int32))
 (bd (fX7_wanted_13 FU x1 (0 : Int32) (0 : Int32) I) (fun (u22 : Int32) => some u22))
set_option maxHeartbeats 4000000 in
set_option maxRecDepth 100000 in
theorem kX7_wanted {l : Launch} {G : gG} {ad : Nat → Nat} (hok : gInj LM ad)    (x1 : Int32) (I : gI) (J : gJ) (r : Int32) (h : fX7_wanted x1 I = some r) : gMi l yX7_wanted cX7_wanted 4 (some .int) 3 G LM ad [.ref (ad 0), .int x1] I J r True I J := by
  refine gMi_of (lst := [(0, .ref (ad 0)), (1, .int x1)]) (by decide) hok (Nat.le_of_ble_eq_true rfl) rfl ?_
  intro p e s m args below meth c Q ls K hW hl hfin
  have hn : (some r : Option (Int32)) ≠ none := Option.some_ne_none _
  have hx := K.1; have hb := K.2.1; have hown := K.2.2.2.1; have hts := K.2.2.2.2.1
  unfold fX7_wanted at h
  refine lv_iload_n hx hb dX7_wanted_0 rfl (lv_at hl 1 rfl) ?_
  refine g_callSi (rest := []) K hW hl (kX7_isSort (l := l) (G := G) (ad := ad) hok x1 I J (fX7_isSort x1) rfl) q_1168 q_1169 q_139 q_1170 nm_X7_isSort ⟨Nat.le_of_ble_eq_true rfl, Nat.le_of_ble_eq_true rfl⟩ rfl rfl (Nat.le_of_ble_eq_true rfl) ⟨Nat.zero_le _, Nat.zero_le _⟩ dX7_wanted_1 (fun z1 H locs hW => ?_)
  refine lv_if_ne (tgt := 9) hx hb dX7_wanted_4 (by decide) (fun c2 => ?_) (fun c2 => ?_)
  · replace h := gi_f h c2
    refine lv_iconst (v := (0 : Int32)) hx hb dX7_wanted_9 (by decide) ?_
    refine lv_istore_n (lv' := [(2, .int (0 : Int32)), (0, .ref (ad 0)), (1, .int x1)]) hx hb dX7_wanted_10 rfl hl (by decide) rfl (fun ls hl => ?_)
    refine lv_iconst (v := (0 : Int32)) hx hb dX7_wanted_11 (by decide) ?_
    refine lv_istore_n (lv' := [(3, .int (0 : Int32)), (2, .int (0 : Int32)), (0, .ref (ad 0)), (1, .int x1)]) hx hb dX7_wanted_12 rfl hl (by decide) rfl (fun ls hl => ?_)
    obtain ⟨r20, e21, h⟩ := bd_o h hn
    refine tX7_wanted_13 hok K FU x1 (0 : Int32) (0 : Int32) I J (some r20) e21 (Option.some_ne_none _) _ _ hW _ (lv_sub hl [2, 3, 1, 0] rfl) ?_
    · intro u22 q23 H locs hW ls hl
      replace q23 := Option.some.inj q23
      subst q23
      refine lv_iload_n hx hb dX7_wanted_46 rfl (lv_at hl 0 rfl) ?_
      obtain a1 := so1 h
      exact g_nmi a1 (hfin _ _ _ _ hW dX7_wanted_47)
  · replace h := gi_t h c2
    refine lv_iconst (v := (-1 : Int32)) hx hb dX7_wanted_7 (by decide) ?_
    obtain a1 := so1 h
    exact g_nmi a1 (hfin _ _ _ _ hW dX7_wanted_8)
noncomputable def fX7_alone_18b  (rec : Int32 → Int32 → Int32 → gI → Option ((Int32))) (u6 : Int32) (u7 : Int32) (u8 : Int32) (I : gI) : Option ((Int32)) :=
  gi ((I 1 0) ≤ u8)
 (some u7)
 (lz (fun (u11 : Int32) => lz ((u8 + (1 : Int32))) (fun (u15 : Int32) => rec u6 u11 u15 I)) (fun j12 => gi (u8 = u6)
 (j12 u7)
 (bd (fX7_slicesOf u8 I) (fun (u18 : Int32) => lz ((u7 &&& (u18 ^^^ (-1 : Int32)))) (fun (u21 : Int32) => j12 u21)))))
noncomputable def fX7_alone_18  : Nat → Int32 → Int32 → Int32 → gI → Option ((Int32))
  | 0 => fun _ _ _ _ => none
  | n + 1 => fX7_alone_18b  (fX7_alone_18  n)
set_option maxHeartbeats 4000000 in
set_option maxRecDepth 100000 in
theorem tX7_alone_18 {l : Launch} {G : gG} {ad : Nat → Nat} {p : Program} {e : Env} {s : State} {m : MethodId} {args : Array Value} {below : List Frame} {meth : Method} {c : Code} {Q : State → Prop} (hok : gInj LM ad) (K : gCx G (gA LM ad) p s m args c cX7_alone 4 RX7)  : ∀ (n : Nat) (u6 : Int32) (u7 : Int32) (u8 : Int32) (I : gI) (J : gJ) (out : Option ((Int32))), fX7_alone_18  n u6 u7 u8 I = out → out ≠ none → ∀ (H : Heap) (locs : List Loc), gWd G LM ad (gA LM ad) s.heap I J H locs → ∀ (ls : Array Slot), lv_has ls 4 [(0, .ref (ad 0)), (1, .int u6), (2, .int u7), (3, .int u8)] → (∀ (y9 : Int32), some y9 = out → ∀ (H : Heap) (locs : List Loc), gWd G LM ad (gA LM ad) s.heap I J H locs → ∀ (ls : Array Slot), lv_has ls 4 [(2, .int y9)] → W p l e (gRm 3) s m args below meth c H locs 0 0 Q (F0 m 49 ls [])) → W p l e (gRm 3) s m args below meth c H locs 0 0 Q (F0 m 18 ls []) := by
  have hx := K.1; have hb := K.2.1; have hown := K.2.2.2.1; have hts := K.2.2.2.2.1
  intro n
  induction n with
  | zero => intro u6 u7 u8 I J out h hn; exact absurd h.symm hn
  | succ n ih =>
    intro u6 u7 u8 I J out h hn H locs hW ls hl hx1
    replace h : fX7_alone_18b  (fX7_alone_18  n) u6 u7 u8 I = out := h
    unfold fX7_alone_18b at h
    refine lv_iload_n hx hb dX7_alone_18 rfl (lv_at hl 3 rfl) ?_
    refine lv_aload_n hx hb dX7_alone_19 rfl (lv_at hl 0 rfl) ?_
    refine g_get K hW (t := 2) (ci := 6) (k := 0) (v := .ref (ad 1)) kLM_0 rfl rfl i_X7 (by decide) q_1077 rfl (gfv2 rLM_0_0) dX7_alone_20 ?_
    refine lv_iconst (v := (0 : Int32)) hx hb dX7_alone_23 (by decide) ?_
    refine g_iald K hW kLM_1 in_0_1592 tn_0 dX7_alone_24 ?_
    refine lv_icmp_ge (tgt := 49) hx hb dX7_alone_25 (by decide) (fun c10 => ?_) (fun c10 => ?_)
    · replace h := gi_t h c10
      exact hx1 u7 h _ _ hW _ (lv_sub hl [2] rfl)
    · replace h := gi_f h c10
      refine lv_iload_n hx hb dX7_alone_28 rfl (lv_at hl 3 rfl) ?_
      refine lv_iload_n hx hb dX7_alone_29 rfl (lv_at hl 1 rfl) ?_
      obtain ⟨j12, e13, h⟩ := lz_o h
      have hj14 : ∀ (u11 : Int32), j12 u11 = out → ∀ (H : Heap) (locs : List Loc), gWd G LM ad (gA LM ad) s.heap I J H locs → ∀ (ls : Array Slot), lv_has ls 4 [(0, .ref (ad 0)), (1, .int u6), (2, .int u11), (3, .int u8)] → W p l e (gRm 3) s m args below meth c H locs 0 0 Q (F0 m 43 ls []) := by
        intro u11 h H locs hW ls hl
        replace h := jn1 e13 h
        obtain ⟨u15, e16, h⟩ := lz_o h
        refine lv_iinc (v := u15) (lv' := [(3, .int u15), (0, .ref (ad 0)), (1, .int u6), (2, .int u11)]) hx hb dX7_alone_43 hl (k := 3) rfl (by rw [e16]; rfl) (by decide) rfl (fun ls hl => ?_)
        refine lv_goto (tgt := 18) hx hb dX7_alone_46 (by decide) ?_
        exact ih u6 u11 u15 I J _ h hn _ _ hW _ (lv_sub hl [1, 2, 3, 0] rfl) hx1
      refine lv_icmp_eq (tgt := 43) hx hb dX7_alone_30 (by decide) (fun c17 => ?_) (fun c17 => ?_)
      · replace h := gi_t h c17
        exact hj14 u7 h _ _ hW _ (lv_sub hl [0, 1, 2, 3] rfl)
      · replace h := gi_f h c17
        refine lv_iload_n hx hb dX7_alone_33 rfl (lv_at hl 2 rfl) ?_
        refine lv_aload_n hx hb dX7_alone_34 rfl (lv_at hl 0 rfl) ?_
        refine lv_iload_n hx hb dX7_alone_35 rfl (lv_at hl 3 rfl) ?_
        obtain ⟨u18, e19, h⟩ := bd_o h hn
        refine g_callVi (rest := [.int u7]) K hW hl (kX7_slicesOf (l := l) (G := G) (ad := ad) hok u8 I J u18 e19) kLM_0 rfl (gG_V q_1358 q_1360 q_82 q_139 q_1361) nm_X7_slicesOf ⟨Nat.le_of_ble_eq_true rfl, Nat.le_of_ble_eq_true rfl⟩ rfl rfl (Nat.le_of_ble_eq_true rfl) ⟨Nat.zero_le _, Nat.zero_le _⟩ dX7_alone_36 (fun z20 H locs hW => ?_)
        refine lv_iconst (v := (-1 : Int32)) hx hb dX7_alone_39 (by decide) ?_
        refine lv_ixor hx hb dX7_alone_40 ?_
        refine lv_iand hx hb dX7_alone_41 ?_
        obtain ⟨u21, e22, h⟩ := lz_o h
        refine g_nmi e22 ?_
        refine lv_istore_n (lv' := [(2, .int u21), (0, .ref (ad 0)), (1, .int u6), (3, .int u8)]) hx hb dX7_alone_42 rfl hl (by decide) rfl (fun ls hl => ?_)
        exact hj14 u21 h _ _ hW _ (lv_sub hl [1, 2, 0, 3] rfl)
noncomputable def fX7_alone  (x1 : Int32) (I : gI) : Option (Int32) :=
  gi ((fX7_isBuyer x1 I) = 0)
 (some (-1 : Int32))
 (bd (fX7_slicesOf x1 I) (fun (u3 : Int32) => bd (fX7_alone_18 FU x1 u3 (0 : Int32) I) (fun (u25 : Int32) => some u25)))
set_option maxHeartbeats 4000000 in
set_option maxRecDepth 100000 in
theorem kX7_alone {l : Launch} {G : gG} {ad : Nat → Nat} (hok : gInj LM ad)    (x1 : Int32) (I : gI) (J : gJ) (r : Int32) (h : fX7_alone x1 I = some r) : gMi l yX7_alone cX7_alone 4 (some .int) 3 G LM ad [.ref (ad 0), .int x1] I J r True I J := by
  refine gMi_of (lst := [(0, .ref (ad 0)), (1, .int x1)]) (by decide) hok (Nat.le_of_ble_eq_true rfl) rfl ?_
  intro p e s m args below meth c Q ls K hW hl hfin
  have hn : (some r : Option (Int32)) ≠ none := Option.some_ne_none _
  have hx := K.1; have hb := K.2.1; have hown := K.2.2.2.1; have hts := K.2.2.2.2.1
  unfold fX7_alone at h
  refine lv_aload_n hx hb dX7_alone_0 rfl (lv_at hl 0 rfl) ?_
  refine lv_iload_n hx hb dX7_alone_1 rfl (lv_at hl 1 rfl) ?_
  refine g_callVi (rest := []) K hW hl (kX7_isBuyer (l := l) (G := G) (ad := ad) hok x1 I J (fX7_isBuyer x1 I) rfl) kLM_0 rfl (gG_V q_1350 q_1352 q_80 q_139 q_1353) nm_X7_isBuyer ⟨Nat.le_of_ble_eq_true rfl, Nat.le_of_ble_eq_true rfl⟩ rfl rfl (Nat.le_of_ble_eq_true rfl) ⟨Nat.zero_le _, Nat.zero_le _⟩ dX7_alone_2 (fun z1 H locs hW => ?_)
  refine lv_if_ne (tgt := 10) hx hb dX7_alone_5 (by decide) (fun c2 => ?_) (fun c2 => ?_)
  · replace h := gi_f h c2
    refine lv_aload_n hx hb dX7_alone_10 rfl (lv_at hl 0 rfl) ?_
    refine lv_iload_n hx hb dX7_alone_11 rfl (lv_at hl 1 rfl) ?_
    obtain ⟨u3, e4, h⟩ := bd_o h hn
    refine g_callVi (rest := []) K hW hl (kX7_slicesOf (l := l) (G := G) (ad := ad) hok x1 I J u3 e4) kLM_0 rfl (gG_V q_1358 q_1360 q_82 q_139 q_1361) nm_X7_slicesOf ⟨Nat.le_of_ble_eq_true rfl, Nat.le_of_ble_eq_true rfl⟩ rfl rfl (Nat.le_of_ble_eq_true rfl) ⟨Nat.zero_le _, Nat.zero_le _⟩ dX7_alone_12 (fun z5 H locs hW => ?_)
    refine lv_istore_n (lv' := [(2, .int u3), (0, .ref (ad 0)), (1, .int x1)]) hx hb dX7_alone_15 rfl hl (by decide) rfl (fun ls hl => ?_)
    refine lv_iconst (v := (0 : Int32)) hx hb dX7_alone_16 (by decide) ?_
    refine lv_istore_n (lv' := [(3, .int (0 : Int32)), (2, .int u3), (0, .ref (ad 0)), (1, .int x1)]) hx hb dX7_alone_17 rfl hl (by decide) rfl (fun ls hl => ?_)
    obtain ⟨r23, e24, h⟩ := bd_o h hn
    refine tX7_alone_18 hok K FU x1 u3 (0 : Int32) I J (some r23) e24 (Option.some_ne_none _) _ _ hW _ (lv_sub hl [2, 3, 1, 0] rfl) ?_
    · intro u25 q26 H locs hW ls hl
      replace q26 := Option.some.inj q26
      subst q26
      refine lv_iload_n hx hb dX7_alone_49 rfl (lv_at hl 0 rfl) ?_
      obtain a1 := so1 h
      exact g_nmi a1 (hfin _ _ _ _ hW dX7_alone_50)
  · replace h := gi_t h c2
    refine lv_iconst (v := (-1 : Int32)) hx hb dX7_alone_8 (by decide) ?_
    obtain a1 := so1 h
    exact g_nmi a1 (hfin _ _ _ _ hW dX7_alone_9)
noncomputable def fX7_since_19b  (rec : Int32 → Int32 → gI → Option ((Int32) ⊕ (Unit))) (u5 : Int32) (u6 : Int32) (I : gI) : Option ((Int32) ⊕ (Unit)) :=
  gi (u6 < 0)
 (some (Sum.inr ()))
 (bd (fX7_lineOf u6 (1 : Int32) I) (fun (u9 : Int32) => lz (lz ((u6 + (-1 : Int32))) (fun (u15 : Int32) => rec u5 u15 I)) (fun j12 => gi (u9 = (3 : Int32))
 (bd (fX7_lineOf u6 (2 : Int32) I) (fun (u18 : Int32) => gi (u18 = u5)
 (some (Sum.inl u6))
 (j12)))
 (j12))))
noncomputable def fX7_since_19  : Nat → Int32 → Int32 → gI → Option ((Int32) ⊕ (Unit))
  | 0 => fun _ _ _ => none
  | n + 1 => fX7_since_19b  (fX7_since_19  n)
set_option maxHeartbeats 4000000 in
set_option maxRecDepth 100000 in
theorem tX7_since_19 {l : Launch} {G : gG} {ad : Nat → Nat} {p : Program} {e : Env} {s : State} {m : MethodId} {args : Array Value} {below : List Frame} {meth : Method} {c : Code} {Q : State → Prop} (hok : gInj LM ad) (K : gCx G (gA LM ad) p s m args c cX7_since 3 RX7)  : ∀ (n : Nat) (u5 : Int32) (u6 : Int32) (I : gI) (J : gJ) (out : Option ((Int32) ⊕ (Unit))), fX7_since_19  n u5 u6 I = out → out ≠ none → ∀ (H : Heap) (locs : List Loc), gWd G LM ad (gA LM ad) s.heap I J H locs → ∀ (ls : Array Slot), lv_has ls 3 [(0, .ref (ad 0)), (1, .int u5), (2, .int u6)] → (∀ (y7 : Int32), some (Sum.inl y7) = out → ∀ (H : Heap) (locs : List Loc), gWd G LM ad (gA LM ad) s.heap I J H locs → ∀ (ls : Array Slot), lv_has ls 3 [(0, .ref (ad 0)), (2, .int y7)] → W p l e (gRm 3) s m args below meth c H locs 0 0 Q (F0 m 43 ls [])) → (some (Sum.inr ()) = out → ∀ (H : Heap) (locs : List Loc), gWd G LM ad (gA LM ad) s.heap I J H locs → ∀ (ls : Array Slot), lv_has ls 3 [] → W p l e (gRm 3) s m args below meth c H locs 0 0 Q (F0 m 64 ls [])) → W p l e (gRm 3) s m args below meth c H locs 0 0 Q (F0 m 19 ls []) := by
  have hx := K.1; have hb := K.2.1; have hown := K.2.2.2.1; have hts := K.2.2.2.2.1
  intro n
  induction n with
  | zero => intro u5 u6 I J out h hn; exact absurd h.symm hn
  | succ n ih =>
    intro u5 u6 I J out h hn H locs hW ls hl hx1 hx2
    replace h : fX7_since_19b  (fX7_since_19  n) u5 u6 I = out := h
    unfold fX7_since_19b at h
    refine lv_iload_n hx hb dX7_since_19 rfl (lv_at hl 2 rfl) ?_
    refine lv_if_lt (tgt := 64) hx hb dX7_since_20 (by decide) (fun c8 => ?_) (fun c8 => ?_)
    · replace h := gi_t h c8
      exact hx2 h _ _ hW _ (lv_sub hl [] rfl)
    · replace h := gi_f h c8
      refine lv_aload_n hx hb dX7_since_23 rfl (lv_at hl 0 rfl) ?_
      refine lv_iload_n hx hb dX7_since_24 rfl (lv_at hl 2 rfl) ?_
      refine lv_iconst (v := (1 : Int32)) hx hb dX7_since_25 (by decide) ?_
      obtain ⟨u9, e10, h⟩ := bd_o h hn
      refine g_callVi (rest := []) K hW hl (kX7_lineOf (l := l) (G := G) (ad := ad) hok u6 (1 : Int32) I J u9 e10) kLM_0 rfl (gG_V q_1546 q_1548 q_110 q_139 q_1549) nm_X7_lineOf ⟨Nat.le_of_ble_eq_true rfl, Nat.le_of_ble_eq_true rfl⟩ rfl rfl (Nat.le_of_ble_eq_true rfl) ⟨Nat.zero_le _, Nat.zero_le _⟩ dX7_since_26 (fun z11 H locs hW => ?_)
      refine lv_iconst (v := (3 : Int32)) hx hb dX7_since_29 (by decide) ?_
      obtain ⟨j12, e13, h⟩ := lz_o h
      have hj14 : j12 = out → ∀ (H : Heap) (locs : List Loc), gWd G LM ad (gA LM ad) s.heap I J H locs → ∀ (ls : Array Slot), lv_has ls 3 [(0, .ref (ad 0)), (1, .int u5), (2, .int u6)] → W p l e (gRm 3) s m args below meth c H locs 0 0 Q (F0 m 58 ls []) := by
        intro h H locs hW ls hl
        replace h := jn0 e13 h
        obtain ⟨u15, e16, h⟩ := lz_o h
        refine lv_iinc (v := u15) (lv' := [(2, .int u15), (0, .ref (ad 0)), (1, .int u5)]) hx hb dX7_since_58 hl (k := 2) rfl (by rw [e16]; rfl) (by decide) rfl (fun ls hl => ?_)
        refine lv_goto (tgt := 19) hx hb dX7_since_61 (by decide) ?_
        exact ih u5 u15 I J _ h hn _ _ hW _ (lv_sub hl [1, 2, 0] rfl) hx1 hx2
      refine lv_icmp_ne (tgt := 58) hx hb dX7_since_30 (by decide) (fun c17 => ?_) (fun c17 => ?_)
      · replace h := gi_f h c17
        exact hj14 h _ _ hW _ (lv_sub hl [0, 1, 2] rfl)
      · replace h := gi_t h c17
        refine lv_aload_n hx hb dX7_since_33 rfl (lv_at hl 0 rfl) ?_
        refine lv_iload_n hx hb dX7_since_34 rfl (lv_at hl 2 rfl) ?_
        refine lv_iconst (v := (2 : Int32)) hx hb dX7_since_35 (by decide) ?_
        obtain ⟨u18, e19, h⟩ := bd_o h hn
        refine g_callVi (rest := []) K hW hl (kX7_lineOf (l := l) (G := G) (ad := ad) hok u6 (2 : Int32) I J u18 e19) kLM_0 rfl (gG_V q_1546 q_1548 q_110 q_139 q_1549) nm_X7_lineOf ⟨Nat.le_of_ble_eq_true rfl, Nat.le_of_ble_eq_true rfl⟩ rfl rfl (Nat.le_of_ble_eq_true rfl) ⟨Nat.zero_le _, Nat.zero_le _⟩ dX7_since_36 (fun z20 H locs hW => ?_)
        refine lv_iload_n hx hb dX7_since_39 rfl (lv_at hl 1 rfl) ?_
        refine lv_icmp_ne (tgt := 58) hx hb dX7_since_40 (by decide) (fun c21 => ?_) (fun c21 => ?_)
        · replace h := gi_f h c21
          exact hj14 h _ _ hW _ (lv_sub hl [0, 1, 2] rfl)
        · replace h := gi_t h c21
          exact hx1 u6 h _ _ hW _ (lv_sub hl [0, 2] rfl)
noncomputable def fX7_since  (x1 : Int32) (I : gI) : Option (Int32) :=
  gi ((fX7_isSort x1) = 0)
 (some (-1 : Int32))
 (lz (((I 1 10) - (1 : Int32))) (fun (u3 : Int32) => bd (fX7_since_19 FU x1 u3 I) (sm (fun (u24 : Int32) => bd (fX7_lineOf u24 (0 : Int32) I) (fun (u26 : Int32) => some ((I 1 6) - u26))) (fun _ => some (-1 : Int32)))))
set_option maxHeartbeats 4000000 in
set_option maxRecDepth 100000 in
theorem kX7_since {l : Launch} {G : gG} {ad : Nat → Nat} (hok : gInj LM ad)    (x1 : Int32) (I : gI) (J : gJ) (r : Int32) (h : fX7_since x1 I = some r) : gMi l yX7_since cX7_since 3 (some .int) 3 G LM ad [.ref (ad 0), .int x1] I J r True I J := by
  refine gMi_of (lst := [(0, .ref (ad 0)), (1, .int x1)]) (by decide) hok (Nat.le_of_ble_eq_true rfl) rfl ?_
  intro p e s m args below meth c Q ls K hW hl hfin
  have hn : (some r : Option (Int32)) ≠ none := Option.some_ne_none _
  have hx := K.1; have hb := K.2.1; have hown := K.2.2.2.1; have hts := K.2.2.2.2.1
  unfold fX7_since at h
  refine lv_iload_n hx hb dX7_since_0 rfl (lv_at hl 1 rfl) ?_
  refine g_callSi (rest := []) K hW hl (kX7_isSort (l := l) (G := G) (ad := ad) hok x1 I J (fX7_isSort x1) rfl) q_1168 q_1169 q_139 q_1170 nm_X7_isSort ⟨Nat.le_of_ble_eq_true rfl, Nat.le_of_ble_eq_true rfl⟩ rfl rfl (Nat.le_of_ble_eq_true rfl) ⟨Nat.zero_le _, Nat.zero_le _⟩ dX7_since_1 (fun z1 H locs hW => ?_)
  refine lv_if_ne (tgt := 9) hx hb dX7_since_4 (by decide) (fun c2 => ?_) (fun c2 => ?_)
  · replace h := gi_f h c2
    refine lv_aload_n hx hb dX7_since_9 rfl (lv_at hl 0 rfl) ?_
    refine g_get K hW (t := 2) (ci := 6) (k := 0) (v := .ref (ad 1)) kLM_0 rfl rfl i_X7 (by decide) q_1077 rfl (gfv2 rLM_0_0) dX7_since_10 ?_
    refine lv_bipush (v := (10 : Int32)) hx hb dX7_since_13 (by decide) ?_
    refine g_iald K hW kLM_1 in_10_1592 tn_10 dX7_since_15 ?_
    refine lv_iconst (v := (1 : Int32)) hx hb dX7_since_16 (by decide) ?_
    refine lv_isub hx hb dX7_since_17 ?_
    obtain ⟨u3, e4, h⟩ := lz_o h
    refine g_nmi e4 ?_
    refine lv_istore_n (lv' := [(2, .int u3), (0, .ref (ad 0)), (1, .int x1)]) hx hb dX7_since_18 rfl hl (by decide) rfl (fun ls hl => ?_)
    obtain ⟨r22, e23, h⟩ := bd_o h hn
    refine tX7_since_19 hok K FU x1 u3 I J (some r22) e23 (Option.some_ne_none _) _ _ hW _ (lv_sub hl [1, 2, 0] rfl) ?_ ?_
    · intro u24 q25 H locs hW ls hl
      replace q25 := Option.some.inj q25
      subst q25
      replace h := sm_l h
      refine lv_aload_n hx hb dX7_since_43 rfl (lv_at hl 0 rfl) ?_
      refine g_get K hW (t := 2) (ci := 6) (k := 0) (v := .ref (ad 1)) kLM_0 rfl rfl i_X7 (by decide) q_1077 rfl (gfv2 rLM_0_0) dX7_since_44 ?_
      refine lv_bipush (v := (6 : Int32)) hx hb dX7_since_47 (by decide) ?_
      refine g_iald K hW kLM_1 in_6_1592 tn_6 dX7_since_49 ?_
      refine lv_aload_n hx hb dX7_since_50 rfl (lv_at hl 0 rfl) ?_
      refine lv_iload_n hx hb dX7_since_51 rfl (lv_at hl 1 rfl) ?_
      refine lv_iconst (v := (0 : Int32)) hx hb dX7_since_52 (by decide) ?_
      obtain ⟨u26, e27, h⟩ := bd_o h hn
      refine g_callVi (rest := [.int (I 1 6)]) K hW hl (kX7_lineOf (l := l) (G := G) (ad := ad) hok u24 (0 : Int32) I J u26 e27) kLM_0 rfl (gG_V q_1546 q_1548 q_110 q_139 q_1549) nm_X7_lineOf ⟨Nat.le_of_ble_eq_true rfl, Nat.le_of_ble_eq_true rfl⟩ rfl rfl (Nat.le_of_ble_eq_true rfl) ⟨Nat.zero_le _, Nat.zero_le _⟩ dX7_since_53 (fun z28 H locs hW => ?_)
      refine lv_isub hx hb dX7_since_56 ?_
      obtain a1 := so1 h
      exact g_nmi a1 (hfin _ _ _ _ hW dX7_since_57)
    · intro q29 H locs hW ls hl
      replace q29 := Option.some.inj q29
      subst q29
      replace h := sm_r h
      refine lv_iconst (v := (-1 : Int32)) hx hb dX7_since_64 (by decide) ?_
      obtain a1 := so1 h
      exact g_nmi a1 (hfin _ _ _ _ hW dX7_since_65)
  · replace h := gi_t h c2
    refine lv_iconst (v := (-1 : Int32)) hx hb dX7_since_7 (by decide) ?_
    obtain a1 := so1 h
    exact g_nmi a1 (hfin _ _ _ _ hW dX7_since_8)
noncomputable def fX7_idle_7b  (rec : Int32 → Int32 → gI → Option ((Int32))) (u4 : Int32) (u5 : Int32) (I : gI) : Option ((Int32)) :=
  gi ((I 1 0) ≤ u5)
 (some u4)
 (bd (fX7_doesWant u5 (I 1 9) I) (fun (u8 : Int32) => lz (fun (u11 : Int32) => lz ((u5 + (1 : Int32))) (fun (u15 : Int32) => rec u11 u15 I)) (fun j12 => gi (u8 = 0)
 (j12 u4)
 (bd (fX7_slicesOf u5 I) (fun (u18 : Int32) => lz ((u4 &&& (u18 ^^^ (-1 : Int32)))) (fun (u21 : Int32) => j12 u21))))))
noncomputable def fX7_idle_7  : Nat → Int32 → Int32 → gI → Option ((Int32))
  | 0 => fun _ _ _ => none
  | n + 1 => fX7_idle_7b  (fX7_idle_7  n)
set_option maxHeartbeats 4000000 in
set_option maxRecDepth 100000 in
theorem tX7_idle_7 {l : Launch} {G : gG} {ad : Nat → Nat} {p : Program} {e : Env} {s : State} {m : MethodId} {args : Array Value} {below : List Frame} {meth : Method} {c : Code} {Q : State → Prop} (hok : gInj LM ad) (K : gCx G (gA LM ad) p s m args c cX7_idle 3 RX7)  : ∀ (n : Nat) (u4 : Int32) (u5 : Int32) (I : gI) (J : gJ) (out : Option ((Int32))), fX7_idle_7  n u4 u5 I = out → out ≠ none → ∀ (H : Heap) (locs : List Loc), gWd G LM ad (gA LM ad) s.heap I J H locs → ∀ (ls : Array Slot), lv_has ls 3 [(0, .ref (ad 0)), (1, .int u4), (2, .int u5)] → (∀ (y6 : Int32), some y6 = out → ∀ (H : Heap) (locs : List Loc), gWd G LM ad (gA LM ad) s.heap I J H locs → ∀ (ls : Array Slot), lv_has ls 3 [(1, .int y6)] → W p l e (gRm 3) s m args below meth c H locs 0 0 Q (F0 m 48 ls [])) → W p l e (gRm 3) s m args below meth c H locs 0 0 Q (F0 m 7 ls []) := by
  have hx := K.1; have hb := K.2.1; have hown := K.2.2.2.1; have hts := K.2.2.2.2.1
  intro n
  induction n with
  | zero => intro u4 u5 I J out h hn; exact absurd h.symm hn
  | succ n ih =>
    intro u4 u5 I J out h hn H locs hW ls hl hx1
    replace h : fX7_idle_7b  (fX7_idle_7  n) u4 u5 I = out := h
    unfold fX7_idle_7b at h
    refine lv_iload_n hx hb dX7_idle_7 rfl (lv_at hl 2 rfl) ?_
    refine lv_aload_n hx hb dX7_idle_8 rfl (lv_at hl 0 rfl) ?_
    refine g_get K hW (t := 2) (ci := 6) (k := 0) (v := .ref (ad 1)) kLM_0 rfl rfl i_X7 (by decide) q_1077 rfl (gfv2 rLM_0_0) dX7_idle_9 ?_
    refine lv_iconst (v := (0 : Int32)) hx hb dX7_idle_12 (by decide) ?_
    refine g_iald K hW kLM_1 in_0_1592 tn_0 dX7_idle_13 ?_
    refine lv_icmp_ge (tgt := 48) hx hb dX7_idle_14 (by decide) (fun c7 => ?_) (fun c7 => ?_)
    · replace h := gi_t h c7
      exact hx1 u4 h _ _ hW _ (lv_sub hl [1] rfl)
    · replace h := gi_f h c7
      refine lv_aload_n hx hb dX7_idle_17 rfl (lv_at hl 0 rfl) ?_
      refine lv_iload_n hx hb dX7_idle_18 rfl (lv_at hl 2 rfl) ?_
      refine lv_aload_n hx hb dX7_idle_19 rfl (lv_at hl 0 rfl) ?_
      refine g_get K hW (t := 2) (ci := 6) (k := 0) (v := .ref (ad 1)) kLM_0 rfl rfl i_X7 (by decide) q_1077 rfl (gfv2 rLM_0_0) dX7_idle_20 ?_
      refine lv_bipush (v := (9 : Int32)) hx hb dX7_idle_23 (by decide) ?_
      refine g_iald K hW kLM_1 in_9_1592 tn_9 dX7_idle_25 ?_
      obtain ⟨u8, e9, h⟩ := bd_o h hn
      refine g_callVi (rest := []) K hW hl (kX7_doesWant (l := l) (G := G) (ad := ad) hok u5 (I 1 9) I J u8 e9) kLM_0 rfl (gG_V q_1354 q_1356 q_81 q_139 q_1357) nm_X7_doesWant ⟨Nat.le_of_ble_eq_true rfl, Nat.le_of_ble_eq_true rfl⟩ rfl rfl (Nat.le_of_ble_eq_true rfl) ⟨Nat.zero_le _, Nat.zero_le _⟩ dX7_idle_26 (fun z10 H locs hW => ?_)
      obtain ⟨j12, e13, h⟩ := lz_o h
      have hj14 : ∀ (u11 : Int32), j12 u11 = out → ∀ (H : Heap) (locs : List Loc), gWd G LM ad (gA LM ad) s.heap I J H locs → ∀ (ls : Array Slot), lv_has ls 3 [(0, .ref (ad 0)), (1, .int u11), (2, .int u5)] → W p l e (gRm 3) s m args below meth c H locs 0 0 Q (F0 m 42 ls []) := by
        intro u11 h H locs hW ls hl
        replace h := jn1 e13 h
        obtain ⟨u15, e16, h⟩ := lz_o h
        refine lv_iinc (v := u15) (lv' := [(2, .int u15), (0, .ref (ad 0)), (1, .int u11)]) hx hb dX7_idle_42 hl (k := 2) rfl (by rw [e16]; rfl) (by decide) rfl (fun ls hl => ?_)
        refine lv_goto (tgt := 7) hx hb dX7_idle_45 (by decide) ?_
        exact ih u11 u15 I J _ h hn _ _ hW _ (lv_sub hl [1, 2, 0] rfl) hx1
      refine lv_if_eq (tgt := 42) hx hb dX7_idle_29 (by decide) (fun c17 => ?_) (fun c17 => ?_)
      · replace h := gi_t h c17
        exact hj14 u4 h _ _ hW _ (lv_sub hl [0, 1, 2] rfl)
      · replace h := gi_f h c17
        refine lv_iload_n hx hb dX7_idle_32 rfl (lv_at hl 1 rfl) ?_
        refine lv_aload_n hx hb dX7_idle_33 rfl (lv_at hl 0 rfl) ?_
        refine lv_iload_n hx hb dX7_idle_34 rfl (lv_at hl 2 rfl) ?_
        obtain ⟨u18, e19, h⟩ := bd_o h hn
        refine g_callVi (rest := [.int u4]) K hW hl (kX7_slicesOf (l := l) (G := G) (ad := ad) hok u5 I J u18 e19) kLM_0 rfl (gG_V q_1358 q_1360 q_82 q_139 q_1361) nm_X7_slicesOf ⟨Nat.le_of_ble_eq_true rfl, Nat.le_of_ble_eq_true rfl⟩ rfl rfl (Nat.le_of_ble_eq_true rfl) ⟨Nat.zero_le _, Nat.zero_le _⟩ dX7_idle_35 (fun z20 H locs hW => ?_)
        refine lv_iconst (v := (-1 : Int32)) hx hb dX7_idle_38 (by decide) ?_
        refine lv_ixor hx hb dX7_idle_39 ?_
        refine lv_iand hx hb dX7_idle_40 ?_
        obtain ⟨u21, e22, h⟩ := lz_o h
        refine g_nmi e22 ?_
        refine lv_istore_n (lv' := [(1, .int u21), (0, .ref (ad 0)), (2, .int u5)]) hx hb dX7_idle_41 rfl hl (by decide) rfl (fun ls hl => ?_)
        exact hj14 u21 h _ _ hW _ (lv_sub hl [1, 0, 2] rfl)
noncomputable def fX7_idle   (I : gI) : Option (Int32) :=
  bd (fX7_freeNow I) (fun (u1 : Int32) => bd (fX7_idle_7 FU u1 (0 : Int32) I) (fun (u25 : Int32) => some u25))
set_option maxHeartbeats 4000000 in
set_option maxRecDepth 100000 in
theorem kX7_idle {l : Launch} {G : gG} {ad : Nat → Nat} (hok : gInj LM ad)     (I : gI) (J : gJ) (r : Int32) (h : fX7_idle I = some r) : gMi l yX7_idle cX7_idle 3 (some .int) 3 G LM ad [.ref (ad 0)] I J r True I J := by
  refine gMi_of (lst := [(0, .ref (ad 0))]) (by decide) hok (Nat.le_of_ble_eq_true rfl) rfl ?_
  intro p e s m args below meth c Q ls K hW hl hfin
  have hn : (some r : Option (Int32)) ≠ none := Option.some_ne_none _
  have hx := K.1; have hb := K.2.1; have hown := K.2.2.2.1; have hts := K.2.2.2.2.1
  unfold fX7_idle at h
  refine lv_aload_n hx hb dX7_idle_0 rfl (lv_at hl 0 rfl) ?_
  obtain ⟨u1, e2, h⟩ := bd_o h hn
  refine g_callVi (rest := []) K hW hl (kX7_freeNow (l := l) (G := G) (ad := ad) hok I J u1 e2) kLM_0 rfl (gG_V q_1366 q_1368 q_84 q_139 q_1369) nm_X7_freeNow ⟨Nat.le_of_ble_eq_true rfl, Nat.le_of_ble_eq_true rfl⟩ rfl rfl (Nat.le_of_ble_eq_true rfl) ⟨Nat.zero_le _, Nat.zero_le _⟩ dX7_idle_1 (fun z3 H locs hW => ?_)
  refine lv_istore_n (lv' := [(1, .int u1), (0, .ref (ad 0))]) hx hb dX7_idle_4 rfl hl (by decide) rfl (fun ls hl => ?_)
  refine lv_iconst (v := (0 : Int32)) hx hb dX7_idle_5 (by decide) ?_
  refine lv_istore_n (lv' := [(2, .int (0 : Int32)), (1, .int u1), (0, .ref (ad 0))]) hx hb dX7_idle_6 rfl hl (by decide) rfl (fun ls hl => ?_)
  obtain ⟨r23, e24, h⟩ := bd_o h hn
  refine tX7_idle_7 hok K FU u1 (0 : Int32) I J (some r23) e24 (Option.some_ne_none _) _ _ hW _ (lv_sub hl [2, 1, 0] rfl) ?_
  · intro u25 q26 H locs hW ls hl
    replace q26 := Option.some.inj q26
    subst q26
    refine lv_iload_n hx hb dX7_idle_48 rfl (lv_at hl 0 rfl) ?_
    obtain a1 := so1 h
    exact g_nmi a1 (hfin _ _ _ _ hW dX7_idle_49)
noncomputable def fX7_poor_4b  (rec : Int32 → Int32 → gI → gJ → Option ((Int32 × gI × gJ))) (u1 : Int32) (u2 : Int32) (I : gI) (J : gJ) : Option ((Int32 × gI × gJ)) :=
  gi ((I 1 0) ≤ u2)
 (some (u1, I, J))
 (gd (vp_in ((23 : Int32) + u2) 1592) (bd (fX7_bidsNow u2 I J) (pr (fun (u8 : Int32) => pr (fun (I9 : gI) (J10 : gJ) => lz (fun (u13 : Int32) => lz ((u1 ||| u13)) (fun (u17 : Int32) => lz ((u2 + (1 : Int32))) (fun (u19 : Int32) => rec u17 u19 I9 J10))) (fun j14 => gi (u8 ≤ (I 1 (((23 : Int32) + u2)).toNatClampNeg))
 (j14 (0 : Int32))
 (j14 (jshl (1 : Int32) u2))))))))
noncomputable def fX7_poor_4  : Nat → Int32 → Int32 → gI → gJ → Option ((Int32 × gI × gJ))
  | 0 => fun _ _ _ _ => none
  | n + 1 => fX7_poor_4b  (fX7_poor_4  n)
set_option maxHeartbeats 4000000 in
set_option maxRecDepth 100000 in
theorem tX7_poor_4 {l : Launch} {G : gG} {ad : Nat → Nat} {p : Program} {e : Env} {s : State} {m : MethodId} {args : Array Value} {below : List Frame} {meth : Method} {c : Code} {Q : State → Prop} (hok : gInj LM ad) (K : gCx G (gA LM ad) p s m args c cX7_poor 3 RX7)  : ∀ (n : Nat) (u1 : Int32) (u2 : Int32) (I : gI) (J : gJ) (out : Option ((Int32 × gI × gJ))), fX7_poor_4  n u1 u2 I J = out → out ≠ none → ∀ (H : Heap) (locs : List Loc), gWd G LM ad (gA LM ad) s.heap I J H locs → ∀ (ls : Array Slot), lv_has ls 3 [(0, .ref (ad 0)), (1, .int u1), (2, .int u2)] → (∀ (y3 : Int32) (I4 : gI) (J5 : gJ), some (y3, I4, J5) = out → ∀ (H : Heap) (locs : List Loc), gWd G LM ad (gA LM ad) s.heap I4 J5 H locs → ∀ (ls : Array Slot), lv_has ls 3 [(1, .int y3)] → W p l e (gRm 7) s m args below meth c H locs 0 0 Q (F0 m 47 ls [])) → W p l e (gRm 7) s m args below meth c H locs 0 0 Q (F0 m 4 ls []) := by
  have hx := K.1; have hb := K.2.1; have hown := K.2.2.2.1; have hts := K.2.2.2.2.1
  intro n
  induction n with
  | zero => intro u1 u2 I J out h hn; exact absurd h.symm hn
  | succ n ih =>
    intro u1 u2 I J out h hn H locs hW ls hl hx1
    replace h : fX7_poor_4b  (fX7_poor_4  n) u1 u2 I J = out := h
    unfold fX7_poor_4b at h
    refine lv_iload_n hx hb dX7_poor_4 rfl (lv_at hl 2 rfl) ?_
    refine lv_aload_n hx hb dX7_poor_5 rfl (lv_at hl 0 rfl) ?_
    refine g_get K hW (t := 2) (ci := 6) (k := 0) (v := .ref (ad 1)) kLM_0 rfl rfl i_X7 (by decide) q_1077 rfl (gfv2 rLM_0_0) dX7_poor_6 ?_
    refine lv_iconst (v := (0 : Int32)) hx hb dX7_poor_9 (by decide) ?_
    refine g_iald K hW kLM_1 in_0_1592 tn_0 dX7_poor_10 ?_
    refine lv_icmp_ge (tgt := 47) hx hb dX7_poor_11 (by decide) (fun c6 => ?_) (fun c6 => ?_)
    · replace h := gi_t h c6
      exact hx1 u1 I J h _ _ hW _ (lv_sub hl [1] rfl)
    · replace h := gi_f h c6
      refine lv_iload_n hx hb dX7_poor_14 rfl (lv_at hl 1 rfl) ?_
      refine lv_aload_n hx hb dX7_poor_15 rfl (lv_at hl 0 rfl) ?_
      refine g_get K hW (t := 2) (ci := 6) (k := 0) (v := .ref (ad 1)) kLM_0 rfl rfl i_X7 (by decide) q_1077 rfl (gfv2 rLM_0_0) dX7_poor_16 ?_
      refine lv_bipush (v := (23 : Int32)) hx hb dX7_poor_19 (by decide) ?_
      refine lv_iload_n hx hb dX7_poor_21 rfl (lv_at hl 2 rfl) ?_
      refine lv_iadd hx hb dX7_poor_22 ?_
      obtain ⟨g7, h⟩ := gd_o h hn
      refine g_iald K hW kLM_1 g7 rfl dX7_poor_23 ?_
      refine lv_aload_n hx hb dX7_poor_24 rfl (lv_at hl 0 rfl) ?_
      refine lv_iload_n hx hb dX7_poor_25 rfl (lv_at hl 2 rfl) ?_
      obtain ⟨⟨u8, I9, J10⟩, e11, h⟩ := bd_o h hn
      replace h := pr_o h
      replace h := pr_o h
      refine g_callVi (rest := [.int (I 1 (((23 : Int32) + u2)).toNatClampNeg), .int u1]) K hW hl (kX7_bidsNow (l := l) (G := G) (ad := ad) hok u2 I J u8 I9 J10 e11) kLM_0 rfl (gG_V q_1370 q_1372 q_85 q_139 q_1373) nm_X7_bidsNow ⟨Nat.le_of_ble_eq_true rfl, Nat.le_of_ble_eq_true rfl⟩ rfl rfl (Nat.le_of_ble_eq_true rfl) ⟨Nat.zero_le _, Nat.zero_le _⟩ dX7_poor_26 (fun z12 H locs hW => ?_)
      obtain ⟨j14, e15, h⟩ := lz_o h
      have hj16 : ∀ (u13 : Int32), j14 u13 = out → ∀ (H : Heap) (locs : List Loc), gWd G LM ad (gA LM ad) s.heap I9 J10 H locs → ∀ (ls : Array Slot), lv_has ls 3 [(0, .ref (ad 0)), (2, .int u2)] → W p l e (gRm 7) s m args below meth c H locs 0 0 Q (F0 m 39 ls [.int u13, .int u1]) := by
        intro u13 h H locs hW ls hl
        replace h := jn1 e15 h
        refine lv_ior hx hb dX7_poor_39 ?_
        obtain ⟨u17, e18, h⟩ := lz_o h
        refine g_nmi e18 ?_
        refine lv_istore_n (lv' := [(1, .int u17), (0, .ref (ad 0)), (2, .int u2)]) hx hb dX7_poor_40 rfl hl (by decide) rfl (fun ls hl => ?_)
        obtain ⟨u19, e20, h⟩ := lz_o h
        refine lv_iinc (v := u19) (lv' := [(2, .int u19), (1, .int u17), (0, .ref (ad 0))]) hx hb dX7_poor_41 hl (k := 2) rfl (by rw [e20]; rfl) (by decide) rfl (fun ls hl => ?_)
        refine lv_goto (tgt := 4) hx hb dX7_poor_44 (by decide) ?_
        exact ih u17 u19 I9 J10 _ h hn _ _ hW _ (lv_sub hl [2, 1, 0] rfl) hx1
      refine lv_icmp_ge (tgt := 38) hx hb dX7_poor_29 (by decide) (fun c21 => ?_) (fun c21 => ?_)
      · replace h := gi_t h c21
        refine lv_iconst (v := (0 : Int32)) hx hb dX7_poor_38 (by decide) ?_
        exact hj16 (0 : Int32) h _ _ hW _ (lv_sub hl [0, 2] rfl)
      · replace h := gi_f h c21
        refine lv_iconst (v := (1 : Int32)) hx hb dX7_poor_32 (by decide) ?_
        refine lv_iload_n hx hb dX7_poor_33 rfl (lv_at hl 2 rfl) ?_
        refine g_ishl hx hb dX7_poor_34 ?_
        refine lv_goto (tgt := 39) hx hb dX7_poor_35 (by decide) ?_
        exact hj16 (jshl (1 : Int32) u2) h _ _ hW _ (lv_sub hl [0, 2] rfl)
noncomputable def fX7_poor   (I : gI) (J : gJ) : Option (Int32 × gI × gJ) :=
  bd (fX7_poor_4 FU (0 : Int32) (0 : Int32) I J) (pr (fun (u24 : Int32) => (pr (fun (I25 : gI) (J26 : gJ) => some (u24, I25, J26)))))
set_option maxHeartbeats 4000000 in
set_option maxRecDepth 100000 in
theorem kX7_poor {l : Launch} {G : gG} {ad : Nat → Nat} (hok : gInj LM ad)     (I : gI) (J : gJ) (r : Int32) (I' : gI) (J' : gJ) (h : fX7_poor I J = some (r, I', J')) : gMi l yX7_poor cX7_poor 3 (some .int) 7 G LM ad [.ref (ad 0)] I J r True I' J' := by
  refine gMi_of (lst := [(0, .ref (ad 0))]) (by decide) hok (Nat.le_of_ble_eq_true rfl) rfl ?_
  intro p e s m args below meth c Q ls K hW hl hfin
  have hn : (some (r, I', J') : Option (Int32 × gI × gJ)) ≠ none := Option.some_ne_none _
  have hx := K.1; have hb := K.2.1; have hown := K.2.2.2.1; have hts := K.2.2.2.2.1
  unfold fX7_poor at h
  refine lv_iconst (v := (0 : Int32)) hx hb dX7_poor_0 (by decide) ?_
  refine lv_istore_n (lv' := [(1, .int (0 : Int32)), (0, .ref (ad 0))]) hx hb dX7_poor_1 rfl hl (by decide) rfl (fun ls hl => ?_)
  refine lv_iconst (v := (0 : Int32)) hx hb dX7_poor_2 (by decide) ?_
  refine lv_istore_n (lv' := [(2, .int (0 : Int32)), (1, .int (0 : Int32)), (0, .ref (ad 0))]) hx hb dX7_poor_3 rfl hl (by decide) rfl (fun ls hl => ?_)
  obtain ⟨r22, e23, h⟩ := bd_o h hn
  refine tX7_poor_4 hok K FU (0 : Int32) (0 : Int32) I J (some r22) e23 (Option.some_ne_none _) _ _ hW _ (lv_sub hl [2, 1, 0] rfl) ?_
  · intro u24 I25 J26 q27 H locs hW ls hl
    replace q27 := Option.some.inj q27
    subst q27
    replace h := pr_o h
    replace h := pr_o h
    refine lv_iload_n hx hb dX7_poor_47 rfl (lv_at hl 0 rfl) ?_
    obtain ⟨a1, a2, a3⟩ := so3 h
    replace hW := gWd_nI a2 hW
    replace hW := gWd_nJ a3 hW
    exact g_nmi a1 (hfin _ _ _ _ hW dX7_poor_48)
noncomputable def fX7_room_14b  (rec : Int32 → Int32 → gI → Option ((Int32) ⊕ (Unit))) (u3 : Int32) (u4 : Int32) (I : gI) : Option ((Int32) ⊕ (Unit)) :=
  gi ((12 : Int32) < (u4 + u3))
 (some (Sum.inr ()))
 (bd (fX7_freeNow I) (fun (u7 : Int32) => gi (((jshl ((jshl (1 : Int32) u3) - (1 : Int32)) u4) &&& (u7 ^^^ (-1 : Int32))) = 0)
 (some (Sum.inl u4))
 (lz ((u4 + (1 : Int32))) (fun (u11 : Int32) => rec u3 u11 I))))
noncomputable def fX7_room_14  : Nat → Int32 → Int32 → gI → Option ((Int32) ⊕ (Unit))
  | 0 => fun _ _ _ => none
  | n + 1 => fX7_room_14b  (fX7_room_14  n)
set_option maxHeartbeats 4000000 in
set_option maxRecDepth 100000 in
theorem tX7_room_14 {l : Launch} {G : gG} {ad : Nat → Nat} {p : Program} {e : Env} {s : State} {m : MethodId} {args : Array Value} {below : List Frame} {meth : Method} {c : Code} {Q : State → Prop} (hok : gInj LM ad) (K : gCx G (gA LM ad) p s m args c cX7_room 3 RX7)  : ∀ (n : Nat) (u3 : Int32) (u4 : Int32) (I : gI) (J : gJ) (out : Option ((Int32) ⊕ (Unit))), fX7_room_14  n u3 u4 I = out → out ≠ none → ∀ (H : Heap) (locs : List Loc), gWd G LM ad (gA LM ad) s.heap I J H locs → ∀ (ls : Array Slot), lv_has ls 3 [(0, .ref (ad 0)), (1, .int u3), (2, .int u4)] → (∀ (y5 : Int32), some (Sum.inl y5) = out → ∀ (H : Heap) (locs : List Loc), gWd G LM ad (gA LM ad) s.heap I J H locs → ∀ (ls : Array Slot), lv_has ls 3 [(2, .int y5)] → W p l e (gRm 2) s m args below meth c H locs 0 0 Q (F0 m 39 ls [])) → (some (Sum.inr ()) = out → ∀ (H : Heap) (locs : List Loc), gWd G LM ad (gA LM ad) s.heap I J H locs → ∀ (ls : Array Slot), lv_has ls 3 [] → W p l e (gRm 2) s m args below meth c H locs 0 0 Q (F0 m 47 ls [])) → W p l e (gRm 2) s m args below meth c H locs 0 0 Q (F0 m 14 ls []) := by
  have hx := K.1; have hb := K.2.1; have hown := K.2.2.2.1; have hts := K.2.2.2.2.1
  intro n
  induction n with
  | zero => intro u3 u4 I J out h hn; exact absurd h.symm hn
  | succ n ih =>
    intro u3 u4 I J out h hn H locs hW ls hl hx1 hx2
    replace h : fX7_room_14b  (fX7_room_14  n) u3 u4 I = out := h
    unfold fX7_room_14b at h
    refine lv_iload_n hx hb dX7_room_14 rfl (lv_at hl 2 rfl) ?_
    refine lv_iload_n hx hb dX7_room_15 rfl (lv_at hl 1 rfl) ?_
    refine lv_iadd hx hb dX7_room_16 ?_
    refine lv_bipush (v := (12 : Int32)) hx hb dX7_room_17 (by decide) ?_
    refine lv_icmp_gt (tgt := 47) hx hb dX7_room_19 (by decide) (fun c6 => ?_) (fun c6 => ?_)
    · replace h := gi_t h c6
      exact hx2 h _ _ hW _ (lv_sub hl [] rfl)
    · replace h := gi_f h c6
      refine lv_iconst (v := (1 : Int32)) hx hb dX7_room_22 (by decide) ?_
      refine lv_iload_n hx hb dX7_room_23 rfl (lv_at hl 1 rfl) ?_
      refine g_ishl hx hb dX7_room_24 ?_
      refine lv_iconst (v := (1 : Int32)) hx hb dX7_room_25 (by decide) ?_
      refine lv_isub hx hb dX7_room_26 ?_
      refine lv_iload_n hx hb dX7_room_27 rfl (lv_at hl 2 rfl) ?_
      refine g_ishl hx hb dX7_room_28 ?_
      refine lv_aload_n hx hb dX7_room_29 rfl (lv_at hl 0 rfl) ?_
      obtain ⟨u7, e8, h⟩ := bd_o h hn
      refine g_callVi (rest := [.int (jshl ((jshl (1 : Int32) u3) - (1 : Int32)) u4)]) K hW hl (kX7_freeNow (l := l) (G := G) (ad := ad) hok I J u7 e8) kLM_0 rfl (gG_V q_1366 q_1368 q_84 q_139 q_1369) nm_X7_freeNow ⟨Nat.le_of_ble_eq_true rfl, Nat.le_of_ble_eq_true rfl⟩ rfl rfl (Nat.le_of_ble_eq_true rfl) ⟨Nat.zero_le _, Nat.zero_le _⟩ dX7_room_30 (fun z9 H locs hW => ?_)
      refine lv_iconst (v := (-1 : Int32)) hx hb dX7_room_33 (by decide) ?_
      refine lv_ixor hx hb dX7_room_34 ?_
      refine lv_iand hx hb dX7_room_35 ?_
      refine lv_if_ne (tgt := 41) hx hb dX7_room_36 (by decide) (fun c10 => ?_) (fun c10 => ?_)
      · replace h := gi_f h c10
        obtain ⟨u11, e12, h⟩ := lz_o h
        refine lv_iinc (v := u11) (lv' := [(2, .int u11), (0, .ref (ad 0)), (1, .int u3)]) hx hb dX7_room_41 hl (k := 2) rfl (by rw [e12]; rfl) (by decide) rfl (fun ls hl => ?_)
        refine lv_goto (tgt := 14) hx hb dX7_room_44 (by decide) ?_
        exact ih u3 u11 I J _ h hn _ _ hW _ (lv_sub hl [1, 2, 0] rfl) hx1 hx2
      · replace h := gi_t h c10
        exact hx1 u4 h _ _ hW _ (lv_sub hl [2] rfl)
noncomputable def fX7_room  (x1 : Int32) (I : gI) : Option (Int32) :=
  gi ((fX7_isIn x1 (1 : Int32) (12 : Int32)) = 0)
 (some (-1 : Int32))
 (bd (fX7_room_14 FU x1 (0 : Int32) I) (sm (fun (u15 : Int32) => some u15) (fun _ => some (-1 : Int32))))
set_option maxHeartbeats 4000000 in
set_option maxRecDepth 100000 in
theorem kX7_room {l : Launch} {G : gG} {ad : Nat → Nat} (hok : gInj LM ad)    (x1 : Int32) (I : gI) (J : gJ) (r : Int32) (h : fX7_room x1 I = some r) : gMi l yX7_room cX7_room 3 (some .int) 2 G LM ad [.ref (ad 0), .int x1] I J r True I J := by
  refine gMi_of (lst := [(0, .ref (ad 0)), (1, .int x1)]) (by decide) hok (Nat.le_of_ble_eq_true rfl) rfl ?_
  intro p e s m args below meth c Q ls K hW hl hfin
  have hn : (some r : Option (Int32)) ≠ none := Option.some_ne_none _
  have hx := K.1; have hb := K.2.1; have hown := K.2.2.2.1; have hts := K.2.2.2.2.1
  unfold fX7_room at h
  refine lv_iload_n hx hb dX7_room_0 rfl (lv_at hl 1 rfl) ?_
  refine lv_iconst (v := (1 : Int32)) hx hb dX7_room_1 (by decide) ?_
  refine lv_bipush (v := (12 : Int32)) hx hb dX7_room_2 (by decide) ?_
  refine g_callSi (rest := []) K hW hl (kX7_isIn (l := l) (G := G) (ad := ad) hok x1 (1 : Int32) (12 : Int32) I J (fX7_isIn x1 (1 : Int32) (12 : Int32)) rfl) q_1171 q_1172 q_139 q_1173 nm_X7_isIn ⟨Nat.le_of_ble_eq_true rfl, Nat.le_of_ble_eq_true rfl⟩ rfl rfl (Nat.le_of_ble_eq_true rfl) ⟨Nat.zero_le _, Nat.zero_le _⟩ dX7_room_4 (fun z1 H locs hW => ?_)
  refine lv_if_ne (tgt := 12) hx hb dX7_room_7 (by decide) (fun c2 => ?_) (fun c2 => ?_)
  · replace h := gi_f h c2
    refine lv_iconst (v := (0 : Int32)) hx hb dX7_room_12 (by decide) ?_
    refine lv_istore_n (lv' := [(2, .int (0 : Int32)), (0, .ref (ad 0)), (1, .int x1)]) hx hb dX7_room_13 rfl hl (by decide) rfl (fun ls hl => ?_)
    obtain ⟨r13, e14, h⟩ := bd_o h hn
    refine tX7_room_14 hok K FU x1 (0 : Int32) I J (some r13) e14 (Option.some_ne_none _) _ _ hW _ (lv_sub hl [1, 2, 0] rfl) ?_ ?_
    · intro u15 q16 H locs hW ls hl
      replace q16 := Option.some.inj q16
      subst q16
      replace h := sm_l h
      refine lv_iload_n hx hb dX7_room_39 rfl (lv_at hl 0 rfl) ?_
      obtain a1 := so1 h
      exact g_nmi a1 (hfin _ _ _ _ hW dX7_room_40)
    · intro q17 H locs hW ls hl
      replace q17 := Option.some.inj q17
      subst q17
      replace h := sm_r h
      refine lv_iconst (v := (-1 : Int32)) hx hb dX7_room_47 (by decide) ?_
      obtain a1 := so1 h
      exact g_nmi a1 (hfin _ _ _ _ hW dX7_room_48)
  · replace h := gi_t h c2
    refine lv_iconst (v := (-1 : Int32)) hx hb dX7_room_10 (by decide) ?_
    obtain a1 := so1 h
    exact g_nmi a1 (hfin _ _ _ _ hW dX7_room_11)
theorem kLM_9 : gAt LM 9 1 29 := ⟨by decide, by decide +kernel⟩
theorem rLM_0_24 : LM.2.2 0 24 = some 9 := by decide +kernel
noncomputable def fX7_foretold_24b  (rec : Int32 → Int32 → Int32 → gI → Option ((gI))) (u5 : Int32) (u6 : Int32) (u7 : Int32) (I : gI) : Option ((gI)) :=
  gi ((29 : Int32) ≤ u7)
 (some I)
 (gd (vp_in u7 1592) (gd (vp_in u7 29) (lz (wI I 9 (u7).toNatClampNeg (I 1 (u7).toNatClampNeg)) (fun (I13 : gI) => lz ((u7 + (1 : Int32))) (fun (u14 : Int32) => rec u5 u6 u14 I13)))))
noncomputable def fX7_foretold_24  : Nat → Int32 → Int32 → Int32 → gI → Option ((gI))
  | 0 => fun _ _ _ _ => none
  | n + 1 => fX7_foretold_24b  (fX7_foretold_24  n)
set_option maxHeartbeats 4000000 in
set_option maxRecDepth 100000 in
theorem tX7_foretold_24 {l : Launch} {G : gG} {ad : Nat → Nat} {p : Program} {e : Env} {s : State} {m : MethodId} {args : Array Value} {below : List Frame} {meth : Method} {c : Code} {Q : State → Prop} (hok : gInj LM ad) (K : gCx G (gA LM ad) p s m args c cX7_foretold 5 RX7)  : ∀ (n : Nat) (u5 : Int32) (u6 : Int32) (u7 : Int32) (I : gI) (J : gJ) (out : Option ((gI))), fX7_foretold_24  n u5 u6 u7 I = out → out ≠ none → ∀ (H : Heap) (locs : List Loc), gWd G LM ad (gA LM ad) s.heap I J H locs → ∀ (ls : Array Slot), lv_has ls 5 [(0, .ref (ad 0)), (1, .int u5), (2, .int u6), (3, .int u7)] → (∀ (I8 : gI), some I8 = out → ∀ (H : Heap) (locs : List Loc), gWd G LM ad (gA LM ad) s.heap I8 J H locs → ∀ (ls : Array Slot), lv_has ls 5 [(0, .ref (ad 0)), (1, .int u5), (2, .int u6)] → W p l e (gRm 7) s m args below meth c H locs 0 0 Q (F0 m 48 ls [])) → W p l e (gRm 7) s m args below meth c H locs 0 0 Q (F0 m 24 ls []) := by
  have hx := K.1; have hb := K.2.1; have hown := K.2.2.2.1; have hts := K.2.2.2.2.1
  intro n
  induction n with
  | zero => intro u5 u6 u7 I J out h hn; exact absurd h.symm hn
  | succ n ih =>
    intro u5 u6 u7 I J out h hn H locs hW ls hl hx1
    replace h : fX7_foretold_24b  (fX7_foretold_24  n) u5 u6 u7 I = out := h
    unfold fX7_foretold_24b at h
    refine lv_iload_n hx hb dX7_foretold_24 rfl (lv_at hl 3 rfl) ?_
    refine lv_bipush (v := (29 : Int32)) hx hb dX7_foretold_25 (by decide) ?_
    refine lv_icmp_ge (tgt := 48) hx hb dX7_foretold_27 (by decide) (fun c9 => ?_) (fun c9 => ?_)
    · replace h := gi_t h c9
      exact hx1 I h _ _ hW _ (lv_sub hl [0, 1, 2] rfl)
    · replace h := gi_f h c9
      refine lv_aload_n hx hb dX7_foretold_30 rfl (lv_at hl 0 rfl) ?_
      refine g_get K hW (t := 2) (ci := 6) (k := 24) (v := .ref (ad 9)) kLM_0 rfl rfl i_X7 (by decide) q_1101 rfl (gfv2 rLM_0_24) dX7_foretold_31 ?_
      refine lv_iload_n hx hb dX7_foretold_34 rfl (lv_at hl 3 rfl) ?_
      refine lv_aload_n hx hb dX7_foretold_35 rfl (lv_at hl 0 rfl) ?_
      refine g_get K hW (t := 2) (ci := 6) (k := 0) (v := .ref (ad 1)) kLM_0 rfl rfl i_X7 (by decide) q_1077 rfl (gfv2 rLM_0_0) dX7_foretold_36 ?_
      refine lv_iload_n hx hb dX7_foretold_39 rfl (lv_at hl 3 rfl) ?_
      obtain ⟨g10, h⟩ := gd_o h hn
      refine g_iald K hW kLM_1 g10 rfl dX7_foretold_40 ?_
      obtain ⟨g11, h⟩ := gd_o h hn
      refine g_iast K hW kLM_9 g11 rfl dX7_foretold_41 (fun H locs hW => ?_)
      obtain ⟨I13, e12, h⟩ := lz_o h
      replace hW := gWd_nI e12 hW
      obtain ⟨u14, e15, h⟩ := lz_o h
      refine lv_iinc (v := u14) (lv' := [(3, .int u14), (0, .ref (ad 0)), (1, .int u5), (2, .int u6)]) hx hb dX7_foretold_42 hl (k := 3) rfl (by rw [e15]; rfl) (by decide) rfl (fun ls hl => ?_)
      refine lv_goto (tgt := 24) hx hb dX7_foretold_45 (by decide) ?_
      exact ih u5 u6 u14 I13 J _ h hn _ _ hW _ (lv_sub hl [1, 2, 3, 0] rfl) hx1
noncomputable def fX7_foretold_55b  (rec : Int32 → Int32 → Int32 → gI → gJ → Option ((gI × gJ))) (u22 : Int32) (u23 : Int32) (u24 : Int32) (I : gI) (J : gJ) : Option ((gI × gJ)) :=
  gi (u22 ≤ u24)
 (some (I, J))
 (lz (fun (I28 : gI) => fun (J29 : gJ) => lz ((u24 + (1 : Int32))) (fun (u33 : Int32) => rec u22 u23 u33 I28 J29)) (fun j30 => gi ((9999 : Int32) ≤ (I 1 6))
 (j30 I J)
 (bd (fX7_passDay I J) (pr (fun (I36 : gI) (J37 : gJ) => j30 I36 J37)))))
noncomputable def fX7_foretold_55  : Nat → Int32 → Int32 → Int32 → gI → gJ → Option ((gI × gJ))
  | 0 => fun _ _ _ _ _ => none
  | n + 1 => fX7_foretold_55b  (fX7_foretold_55  n)
set_option maxHeartbeats 4000000 in
set_option maxRecDepth 100000 in
theorem tX7_foretold_55 {l : Launch} {G : gG} {ad : Nat → Nat} {p : Program} {e : Env} {s : State} {m : MethodId} {args : Array Value} {below : List Frame} {meth : Method} {c : Code} {Q : State → Prop} (hok : gInj LM ad) (K : gCx G (gA LM ad) p s m args c cX7_foretold 5 RX7)  : ∀ (n : Nat) (u22 : Int32) (u23 : Int32) (u24 : Int32) (I : gI) (J : gJ) (out : Option ((gI × gJ))), fX7_foretold_55  n u22 u23 u24 I J = out → out ≠ none → ∀ (H : Heap) (locs : List Loc), gWd G LM ad (gA LM ad) s.heap I J H locs → ∀ (ls : Array Slot), lv_has ls 5 [(0, .ref (ad 0)), (1, .int u22), (2, .int u23), (3, .int u24)] → (∀ (I25 : gI) (J26 : gJ), some (I25, J26) = out → ∀ (H : Heap) (locs : List Loc), gWd G LM ad (gA LM ad) s.heap I25 J26 H locs → ∀ (ls : Array Slot), lv_has ls 5 [(0, .ref (ad 0)), (2, .int u23)] → W p l e (gRm 7) s m args below meth c H locs 0 0 Q (F0 m 83 ls [])) → W p l e (gRm 7) s m args below meth c H locs 0 0 Q (F0 m 55 ls []) := by
  have hx := K.1; have hb := K.2.1; have hown := K.2.2.2.1; have hts := K.2.2.2.2.1
  intro n
  induction n with
  | zero => intro u22 u23 u24 I J out h hn; exact absurd h.symm hn
  | succ n ih =>
    intro u22 u23 u24 I J out h hn H locs hW ls hl hx1
    replace h : fX7_foretold_55b  (fX7_foretold_55  n) u22 u23 u24 I J = out := h
    unfold fX7_foretold_55b at h
    refine lv_iload_n hx hb dX7_foretold_55 rfl (lv_at hl 3 rfl) ?_
    refine lv_iload_n hx hb dX7_foretold_56 rfl (lv_at hl 1 rfl) ?_
    refine lv_icmp_ge (tgt := 83) hx hb dX7_foretold_57 (by decide) (fun c27 => ?_) (fun c27 => ?_)
    · replace h := gi_t h c27
      exact hx1 I J h _ _ hW _ (lv_sub hl [0, 2] rfl)
    · replace h := gi_f h c27
      refine lv_aload_n hx hb dX7_foretold_60 rfl (lv_at hl 0 rfl) ?_
      refine g_get K hW (t := 2) (ci := 6) (k := 0) (v := .ref (ad 1)) kLM_0 rfl rfl i_X7 (by decide) q_1077 rfl (gfv2 rLM_0_0) dX7_foretold_61 ?_
      refine lv_bipush (v := (6 : Int32)) hx hb dX7_foretold_64 (by decide) ?_
      refine g_iald K hW kLM_1 in_6_1592 tn_6 dX7_foretold_66 ?_
      refine lv_sipush (v := (9999 : Int32)) hx hb dX7_foretold_67 (by decide) ?_
      obtain ⟨j30, e31, h⟩ := lz_o h
      have hj32 : ∀ (I28 : gI) (J29 : gJ), j30 I28 J29 = out → ∀ (H : Heap) (locs : List Loc), gWd G LM ad (gA LM ad) s.heap I28 J29 H locs → ∀ (ls : Array Slot), lv_has ls 5 [(0, .ref (ad 0)), (1, .int u22), (2, .int u23), (3, .int u24)] → W p l e (gRm 7) s m args below meth c H locs 0 0 Q (F0 m 77 ls []) := by
        intro I28 J29 h H locs hW ls hl
        replace h := jn2 e31 h
        obtain ⟨u33, e34, h⟩ := lz_o h
        refine lv_iinc (v := u33) (lv' := [(3, .int u33), (0, .ref (ad 0)), (1, .int u22), (2, .int u23)]) hx hb dX7_foretold_77 hl (k := 3) rfl (by rw [e34]; rfl) (by decide) rfl (fun ls hl => ?_)
        refine lv_goto (tgt := 55) hx hb dX7_foretold_80 (by decide) ?_
        exact ih u22 u23 u33 I28 J29 _ h hn _ _ hW _ (lv_sub hl [1, 2, 3, 0] rfl) hx1
      refine lv_icmp_ge (tgt := 77) hx hb dX7_foretold_70 (by decide) (fun c35 => ?_) (fun c35 => ?_)
      · replace h := gi_t h c35
        exact hj32 I J h _ _ hW _ (lv_sub hl [0, 1, 2, 3] rfl)
      · replace h := gi_f h c35
        refine lv_aload_n hx hb dX7_foretold_73 rfl (lv_at hl 0 rfl) ?_
        obtain ⟨⟨I36, J37⟩, e38, h⟩ := bd_o h hn
        replace h := pr_o h
        refine g_callVv (rest := []) K hW hl (kX7_passDay (l := l) (G := G) (ad := ad) hok I J I36 J37 e38) kLM_0 rfl (gG_V q_1478 q_1480 q_102 q_139 q_1481) nm_X7_passDay ⟨Nat.le_of_ble_eq_true rfl, Nat.le_of_ble_eq_true rfl⟩ rfl rfl (Nat.le_of_ble_eq_true rfl) ⟨Nat.zero_le _, Nat.zero_le _⟩ dX7_foretold_74 (fun H locs hW => ?_)
        exact hj32 I36 J37 h _ _ hW _ (lv_sub hl [0, 1, 2, 3] rfl)
noncomputable def fX7_foretold_135b  (rec : Int32 → Int32 → gI → Option ((gI))) (u51 : Int32) (u52 : Int32) (I : gI) : Option ((gI)) :=
  gi ((29 : Int32) ≤ u52)
 (some I)
 (gd (vp_in u52 29) (gd (vp_in u52 1592) (lz (wI I 1 (u52).toNatClampNeg (I 9 (u52).toNatClampNeg)) (fun (I58 : gI) => lz ((u52 + (1 : Int32))) (fun (u59 : Int32) => rec u51 u59 I58)))))
noncomputable def fX7_foretold_135  : Nat → Int32 → Int32 → gI → Option ((gI))
  | 0 => fun _ _ _ => none
  | n + 1 => fX7_foretold_135b  (fX7_foretold_135  n)
set_option maxHeartbeats 4000000 in
set_option maxRecDepth 100000 in
theorem tX7_foretold_135 {l : Launch} {G : gG} {ad : Nat → Nat} {p : Program} {e : Env} {s : State} {m : MethodId} {args : Array Value} {below : List Frame} {meth : Method} {c : Code} {Q : State → Prop} (hok : gInj LM ad) (K : gCx G (gA LM ad) p s m args c cX7_foretold 5 RX7)  : ∀ (n : Nat) (u51 : Int32) (u52 : Int32) (I : gI) (J : gJ) (out : Option ((gI))), fX7_foretold_135  n u51 u52 I = out → out ≠ none → ∀ (H : Heap) (locs : List Loc), gWd G LM ad (gA LM ad) s.heap I J H locs → ∀ (ls : Array Slot), lv_has ls 5 [(0, .ref (ad 0)), (3, .int u51), (4, .int u52)] → (∀ (I53 : gI), some I53 = out → ∀ (H : Heap) (locs : List Loc), gWd G LM ad (gA LM ad) s.heap I53 J H locs → ∀ (ls : Array Slot), lv_has ls 5 [(0, .ref (ad 0)), (3, .int u51)] → W p l e (gRm 7) s m args below meth c H locs 0 0 Q (F0 m 162 ls [])) → W p l e (gRm 7) s m args below meth c H locs 0 0 Q (F0 m 135 ls []) := by
  have hx := K.1; have hb := K.2.1; have hown := K.2.2.2.1; have hts := K.2.2.2.2.1
  intro n
  induction n with
  | zero => intro u51 u52 I J out h hn; exact absurd h.symm hn
  | succ n ih =>
    intro u51 u52 I J out h hn H locs hW ls hl hx1
    replace h : fX7_foretold_135b  (fX7_foretold_135  n) u51 u52 I = out := h
    unfold fX7_foretold_135b at h
    refine lv_iload hx hb dX7_foretold_135 (lv_at hl 2 rfl) ?_
    refine lv_bipush (v := (29 : Int32)) hx hb dX7_foretold_137 (by decide) ?_
    refine lv_icmp_ge (tgt := 162) hx hb dX7_foretold_139 (by decide) (fun c54 => ?_) (fun c54 => ?_)
    · replace h := gi_t h c54
      exact hx1 I h _ _ hW _ (lv_sub hl [0, 1] rfl)
    · replace h := gi_f h c54
      refine lv_aload_n hx hb dX7_foretold_142 rfl (lv_at hl 0 rfl) ?_
      refine g_get K hW (t := 2) (ci := 6) (k := 0) (v := .ref (ad 1)) kLM_0 rfl rfl i_X7 (by decide) q_1077 rfl (gfv2 rLM_0_0) dX7_foretold_143 ?_
      refine lv_iload hx hb dX7_foretold_146 (lv_at hl 2 rfl) ?_
      refine lv_aload_n hx hb dX7_foretold_148 rfl (lv_at hl 0 rfl) ?_
      refine g_get K hW (t := 2) (ci := 6) (k := 24) (v := .ref (ad 9)) kLM_0 rfl rfl i_X7 (by decide) q_1101 rfl (gfv2 rLM_0_24) dX7_foretold_149 ?_
      refine lv_iload hx hb dX7_foretold_152 (lv_at hl 2 rfl) ?_
      obtain ⟨g55, h⟩ := gd_o h hn
      refine g_iald K hW kLM_9 g55 rfl dX7_foretold_154 ?_
      obtain ⟨g56, h⟩ := gd_o h hn
      refine g_iast K hW kLM_1 g56 rfl dX7_foretold_155 (fun H locs hW => ?_)
      obtain ⟨I58, e57, h⟩ := lz_o h
      replace hW := gWd_nI e57 hW
      obtain ⟨u59, e60, h⟩ := lz_o h
      refine lv_iinc (v := u59) (lv' := [(4, .int u59), (0, .ref (ad 0)), (3, .int u51)]) hx hb dX7_foretold_156 hl (k := 2) rfl (by rw [e60]; rfl) (by decide) rfl (fun ls hl => ?_)
      refine lv_goto (tgt := 135) hx hb dX7_foretold_159 (by decide) ?_
      exact ih u51 u59 I58 J _ h hn _ _ hW _ (lv_sub hl [1, 2, 0] rfl) hx1
noncomputable def fX7_foretold_101b  (rec : Int32 → Int32 → gI → Option ((Int32))) (u68 : Int32) (u69 : Int32) (I : gI) : Option ((Int32)) :=
  gi ((I 1 0) ≤ u69)
 (some u68)
 (gd (vp_in ((23 : Int32) + u69) 1592) (lz ((u68 + (I 1 (((23 : Int32) + u69)).toNatClampNeg))) (fun (u73 : Int32) => lz ((u69 + (1 : Int32))) (fun (u75 : Int32) => rec u73 u75 I))))
noncomputable def fX7_foretold_101  : Nat → Int32 → Int32 → gI → Option ((Int32))
  | 0 => fun _ _ _ => none
  | n + 1 => fX7_foretold_101b  (fX7_foretold_101  n)
set_option maxHeartbeats 4000000 in
set_option maxRecDepth 100000 in
theorem tX7_foretold_101 {l : Launch} {G : gG} {ad : Nat → Nat} {p : Program} {e : Env} {s : State} {m : MethodId} {args : Array Value} {below : List Frame} {meth : Method} {c : Code} {Q : State → Prop} (hok : gInj LM ad) (K : gCx G (gA LM ad) p s m args c cX7_foretold 5 RX7)  : ∀ (n : Nat) (u68 : Int32) (u69 : Int32) (I : gI) (J : gJ) (out : Option ((Int32))), fX7_foretold_101  n u68 u69 I = out → out ≠ none → ∀ (H : Heap) (locs : List Loc), gWd G LM ad (gA LM ad) s.heap I J H locs → ∀ (ls : Array Slot), lv_has ls 5 [(0, .ref (ad 0)), (3, .int u68), (4, .int u69)] → (∀ (y70 : Int32), some y70 = out → ∀ (H : Heap) (locs : List Loc), gWd G LM ad (gA LM ad) s.heap I J H locs → ∀ (ls : Array Slot), lv_has ls 5 [(0, .ref (ad 0)), (3, .int y70)] → W p l e (gRm 7) s m args below meth c H locs 0 0 Q (F0 m 131 ls [])) → W p l e (gRm 7) s m args below meth c H locs 0 0 Q (F0 m 101 ls []) := by
  have hx := K.1; have hb := K.2.1; have hown := K.2.2.2.1; have hts := K.2.2.2.2.1
  intro n
  induction n with
  | zero => intro u68 u69 I J out h hn; exact absurd h.symm hn
  | succ n ih =>
    intro u68 u69 I J out h hn H locs hW ls hl hx1
    replace h : fX7_foretold_101b  (fX7_foretold_101  n) u68 u69 I = out := h
    unfold fX7_foretold_101b at h
    refine lv_iload hx hb dX7_foretold_101 (lv_at hl 2 rfl) ?_
    refine lv_aload_n hx hb dX7_foretold_103 rfl (lv_at hl 0 rfl) ?_
    refine g_get K hW (t := 2) (ci := 6) (k := 0) (v := .ref (ad 1)) kLM_0 rfl rfl i_X7 (by decide) q_1077 rfl (gfv2 rLM_0_0) dX7_foretold_104 ?_
    refine lv_iconst (v := (0 : Int32)) hx hb dX7_foretold_107 (by decide) ?_
    refine g_iald K hW kLM_1 in_0_1592 tn_0 dX7_foretold_108 ?_
    refine lv_icmp_ge (tgt := 131) hx hb dX7_foretold_109 (by decide) (fun c71 => ?_) (fun c71 => ?_)
    · replace h := gi_t h c71
      exact hx1 u68 h _ _ hW _ (lv_sub hl [0, 1] rfl)
    · replace h := gi_f h c71
      refine lv_iload_n hx hb dX7_foretold_112 rfl (lv_at hl 1 rfl) ?_
      refine lv_aload_n hx hb dX7_foretold_113 rfl (lv_at hl 0 rfl) ?_
      refine g_get K hW (t := 2) (ci := 6) (k := 0) (v := .ref (ad 1)) kLM_0 rfl rfl i_X7 (by decide) q_1077 rfl (gfv2 rLM_0_0) dX7_foretold_114 ?_
      refine lv_bipush (v := (23 : Int32)) hx hb dX7_foretold_117 (by decide) ?_
      refine lv_iload hx hb dX7_foretold_119 (lv_at hl 2 rfl) ?_
      refine lv_iadd hx hb dX7_foretold_121 ?_
      obtain ⟨g72, h⟩ := gd_o h hn
      refine g_iald K hW kLM_1 g72 rfl dX7_foretold_122 ?_
      refine lv_iadd hx hb dX7_foretold_123 ?_
      obtain ⟨u73, e74, h⟩ := lz_o h
      refine g_nmi e74 ?_
      refine lv_istore_n (lv' := [(3, .int u73), (0, .ref (ad 0)), (4, .int u69)]) hx hb dX7_foretold_124 rfl hl (by decide) rfl (fun ls hl => ?_)
      obtain ⟨u75, e76, h⟩ := lz_o h
      refine lv_iinc (v := u75) (lv' := [(4, .int u75), (3, .int u73), (0, .ref (ad 0))]) hx hb dX7_foretold_125 hl (k := 2) rfl (by rw [e76]; rfl) (by decide) rfl (fun ls hl => ?_)
      refine lv_goto (tgt := 101) hx hb dX7_foretold_128 (by decide) ?_
      exact ih u73 u75 I J _ h hn _ _ hW _ (lv_sub hl [2, 1, 0] rfl) hx1
noncomputable def fX7_foretold  (x1 : Int32) (x2 : Int32) (I : gI) (J : gJ) : Option (Int32 × gI × gJ) :=
  gi ((fX7_isIn x1 (1 : Int32) (60 : Int32)) = 0)
 (some ((-1 : Int32), I, J))
 (gi ((fX7_isIn x2 (0 : Int32) (1 : Int32)) = 0)
 (some ((-1 : Int32), I, J))
 (bd (fX7_foretold_24 FU x1 x2 (6 : Int32) I) (fun (I18 : gI) => lz (wI I18 0 23 (0 : Int32)) (fun (I20 : gI) => bd (fX7_foretold_55 FU x1 x2 (0 : Int32) I20 J) (pr (fun (I42 : gI) (J43 : gJ) => lz ((I42 1 9)) (fun (u45 : Int32) => lz (fun (u47 : Int32) => bd (fX7_foretold_135 FU u47 (6 : Int32) I42) (fun (I63 : gI) => lz (wI I63 0 23 (1 : Int32)) (fun (I65 : gI) => some (u47, I65, J43)))) (fun j48 => gi (x2 = (1 : Int32))
 (bd (fX7_foretold_101 FU (0 : Int32) (0 : Int32) I42) (fun (u79 : Int32) => j48 u79))
 (j48 u45)))))))))
set_option maxHeartbeats 4000000 in
set_option maxRecDepth 100000 in
theorem kX7_foretold {l : Launch} {G : gG} {ad : Nat → Nat} (hok : gInj LM ad)    (x1 : Int32) (x2 : Int32) (I : gI) (J : gJ) (r : Int32) (I' : gI) (J' : gJ) (h : fX7_foretold x1 x2 I J = some (r, I', J')) : gMi l yX7_foretold cX7_foretold 5 (some .int) 7 G LM ad [.ref (ad 0), .int x1, .int x2] I J r True I' J' := by
  refine gMi_of (lst := [(0, .ref (ad 0)), (1, .int x1), (2, .int x2)]) (by decide) hok (Nat.le_of_ble_eq_true rfl) rfl ?_
  intro p e s m args below meth c Q ls K hW hl hfin
  have hn : (some (r, I', J') : Option (Int32 × gI × gJ)) ≠ none := Option.some_ne_none _
  have hx := K.1; have hb := K.2.1; have hown := K.2.2.2.1; have hts := K.2.2.2.2.1
  unfold fX7_foretold at h
  refine lv_iload_n hx hb dX7_foretold_0 rfl (lv_at hl 1 rfl) ?_
  refine lv_iconst (v := (1 : Int32)) hx hb dX7_foretold_1 (by decide) ?_
  refine lv_bipush (v := (60 : Int32)) hx hb dX7_foretold_2 (by decide) ?_
  refine g_callSi (rest := []) K hW hl (kX7_isIn (l := l) (G := G) (ad := ad) hok x1 (1 : Int32) (60 : Int32) I J (fX7_isIn x1 (1 : Int32) (60 : Int32)) rfl) q_1171 q_1172 q_139 q_1173 nm_X7_isIn ⟨Nat.le_of_ble_eq_true rfl, Nat.le_of_ble_eq_true rfl⟩ rfl rfl (Nat.le_of_ble_eq_true rfl) ⟨Nat.zero_le _, Nat.zero_le _⟩ dX7_foretold_4 (fun z1 H locs hW => ?_)
  refine lv_if_eq (tgt := 19) hx hb dX7_foretold_7 (by decide) (fun c2 => ?_) (fun c2 => ?_)
  · replace h := gi_t h c2
    refine lv_iconst (v := (-1 : Int32)) hx hb dX7_foretold_19 (by decide) ?_
    obtain ⟨a1, a2, a3⟩ := so3 h
    replace hW := gWd_nI a2 hW
    replace hW := gWd_nJ a3 hW
    exact g_nmi a1 (hfin _ _ _ _ hW dX7_foretold_20)
  · replace h := gi_f h c2
    refine lv_iload_n hx hb dX7_foretold_10 rfl (lv_at hl 2 rfl) ?_
    refine lv_iconst (v := (0 : Int32)) hx hb dX7_foretold_11 (by decide) ?_
    refine lv_iconst (v := (1 : Int32)) hx hb dX7_foretold_12 (by decide) ?_
    refine g_callSi (rest := []) K hW hl (kX7_isIn (l := l) (G := G) (ad := ad) hok x2 (0 : Int32) (1 : Int32) I J (fX7_isIn x2 (0 : Int32) (1 : Int32)) rfl) q_1171 q_1172 q_139 q_1173 nm_X7_isIn ⟨Nat.le_of_ble_eq_true rfl, Nat.le_of_ble_eq_true rfl⟩ rfl rfl (Nat.le_of_ble_eq_true rfl) ⟨Nat.zero_le _, Nat.zero_le _⟩ dX7_foretold_13 (fun z3 H locs hW => ?_)
    refine lv_if_ne (tgt := 21) hx hb dX7_foretold_16 (by decide) (fun c4 => ?_) (fun c4 => ?_)
    · replace h := gi_f h c4
      refine lv_bipush (v := (6 : Int32)) hx hb dX7_foretold_21 (by decide) ?_
      refine lv_istore_n (lv' := [(3, .int (6 : Int32)), (0, .ref (ad 0)), (1, .int x1), (2, .int x2)]) hx hb dX7_foretold_23 rfl hl (by decide) rfl (fun ls hl => ?_)
      obtain ⟨r16, e17, h⟩ := bd_o h hn
      refine tX7_foretold_24 hok K FU x1 x2 (6 : Int32) I J (some r16) e17 (Option.some_ne_none _) _ _ hW _ (lv_sub hl [1, 2, 3, 0] rfl) ?_
      · intro I18 q19 H locs hW ls hl
        replace q19 := Option.some.inj q19
        subst q19
        refine lv_aload_n hx hb dX7_foretold_48 rfl (lv_at hl 0 rfl) ?_
        refine lv_iconst (v := (0 : Int32)) hx hb dX7_foretold_49 (by decide) ?_
        refine g_putI K hW (ci := 6) (k := 23) kLM_0 rfl rfl i_X7 tyX7_ok nmX7 (by decide) q_1100 rfl rfl rfl rfl dX7_foretold_50 (fun H locs hW => ?_)
        obtain ⟨I20, e21, h⟩ := lz_o h
        replace hW := gWd_nI e21 hW
        refine lv_iconst (v := (0 : Int32)) hx hb dX7_foretold_53 (by decide) ?_
        refine lv_istore_n (lv' := [(3, .int (0 : Int32)), (0, .ref (ad 0)), (1, .int x1), (2, .int x2)]) hx hb dX7_foretold_54 rfl hl (by decide) rfl (fun ls hl => ?_)
        obtain ⟨r40, e41, h⟩ := bd_o h hn
        refine tX7_foretold_55 hok K FU x1 x2 (0 : Int32) I20 J (some r40) e41 (Option.some_ne_none _) _ _ hW _ (lv_sub hl [1, 2, 3, 0] rfl) ?_
        · intro I42 J43 q44 H locs hW ls hl
          replace q44 := Option.some.inj q44
          subst q44
          replace h := pr_o h
          refine lv_aload_n hx hb dX7_foretold_83 rfl (lv_at hl 0 rfl) ?_
          refine g_get K hW (t := 2) (ci := 6) (k := 0) (v := .ref (ad 1)) kLM_0 rfl rfl i_X7 (by decide) q_1077 rfl (gfv2 rLM_0_0) dX7_foretold_84 ?_
          refine lv_bipush (v := (9 : Int32)) hx hb dX7_foretold_87 (by decide) ?_
          refine g_iald K hW kLM_1 in_9_1592 tn_9 dX7_foretold_89 ?_
          obtain ⟨u45, e46, h⟩ := lz_o h
          refine g_nmi e46 ?_
          refine lv_istore_n (lv' := [(3, .int u45), (0, .ref (ad 0)), (2, .int x2)]) hx hb dX7_foretold_90 rfl hl (by decide) rfl (fun ls hl => ?_)
          refine lv_iload_n hx hb dX7_foretold_91 rfl (lv_at hl 2 rfl) ?_
          refine lv_iconst (v := (1 : Int32)) hx hb dX7_foretold_92 (by decide) ?_
          obtain ⟨j48, e49, h⟩ := lz_o h
          have hj50 : ∀ (u47 : Int32), j48 u47 = (some (r, I', J')) → ∀ (H : Heap) (locs : List Loc), gWd G LM ad (gA LM ad) s.heap I42 J43 H locs → ∀ (ls : Array Slot), lv_has ls 5 [(0, .ref (ad 0)), (3, .int u47)] → W p l e (gRm 7) s m args below meth c H locs 0 0 Q (F0 m 131 ls []) := by
            intro u47 h H locs hW ls hl
            replace h := jn1 e49 h
            refine lv_bipush (v := (6 : Int32)) hx hb dX7_foretold_131 (by decide) ?_
            refine lv_istore (lv' := [(4, .int (6 : Int32)), (0, .ref (ad 0)), (3, .int u47)]) hx hb dX7_foretold_133 hl (by decide) rfl (fun ls hl => ?_)
            obtain ⟨r61, e62, h⟩ := bd_o h hn
            refine tX7_foretold_135 hok K FU u47 (6 : Int32) I42 J43 (some r61) e62 (Option.some_ne_none _) _ _ hW _ (lv_sub hl [1, 2, 0] rfl) ?_
            · intro I63 q64 H locs hW ls hl
              replace q64 := Option.some.inj q64
              subst q64
              refine lv_aload_n hx hb dX7_foretold_162 rfl (lv_at hl 0 rfl) ?_
              refine lv_iconst (v := (1 : Int32)) hx hb dX7_foretold_163 (by decide) ?_
              refine g_putI K hW (ci := 6) (k := 23) kLM_0 rfl rfl i_X7 tyX7_ok nmX7 (by decide) q_1100 rfl rfl rfl rfl dX7_foretold_164 (fun H locs hW => ?_)
              obtain ⟨I65, e66, h⟩ := lz_o h
              replace hW := gWd_nI e66 hW
              refine lv_iload_n hx hb dX7_foretold_167 rfl (lv_at hl 1 rfl) ?_
              obtain ⟨a1, a2, a3⟩ := so3 h
              replace hW := gWd_nI a2 hW
              replace hW := gWd_nJ a3 hW
              exact g_nmi a1 (hfin _ _ _ _ hW dX7_foretold_168)
          refine lv_icmp_ne (tgt := 131) hx hb dX7_foretold_93 (by decide) (fun c67 => ?_) (fun c67 => ?_)
          · replace h := gi_f h c67
            exact hj50 u45 h _ _ hW _ (lv_sub hl [1, 0] rfl)
          · replace h := gi_t h c67
            refine lv_iconst (v := (0 : Int32)) hx hb dX7_foretold_96 (by decide) ?_
            refine lv_istore_n (lv' := [(3, .int (0 : Int32)), (0, .ref (ad 0)), (2, .int x2)]) hx hb dX7_foretold_97 rfl hl (by decide) rfl (fun ls hl => ?_)
            refine lv_iconst (v := (0 : Int32)) hx hb dX7_foretold_98 (by decide) ?_
            refine lv_istore (lv' := [(4, .int (0 : Int32)), (3, .int (0 : Int32)), (0, .ref (ad 0)), (2, .int x2)]) hx hb dX7_foretold_99 hl (by decide) rfl (fun ls hl => ?_)
            obtain ⟨r77, e78, h⟩ := bd_o h hn
            refine tX7_foretold_101 hok K FU (0 : Int32) (0 : Int32) I42 J43 (some r77) e78 (Option.some_ne_none _) _ _ hW _ (lv_sub hl [2, 1, 0] rfl) ?_
            · intro u79 q80 H locs hW ls hl
              replace q80 := Option.some.inj q80
              subst q80
              exact hj50 u79 h _ _ hW _ (lv_sub hl [0, 1] rfl)
    · replace h := gi_t h c4
      refine lv_iconst (v := (-1 : Int32)) hx hb dX7_foretold_19 (by decide) ?_
      obtain ⟨a1, a2, a3⟩ := so3 h
      replace hW := gWd_nI a2 hW
      replace hW := gWd_nJ a3 hW
      exact g_nmi a1 (hfin _ _ _ _ hW dX7_foretold_20)
noncomputable def fX7_broughtBy_8b  (rec : Int32 → Int32 → Int32 → Int32 → Int32 → gI → gJ → Option ((gI × gJ) ⊕ (Int32 × gI × gJ))) (u1 : Int32) (u2 : Int32) (u3 : Int32) (u4 : Int32) (u5 : Int32) (I : gI) (J : gJ) : Option ((gI × gJ) ⊕ (Int32 × gI × gJ)) :=
  gi ((I 1 0) ≤ u5)
 (some (Sum.inr (u4, I, J)))
 (lz (fun (u13 : Int32) => fun (u14 : Int32) => fun (I15 : gI) => fun (J16 : gJ) => lz ((u5 + (1 : Int32))) (fun (u20 : Int32) => rec u1 u2 u13 u14 u20 I15 J16)) (fun j17 => gi ((fX7_has u1 u5) = 0)
 (j17 u3 u4 I J)
 (bd (fX7_doesWant u5 u2 I) (fun (u23 : Int32) => gi (u23 = 0)
 (some (Sum.inl (I, J)))
 (bd (fX7_slicesOf u5 I) (fun (u27 : Int32) => gi ((u3 &&& u27) = 0)
 (bd (fX7_slicesOf u5 I) (fun (u31 : Int32) => lz ((u3 ||| u31)) (fun (u34 : Int32) => bd (fX7_bidsOf (I 1 2) u5 u2 I J) (pr (fun (u36 : Int32) => pr (fun (I37 : gI) (J38 : gJ) => lz ((u4 + u36)) (fun (u41 : Int32) => j17 u34 u41 I37 J38)))))))
 (some (Sum.inl (I, J)))))))))
noncomputable def fX7_broughtBy_8  : Nat → Int32 → Int32 → Int32 → Int32 → Int32 → gI → gJ → Option ((gI × gJ) ⊕ (Int32 × gI × gJ))
  | 0 => fun _ _ _ _ _ _ _ => none
  | n + 1 => fX7_broughtBy_8b  (fX7_broughtBy_8  n)
set_option maxHeartbeats 4000000 in
set_option maxRecDepth 100000 in
theorem tX7_broughtBy_8 {l : Launch} {G : gG} {ad : Nat → Nat} {p : Program} {e : Env} {s : State} {m : MethodId} {args : Array Value} {below : List Frame} {meth : Method} {c : Code} {Q : State → Prop} (hok : gInj LM ad) (K : gCx G (gA LM ad) p s m args c cX7_broughtBy 6 RX7)  : ∀ (n : Nat) (u1 : Int32) (u2 : Int32) (u3 : Int32) (u4 : Int32) (u5 : Int32) (I : gI) (J : gJ) (out : Option ((gI × gJ) ⊕ (Int32 × gI × gJ))), fX7_broughtBy_8  n u1 u2 u3 u4 u5 I J = out → out ≠ none → ∀ (H : Heap) (locs : List Loc), gWd G LM ad (gA LM ad) s.heap I J H locs → ∀ (ls : Array Slot), lv_has ls 6 [(0, .ref (ad 0)), (1, .int u1), (2, .int u2), (3, .int u3), (4, .int u4), (5, .int u5)] → (∀ (I6 : gI) (J7 : gJ), some (Sum.inl (I6, J7)) = out → ∀ (H : Heap) (locs : List Loc), gWd G LM ad (gA LM ad) s.heap I6 J7 H locs → ∀ (ls : Array Slot), lv_has ls 6 [] → W p l e (gRm 6) s m args below meth c H locs 0 0 Q (F0 m 52 ls [])) → (∀ (y8 : Int32) (I9 : gI) (J10 : gJ), some (Sum.inr (y8, I9, J10)) = out → ∀ (H : Heap) (locs : List Loc), gWd G LM ad (gA LM ad) s.heap I9 J10 H locs → ∀ (ls : Array Slot), lv_has ls 6 [(4, .int y8)] → W p l e (gRm 6) s m args below meth c H locs 0 0 Q (F0 m 87 ls [])) → W p l e (gRm 6) s m args below meth c H locs 0 0 Q (F0 m 8 ls []) := by
  have hx := K.1; have hb := K.2.1; have hown := K.2.2.2.1; have hts := K.2.2.2.2.1
  intro n
  induction n with
  | zero => intro u1 u2 u3 u4 u5 I J out h hn; exact absurd h.symm hn
  | succ n ih =>
    intro u1 u2 u3 u4 u5 I J out h hn H locs hW ls hl hx1 hx2
    replace h : fX7_broughtBy_8b  (fX7_broughtBy_8  n) u1 u2 u3 u4 u5 I J = out := h
    unfold fX7_broughtBy_8b at h
    refine lv_iload hx hb dX7_broughtBy_8 (lv_at hl 5 rfl) ?_
    refine lv_aload_n hx hb dX7_broughtBy_10 rfl (lv_at hl 0 rfl) ?_
    refine g_get K hW (t := 2) (ci := 6) (k := 0) (v := .ref (ad 1)) kLM_0 rfl rfl i_X7 (by decide) q_1077 rfl (gfv2 rLM_0_0) dX7_broughtBy_11 ?_
    refine lv_iconst (v := (0 : Int32)) hx hb dX7_broughtBy_14 (by decide) ?_
    refine g_iald K hW kLM_1 in_0_1592 tn_0 dX7_broughtBy_15 ?_
    refine lv_icmp_ge (tgt := 87) hx hb dX7_broughtBy_16 (by decide) (fun c11 => ?_) (fun c11 => ?_)
    · replace h := gi_t h c11
      exact hx2 u4 I J h _ _ hW _ (lv_sub hl [4] rfl)
    · replace h := gi_f h c11
      refine lv_iload_n hx hb dX7_broughtBy_19 rfl (lv_at hl 1 rfl) ?_
      refine lv_iload hx hb dX7_broughtBy_20 (lv_at hl 5 rfl) ?_
      refine g_callSi (rest := []) K hW hl (kX7_has (l := l) (G := G) (ad := ad) hok u1 u5 I J (fX7_has u1 u5) rfl) q_1244 q_1245 q_139 q_1246 nm_X7_has ⟨Nat.le_of_ble_eq_true rfl, Nat.le_of_ble_eq_true rfl⟩ rfl rfl (Nat.le_of_ble_eq_true rfl) ⟨Nat.zero_le _, Nat.zero_le _⟩ dX7_broughtBy_22 (fun z12 H locs hW => ?_)
      obtain ⟨j17, e18, h⟩ := lz_o h
      have hj19 : ∀ (u13 : Int32) (u14 : Int32) (I15 : gI) (J16 : gJ), j17 u13 u14 I15 J16 = out → ∀ (H : Heap) (locs : List Loc), gWd G LM ad (gA LM ad) s.heap I15 J16 H locs → ∀ (ls : Array Slot), lv_has ls 6 [(0, .ref (ad 0)), (1, .int u1), (2, .int u2), (3, .int u13), (4, .int u14), (5, .int u5)] → W p l e (gRm 6) s m args below meth c H locs 0 0 Q (F0 m 81 ls []) := by
        intro u13 u14 I15 J16 h H locs hW ls hl
        replace h := jn4 e18 h
        obtain ⟨u20, e21, h⟩ := lz_o h
        refine lv_iinc (v := u20) (lv' := [(5, .int u20), (0, .ref (ad 0)), (1, .int u1), (2, .int u2), (3, .int u13), (4, .int u14)]) hx hb dX7_broughtBy_81 hl (k := 5) rfl (by rw [e21]; rfl) (by decide) rfl (fun ls hl => ?_)
        refine lv_goto (tgt := 8) hx hb dX7_broughtBy_84 (by decide) ?_
        exact ih u1 u2 u13 u14 u20 I15 J16 _ h hn _ _ hW _ (lv_sub hl [1, 2, 3, 4, 5, 0] rfl) hx1 hx2
      refine lv_if_ne (tgt := 31) hx hb dX7_broughtBy_25 (by decide) (fun c22 => ?_) (fun c22 => ?_)
      · replace h := gi_f h c22
        refine lv_aload_n hx hb dX7_broughtBy_31 rfl (lv_at hl 0 rfl) ?_
        refine lv_iload hx hb dX7_broughtBy_32 (lv_at hl 5 rfl) ?_
        refine lv_iload_n hx hb dX7_broughtBy_34 rfl (lv_at hl 2 rfl) ?_
        obtain ⟨u23, e24, h⟩ := bd_o h hn
        refine g_callVi (rest := []) K hW hl (kX7_doesWant (l := l) (G := G) (ad := ad) hok u5 u2 I J u23 e24) kLM_0 rfl (gG_V q_1354 q_1356 q_81 q_139 q_1357) nm_X7_doesWant ⟨Nat.le_of_ble_eq_true rfl, Nat.le_of_ble_eq_true rfl⟩ rfl rfl (Nat.le_of_ble_eq_true rfl) ⟨Nat.zero_le _, Nat.zero_le _⟩ dX7_broughtBy_35 (fun z25 H locs hW => ?_)
        refine lv_if_eq (tgt := 52) hx hb dX7_broughtBy_38 (by decide) (fun c26 => ?_) (fun c26 => ?_)
        · replace h := gi_t h c26
          exact hx1 I J h _ _ hW _ (lv_sub hl [] rfl)
        · replace h := gi_f h c26
          refine lv_iload_n hx hb dX7_broughtBy_41 rfl (lv_at hl 3 rfl) ?_
          refine lv_aload_n hx hb dX7_broughtBy_42 rfl (lv_at hl 0 rfl) ?_
          refine lv_iload hx hb dX7_broughtBy_43 (lv_at hl 5 rfl) ?_
          obtain ⟨u27, e28, h⟩ := bd_o h hn
          refine g_callVi (rest := [.int u3]) K hW hl (kX7_slicesOf (l := l) (G := G) (ad := ad) hok u5 I J u27 e28) kLM_0 rfl (gG_V q_1358 q_1360 q_82 q_139 q_1361) nm_X7_slicesOf ⟨Nat.le_of_ble_eq_true rfl, Nat.le_of_ble_eq_true rfl⟩ rfl rfl (Nat.le_of_ble_eq_true rfl) ⟨Nat.zero_le _, Nat.zero_le _⟩ dX7_broughtBy_45 (fun z29 H locs hW => ?_)
          refine lv_iand hx hb dX7_broughtBy_48 ?_
          refine lv_if_eq (tgt := 54) hx hb dX7_broughtBy_49 (by decide) (fun c30 => ?_) (fun c30 => ?_)
          · replace h := gi_t h c30
            refine lv_iload_n hx hb dX7_broughtBy_54 rfl (lv_at hl 3 rfl) ?_
            refine lv_aload_n hx hb dX7_broughtBy_55 rfl (lv_at hl 0 rfl) ?_
            refine lv_iload hx hb dX7_broughtBy_56 (lv_at hl 5 rfl) ?_
            obtain ⟨u31, e32, h⟩ := bd_o h hn
            refine g_callVi (rest := [.int u3]) K hW hl (kX7_slicesOf (l := l) (G := G) (ad := ad) hok u5 I J u31 e32) kLM_0 rfl (gG_V q_1358 q_1360 q_82 q_139 q_1361) nm_X7_slicesOf ⟨Nat.le_of_ble_eq_true rfl, Nat.le_of_ble_eq_true rfl⟩ rfl rfl (Nat.le_of_ble_eq_true rfl) ⟨Nat.zero_le _, Nat.zero_le _⟩ dX7_broughtBy_58 (fun z33 H locs hW => ?_)
            refine lv_ior hx hb dX7_broughtBy_61 ?_
            obtain ⟨u34, e35, h⟩ := lz_o h
            refine g_nmi e35 ?_
            refine lv_istore_n (lv' := [(3, .int u34), (0, .ref (ad 0)), (1, .int u1), (2, .int u2), (4, .int u4), (5, .int u5)]) hx hb dX7_broughtBy_62 rfl hl (by decide) rfl (fun ls hl => ?_)
            refine lv_iload hx hb dX7_broughtBy_63 (lv_at hl 4 rfl) ?_
            refine lv_aload_n hx hb dX7_broughtBy_65 rfl (lv_at hl 1 rfl) ?_
            refine lv_aload_n hx hb dX7_broughtBy_66 rfl (lv_at hl 1 rfl) ?_
            refine g_get K hW (t := 2) (ci := 6) (k := 0) (v := .ref (ad 1)) kLM_0 rfl rfl i_X7 (by decide) q_1077 rfl (gfv2 rLM_0_0) dX7_broughtBy_67 ?_
            refine lv_iconst (v := (2 : Int32)) hx hb dX7_broughtBy_70 (by decide) ?_
            refine g_iald K hW kLM_1 in_2_1592 tn_2 dX7_broughtBy_71 ?_
            refine lv_iload hx hb dX7_broughtBy_72 (lv_at hl 5 rfl) ?_
            refine lv_iload_n hx hb dX7_broughtBy_74 rfl (lv_at hl 3 rfl) ?_
            obtain ⟨⟨u36, I37, J38⟩, e39, h⟩ := bd_o h hn
            replace h := pr_o h
            replace h := pr_o h
            refine g_callVi (rest := [.int u4]) K hW hl (kX7_bidsOf (l := l) (G := G) (ad := ad) hok (I 1 2) u5 u2 I J u36 I37 J38 e39) kLM_0 rfl (gG_V q_1374 q_1376 q_86 q_139 q_1377) nm_X7_bidsOf ⟨Nat.le_of_ble_eq_true rfl, Nat.le_of_ble_eq_true rfl⟩ rfl rfl (Nat.le_of_ble_eq_true rfl) ⟨Nat.zero_le _, Nat.zero_le _⟩ dX7_broughtBy_75 (fun z40 H locs hW => ?_)
            refine lv_iadd hx hb dX7_broughtBy_78 ?_
            obtain ⟨u41, e42, h⟩ := lz_o h
            refine g_nmi e42 ?_
            refine lv_istore (lv' := [(4, .int u41), (3, .int u34), (0, .ref (ad 0)), (1, .int u1), (2, .int u2), (5, .int u5)]) hx hb dX7_broughtBy_79 hl (by decide) rfl (fun ls hl => ?_)
            exact hj19 u34 u41 I37 J38 h _ _ hW _ (lv_sub hl [2, 3, 4, 1, 0, 5] rfl)
          · replace h := gi_f h c30
            exact hx1 I J h _ _ hW _ (lv_sub hl [] rfl)
      · replace h := gi_t h c22
        refine lv_goto (tgt := 81) hx hb dX7_broughtBy_28 (by decide) ?_
        exact hj19 u3 u4 I J h _ _ hW _ (lv_sub hl [0, 1, 2, 3, 4, 5] rfl)
noncomputable def fX7_broughtBy  (x1 : Int32) (x2 : Int32) (I : gI) (J : gJ) : Option (Int32 × gI × gJ) :=
  bd (fX7_broughtBy_8 FU x1 x2 (0 : Int32) (0 : Int32) (0 : Int32) I J) (sm (pr (fun (I45 : gI) (J46 : gJ) => some ((-1 : Int32), I45, J46))) (pr (fun (u48 : Int32) => (pr (fun (I49 : gI) (J50 : gJ) => some (u48, I49, J50))))))
set_option maxHeartbeats 4000000 in
set_option maxRecDepth 100000 in
theorem kX7_broughtBy {l : Launch} {G : gG} {ad : Nat → Nat} (hok : gInj LM ad)    (x1 : Int32) (x2 : Int32) (I : gI) (J : gJ) (r : Int32) (I' : gI) (J' : gJ) (h : fX7_broughtBy x1 x2 I J = some (r, I', J')) : gMi l yX7_broughtBy cX7_broughtBy 6 (some .int) 6 G LM ad [.ref (ad 0), .int x1, .int x2] I J r True I' J' := by
  refine gMi_of (lst := [(0, .ref (ad 0)), (1, .int x1), (2, .int x2)]) (by decide) hok (Nat.le_of_ble_eq_true rfl) rfl ?_
  intro p e s m args below meth c Q ls K hW hl hfin
  have hn : (some (r, I', J') : Option (Int32 × gI × gJ)) ≠ none := Option.some_ne_none _
  have hx := K.1; have hb := K.2.1; have hown := K.2.2.2.1; have hts := K.2.2.2.2.1
  unfold fX7_broughtBy at h
  refine lv_iconst (v := (0 : Int32)) hx hb dX7_broughtBy_0 (by decide) ?_
  refine lv_istore_n (lv' := [(3, .int (0 : Int32)), (0, .ref (ad 0)), (1, .int x1), (2, .int x2)]) hx hb dX7_broughtBy_1 rfl hl (by decide) rfl (fun ls hl => ?_)
  refine lv_iconst (v := (0 : Int32)) hx hb dX7_broughtBy_2 (by decide) ?_
  refine lv_istore (lv' := [(4, .int (0 : Int32)), (3, .int (0 : Int32)), (0, .ref (ad 0)), (1, .int x1), (2, .int x2)]) hx hb dX7_broughtBy_3 hl (by decide) rfl (fun ls hl => ?_)
  refine lv_iconst (v := (0 : Int32)) hx hb dX7_broughtBy_5 (by decide) ?_
  refine lv_istore (lv' := [(5, .int (0 : Int32)), (4, .int (0 : Int32)), (3, .int (0 : Int32)), (0, .ref (ad 0)), (1, .int x1), (2, .int x2)]) hx hb dX7_broughtBy_6 hl (by decide) rfl (fun ls hl => ?_)
  obtain ⟨r43, e44, h⟩ := bd_o h hn
  refine tX7_broughtBy_8 hok K FU x1 x2 (0 : Int32) (0 : Int32) (0 : Int32) I J (some r43) e44 (Option.some_ne_none _) _ _ hW _ (lv_sub hl [3, 4, 5, 2, 1, 0] rfl) ?_ ?_
  · intro I45 J46 q47 H locs hW ls hl
    replace q47 := Option.some.inj q47
    subst q47
    replace h := sm_l h
    replace h := pr_o h
    refine lv_iconst (v := (-1 : Int32)) hx hb dX7_broughtBy_52 (by decide) ?_
    obtain ⟨a1, a2, a3⟩ := so3 h
    replace hW := gWd_nI a2 hW
    replace hW := gWd_nJ a3 hW
    exact g_nmi a1 (hfin _ _ _ _ hW dX7_broughtBy_53)
  · intro u48 I49 J50 q51 H locs hW ls hl
    replace q51 := Option.some.inj q51
    subst q51
    replace h := sm_r h
    replace h := pr_o h
    replace h := pr_o h
    refine lv_iload hx hb dX7_broughtBy_87 (lv_at hl 0 rfl) ?_
    obtain ⟨a1, a2, a3⟩ := so3 h
    replace hW := gWd_nI a2 hW
    replace hW := gWd_nJ a3 hW
    exact g_nmi a1 (hfin _ _ _ _ hW dX7_broughtBy_89)
theorem nm_X7_broughtBy : gNm yX7_broughtBy 2 := by decide +kernel
noncomputable def fX7_bestSet_5b  (rec : Int32 → Int32 → Int32 → Int32 → gI → gJ → Option ((Int32 × gI × gJ))) (u1 : Int32) (u2 : Int32) (u3 : Int32) (u4 : Int32) (I : gI) (J : gJ) : Option ((Int32 × gI × gJ)) :=
  gi ((jshl (1 : Int32) (I 1 0)) ≤ u4)
 (some (u3, I, J))
 (lz (fun (u9 : Int32) => fun (I10 : gI) => fun (J11 : gJ) => lz ((u4 + (1 : Int32))) (fun (u15 : Int32) => rec u1 u2 u9 u15 I10 J11)) (fun j12 => gi ((u1 &&& (u4 ^^^ (-1 : Int32))) = 0)
 (bd (fX7_broughtBy u4 u2 I J) (pr (fun (u18 : Int32) => pr (fun (I19 : gI) (J20 : gJ) => lz (fun (u23 : Int32) => fun (I24 : gI) => fun (J25 : gJ) => gi (u18 ≤ u23)
 (j12 u3 I24 J25)
 (j12 u4 I24 J25)) (fun j26 => gi (u3 = (-1 : Int32))
 (j26 (-1 : Int32) I19 J20)
 (bd (fX7_broughtBy u3 u2 I19 J20) (pr (fun (u31 : Int32) => pr (fun (I32 : gI) (J33 : gJ) => j26 u31 I32 J33)))))))))
 (j12 u3 I J)))
noncomputable def fX7_bestSet_5  : Nat → Int32 → Int32 → Int32 → Int32 → gI → gJ → Option ((Int32 × gI × gJ))
  | 0 => fun _ _ _ _ _ _ => none
  | n + 1 => fX7_bestSet_5b  (fX7_bestSet_5  n)
set_option maxHeartbeats 4000000 in
set_option maxRecDepth 100000 in
theorem tX7_bestSet_5 {l : Launch} {G : gG} {ad : Nat → Nat} {p : Program} {e : Env} {s : State} {m : MethodId} {args : Array Value} {below : List Frame} {meth : Method} {c : Code} {Q : State → Prop} (hok : gInj LM ad) (K : gCx G (gA LM ad) p s m args c cX7_bestSet 5 RX7)  : ∀ (n : Nat) (u1 : Int32) (u2 : Int32) (u3 : Int32) (u4 : Int32) (I : gI) (J : gJ) (out : Option ((Int32 × gI × gJ))), fX7_bestSet_5  n u1 u2 u3 u4 I J = out → out ≠ none → ∀ (H : Heap) (locs : List Loc), gWd G LM ad (gA LM ad) s.heap I J H locs → ∀ (ls : Array Slot), lv_has ls 5 [(0, .ref (ad 0)), (1, .int u1), (2, .int u2), (3, .int u3), (4, .int u4)] → (∀ (y5 : Int32) (I6 : gI) (J7 : gJ), some (y5, I6, J7) = out → ∀ (H : Heap) (locs : List Loc), gWd G LM ad (gA LM ad) s.heap I6 J7 H locs → ∀ (ls : Array Slot), lv_has ls 5 [(3, .int y5)] → W p l e (gRm 7) s m args below meth c H locs 0 0 Q (F0 m 61 ls [])) → W p l e (gRm 7) s m args below meth c H locs 0 0 Q (F0 m 5 ls []) := by
  have hx := K.1; have hb := K.2.1; have hown := K.2.2.2.1; have hts := K.2.2.2.2.1
  intro n
  induction n with
  | zero => intro u1 u2 u3 u4 I J out h hn; exact absurd h.symm hn
  | succ n ih =>
    intro u1 u2 u3 u4 I J out h hn H locs hW ls hl hx1
    replace h : fX7_bestSet_5b  (fX7_bestSet_5  n) u1 u2 u3 u4 I J = out := h
    unfold fX7_bestSet_5b at h
    refine lv_iload hx hb dX7_bestSet_5 (lv_at hl 4 rfl) ?_
    refine lv_iconst (v := (1 : Int32)) hx hb dX7_bestSet_7 (by decide) ?_
    refine lv_aload_n hx hb dX7_bestSet_8 rfl (lv_at hl 0 rfl) ?_
    refine g_get K hW (t := 2) (ci := 6) (k := 0) (v := .ref (ad 1)) kLM_0 rfl rfl i_X7 (by decide) q_1077 rfl (gfv2 rLM_0_0) dX7_bestSet_9 ?_
    refine lv_iconst (v := (0 : Int32)) hx hb dX7_bestSet_12 (by decide) ?_
    refine g_iald K hW kLM_1 in_0_1592 tn_0 dX7_bestSet_13 ?_
    refine g_ishl hx hb dX7_bestSet_14 ?_
    refine lv_icmp_ge (tgt := 61) hx hb dX7_bestSet_15 (by decide) (fun c8 => ?_) (fun c8 => ?_)
    · replace h := gi_t h c8
      exact hx1 u3 I J h _ _ hW _ (lv_sub hl [3] rfl)
    · replace h := gi_f h c8
      refine lv_iload_n hx hb dX7_bestSet_18 rfl (lv_at hl 1 rfl) ?_
      refine lv_iload hx hb dX7_bestSet_19 (lv_at hl 4 rfl) ?_
      refine lv_iconst (v := (-1 : Int32)) hx hb dX7_bestSet_21 (by decide) ?_
      refine lv_ixor hx hb dX7_bestSet_22 ?_
      refine lv_iand hx hb dX7_bestSet_23 ?_
      obtain ⟨j12, e13, h⟩ := lz_o h
      have hj14 : ∀ (u9 : Int32) (I10 : gI) (J11 : gJ), j12 u9 I10 J11 = out → ∀ (H : Heap) (locs : List Loc), gWd G LM ad (gA LM ad) s.heap I10 J11 H locs → ∀ (ls : Array Slot), lv_has ls 5 [(0, .ref (ad 0)), (1, .int u1), (2, .int u2), (3, .int u9), (4, .int u4)] → W p l e (gRm 7) s m args below meth c H locs 0 0 Q (F0 m 55 ls []) := by
        intro u9 I10 J11 h H locs hW ls hl
        replace h := jn3 e13 h
        obtain ⟨u15, e16, h⟩ := lz_o h
        refine lv_iinc (v := u15) (lv' := [(4, .int u15), (0, .ref (ad 0)), (1, .int u1), (2, .int u2), (3, .int u9)]) hx hb dX7_bestSet_55 hl (k := 4) rfl (by rw [e16]; rfl) (by decide) rfl (fun ls hl => ?_)
        refine lv_goto (tgt := 5) hx hb dX7_bestSet_58 (by decide) ?_
        exact ih u1 u2 u9 u15 I10 J11 _ h hn _ _ hW _ (lv_sub hl [1, 2, 3, 4, 0] rfl) hx1
      refine lv_if_ne (tgt := 55) hx hb dX7_bestSet_24 (by decide) (fun c17 => ?_) (fun c17 => ?_)
      · replace h := gi_f h c17
        exact hj14 u3 I J h _ _ hW _ (lv_sub hl [0, 1, 2, 3, 4] rfl)
      · replace h := gi_t h c17
        refine lv_aload_n hx hb dX7_bestSet_27 rfl (lv_at hl 0 rfl) ?_
        refine lv_iload hx hb dX7_bestSet_28 (lv_at hl 4 rfl) ?_
        refine lv_iload_n hx hb dX7_bestSet_30 rfl (lv_at hl 2 rfl) ?_
        obtain ⟨⟨u18, I19, J20⟩, e21, h⟩ := bd_o h hn
        replace h := pr_o h
        replace h := pr_o h
        refine g_callVi (rest := []) K hW hl (kX7_broughtBy (l := l) (G := G) (ad := ad) hok u4 u2 I J u18 I19 J20 e21) kLM_0 rfl (gG_V q_1613 q_1615 q_112 q_139 q_1616) nm_X7_broughtBy ⟨Nat.le_of_ble_eq_true rfl, Nat.le_of_ble_eq_true rfl⟩ rfl rfl (Nat.le_of_ble_eq_true rfl) ⟨Nat.zero_le _, Nat.zero_le _⟩ dX7_bestSet_31 (fun z22 H locs hW => ?_)
        refine lv_iload_n hx hb dX7_bestSet_34 rfl (lv_at hl 3 rfl) ?_
        refine lv_iconst (v := (-1 : Int32)) hx hb dX7_bestSet_35 (by decide) ?_
        obtain ⟨j26, e27, h⟩ := lz_o h
        have hj28 : ∀ (u23 : Int32) (I24 : gI) (J25 : gJ), j26 u23 I24 J25 = out → ∀ (H : Heap) (locs : List Loc), gWd G LM ad (gA LM ad) s.heap I24 J25 H locs → ∀ (ls : Array Slot), lv_has ls 5 [(0, .ref (ad 0)), (1, .int u1), (2, .int u2), (3, .int u3), (4, .int u4)] → W p l e (gRm 7) s m args below meth c H locs 0 0 Q (F0 m 49 ls [.int u23, .int u18]) := by
          intro u23 I24 J25 h H locs hW ls hl
          replace h := jn3 e27 h
          refine lv_icmp_le (tgt := 55) hx hb dX7_bestSet_49 (by decide) (fun c29 => ?_) (fun c29 => ?_)
          · replace h := gi_t h c29
            exact hj14 u3 I24 J25 h _ _ hW _ (lv_sub hl [0, 1, 2, 3, 4] rfl)
          · replace h := gi_f h c29
            refine lv_iload hx hb dX7_bestSet_52 (lv_at hl 4 rfl) ?_
            refine lv_istore_n (lv' := [(3, .int u4), (0, .ref (ad 0)), (1, .int u1), (2, .int u2), (4, .int u4)]) hx hb dX7_bestSet_54 rfl hl (by decide) rfl (fun ls hl => ?_)
            exact hj14 u4 I24 J25 h _ _ hW _ (lv_sub hl [1, 2, 3, 0, 4] rfl)
        refine lv_icmp_ne (tgt := 43) hx hb dX7_bestSet_36 (by decide) (fun c30 => ?_) (fun c30 => ?_)
        · replace h := gi_f h c30
          refine lv_aload_n hx hb dX7_bestSet_43 rfl (lv_at hl 0 rfl) ?_
          refine lv_iload_n hx hb dX7_bestSet_44 rfl (lv_at hl 3 rfl) ?_
          refine lv_iload_n hx hb dX7_bestSet_45 rfl (lv_at hl 2 rfl) ?_
          obtain ⟨⟨u31, I32, J33⟩, e34, h⟩ := bd_o h hn
          replace h := pr_o h
          replace h := pr_o h
          refine g_callVi (rest := [.int u18]) K hW hl (kX7_broughtBy (l := l) (G := G) (ad := ad) hok u3 u2 I19 J20 u31 I32 J33 e34) kLM_0 rfl (gG_V q_1613 q_1615 q_112 q_139 q_1616) nm_X7_broughtBy ⟨Nat.le_of_ble_eq_true rfl, Nat.le_of_ble_eq_true rfl⟩ rfl rfl (Nat.le_of_ble_eq_true rfl) ⟨Nat.zero_le _, Nat.zero_le _⟩ dX7_bestSet_46 (fun z35 H locs hW => ?_)
          exact hj28 u31 I32 J33 h _ _ hW _ (lv_sub hl [0, 1, 2, 3, 4] rfl)
        · replace h := gi_t h c30
          refine lv_iconst (v := (-1 : Int32)) hx hb dX7_bestSet_39 (by decide) ?_
          refine lv_goto (tgt := 49) hx hb dX7_bestSet_40 (by decide) ?_
          exact hj28 (-1 : Int32) I19 J20 h _ _ hW _ (lv_sub hl [0, 1, 2, 3, 4] rfl)
noncomputable def fX7_bestSet  (x1 : Int32) (x2 : Int32) (I : gI) (J : gJ) : Option (Int32 × gI × gJ) :=
  bd (fX7_bestSet_5 FU x1 x2 (-1 : Int32) (0 : Int32) I J) (pr (fun (u38 : Int32) => (pr (fun (I39 : gI) (J40 : gJ) => some (u38, I39, J40)))))
set_option maxHeartbeats 4000000 in
set_option maxRecDepth 100000 in
theorem kX7_bestSet {l : Launch} {G : gG} {ad : Nat → Nat} (hok : gInj LM ad)    (x1 : Int32) (x2 : Int32) (I : gI) (J : gJ) (r : Int32) (I' : gI) (J' : gJ) (h : fX7_bestSet x1 x2 I J = some (r, I', J')) : gMi l yX7_bestSet cX7_bestSet 5 (some .int) 7 G LM ad [.ref (ad 0), .int x1, .int x2] I J r True I' J' := by
  refine gMi_of (lst := [(0, .ref (ad 0)), (1, .int x1), (2, .int x2)]) (by decide) hok (Nat.le_of_ble_eq_true rfl) rfl ?_
  intro p e s m args below meth c Q ls K hW hl hfin
  have hn : (some (r, I', J') : Option (Int32 × gI × gJ)) ≠ none := Option.some_ne_none _
  have hx := K.1; have hb := K.2.1; have hown := K.2.2.2.1; have hts := K.2.2.2.2.1
  unfold fX7_bestSet at h
  refine lv_iconst (v := (-1 : Int32)) hx hb dX7_bestSet_0 (by decide) ?_
  refine lv_istore_n (lv' := [(3, .int (-1 : Int32)), (0, .ref (ad 0)), (1, .int x1), (2, .int x2)]) hx hb dX7_bestSet_1 rfl hl (by decide) rfl (fun ls hl => ?_)
  refine lv_iconst (v := (0 : Int32)) hx hb dX7_bestSet_2 (by decide) ?_
  refine lv_istore (lv' := [(4, .int (0 : Int32)), (3, .int (-1 : Int32)), (0, .ref (ad 0)), (1, .int x1), (2, .int x2)]) hx hb dX7_bestSet_3 hl (by decide) rfl (fun ls hl => ?_)
  obtain ⟨r36, e37, h⟩ := bd_o h hn
  refine tX7_bestSet_5 hok K FU x1 x2 (-1 : Int32) (0 : Int32) I J (some r36) e37 (Option.some_ne_none _) _ _ hW _ (lv_sub hl [2, 3, 4, 1, 0] rfl) ?_
  · intro u38 I39 J40 q41 H locs hW ls hl
    replace q41 := Option.some.inj q41
    subst q41
    replace h := pr_o h
    replace h := pr_o h
    refine lv_iload_n hx hb dX7_bestSet_61 rfl (lv_at hl 0 rfl) ?_
    obtain ⟨a1, a2, a3⟩ := so3 h
    replace hW := gWd_nI a2 hW
    replace hW := gWd_nJ a3 hW
    exact g_nmi a1 (hfin _ _ _ _ hW dX7_bestSet_62)
theorem nm_X7_bestSet : gNm yX7_bestSet 2 := by decide +kernel
noncomputable def fX7_pack  (x1 : Int32) (x2 : Int32) (I : gI) (J : gJ) : Option (Int32 × gI × gJ) :=
  gi ((fX7_isSort x1) = 0)
 (some ((-1 : Int32), I, J))
 (gi (x2 = 0)
 (bd (fX7_bestSet (0 : Int32) x1 I J) (pr (fun (u4 : Int32) => pr (fun (I5 : gI) (J6 : gJ) => bd (fX7_broughtBy u4 x1 I5 J6) (pr (fun (u9 : Int32) => pr (fun (I10 : gI) (J11 : gJ) => some (u9, I10, J11))))))))
 (bd (fX7_bestSet (0 : Int32) x1 I J) (pr (fun (u14 : Int32) => pr (fun (I15 : gI) (J16 : gJ) => some (u14, I15, J16))))))
set_option maxHeartbeats 4000000 in
set_option maxRecDepth 100000 in
theorem kX7_pack {l : Launch} {G : gG} {ad : Nat → Nat} (hok : gInj LM ad)    (x1 : Int32) (x2 : Int32) (I : gI) (J : gJ) (r : Int32) (I' : gI) (J' : gJ) (h : fX7_pack x1 x2 I J = some (r, I', J')) : gMi l yX7_pack cX7_pack 3 (some .int) 8 G LM ad [.ref (ad 0), .int x1, .int x2] I J r True I' J' := by
  refine gMi_of (lst := [(0, .ref (ad 0)), (1, .int x1), (2, .int x2)]) (by decide) hok (Nat.le_of_ble_eq_true rfl) rfl ?_
  intro p e s m args below meth c Q ls K hW hl hfin
  have hn : (some (r, I', J') : Option (Int32 × gI × gJ)) ≠ none := Option.some_ne_none _
  have hx := K.1; have hb := K.2.1; have hown := K.2.2.2.1; have hts := K.2.2.2.2.1
  unfold fX7_pack at h
  refine lv_iload_n hx hb dX7_pack_0 rfl (lv_at hl 1 rfl) ?_
  refine g_callSi (rest := []) K hW hl (kX7_isSort (l := l) (G := G) (ad := ad) hok x1 I J (fX7_isSort x1) rfl) q_1168 q_1169 q_139 q_1170 nm_X7_isSort ⟨Nat.le_of_ble_eq_true rfl, Nat.le_of_ble_eq_true rfl⟩ rfl rfl (Nat.le_of_ble_eq_true rfl) ⟨Nat.zero_le _, Nat.zero_le _⟩ dX7_pack_1 (fun z1 H locs hW => ?_)
  refine lv_if_ne (tgt := 11) hx hb dX7_pack_4 (by decide) (fun c2 => ?_) (fun c2 => ?_)
  · replace h := gi_f h c2
    refine lv_iload_n hx hb dX7_pack_11 rfl (lv_at hl 2 rfl) ?_
    refine lv_if_eq (tgt := 24) hx hb dX7_pack_12 (by decide) (fun c3 => ?_) (fun c3 => ?_)
    · replace h := gi_t h c3
      refine lv_aload_n hx hb dX7_pack_24 rfl (lv_at hl 0 rfl) ?_
      refine lv_aload_n hx hb dX7_pack_25 rfl (lv_at hl 0 rfl) ?_
      refine lv_iconst (v := (0 : Int32)) hx hb dX7_pack_26 (by decide) ?_
      refine lv_iload_n hx hb dX7_pack_27 rfl (lv_at hl 1 rfl) ?_
      obtain ⟨⟨u4, I5, J6⟩, e7, h⟩ := bd_o h hn
      replace h := pr_o h
      replace h := pr_o h
      refine g_callVi (rest := [.ref (ad 0)]) K hW hl (kX7_bestSet (l := l) (G := G) (ad := ad) hok (0 : Int32) x1 I J u4 I5 J6 e7) kLM_0 rfl (gG_V q_1609 q_1611 q_111 q_139 q_1612) nm_X7_bestSet ⟨Nat.le_of_ble_eq_true rfl, Nat.le_of_ble_eq_true rfl⟩ rfl rfl (Nat.le_of_ble_eq_true rfl) ⟨Nat.zero_le _, Nat.zero_le _⟩ dX7_pack_28 (fun z8 H locs hW => ?_)
      refine lv_iload_n hx hb dX7_pack_31 rfl (lv_at hl 1 rfl) ?_
      obtain ⟨⟨u9, I10, J11⟩, e12, h⟩ := bd_o h hn
      replace h := pr_o h
      replace h := pr_o h
      refine g_callVi (rest := []) K hW hl (kX7_broughtBy (l := l) (G := G) (ad := ad) hok u4 x1 I5 J6 u9 I10 J11 e12) kLM_0 rfl (gG_V q_1613 q_1615 q_112 q_139 q_1616) nm_X7_broughtBy ⟨Nat.le_of_ble_eq_true rfl, Nat.le_of_ble_eq_true rfl⟩ rfl rfl (Nat.le_of_ble_eq_true rfl) ⟨Nat.zero_le _, Nat.zero_le _⟩ dX7_pack_32 (fun z13 H locs hW => ?_)
      obtain ⟨a1, a2, a3⟩ := so3 h
      replace hW := gWd_nI a2 hW
      replace hW := gWd_nJ a3 hW
      exact g_nmi a1 (hfin _ _ _ _ hW dX7_pack_35)
    · replace h := gi_f h c3
      refine lv_aload_n hx hb dX7_pack_15 rfl (lv_at hl 0 rfl) ?_
      refine lv_iconst (v := (0 : Int32)) hx hb dX7_pack_16 (by decide) ?_
      refine lv_iload_n hx hb dX7_pack_17 rfl (lv_at hl 1 rfl) ?_
      obtain ⟨⟨u14, I15, J16⟩, e17, h⟩ := bd_o h hn
      replace h := pr_o h
      replace h := pr_o h
      refine g_callVi (rest := []) K hW hl (kX7_bestSet (l := l) (G := G) (ad := ad) hok (0 : Int32) x1 I J u14 I15 J16 e17) kLM_0 rfl (gG_V q_1609 q_1611 q_111 q_139 q_1612) nm_X7_bestSet ⟨Nat.le_of_ble_eq_true rfl, Nat.le_of_ble_eq_true rfl⟩ rfl rfl (Nat.le_of_ble_eq_true rfl) ⟨Nat.zero_le _, Nat.zero_le _⟩ dX7_pack_18 (fun z18 H locs hW => ?_)
      refine lv_goto (tgt := 35) hx hb dX7_pack_21 (by decide) ?_
      obtain ⟨a1, a2, a3⟩ := so3 h
      replace hW := gWd_nI a2 hW
      replace hW := gWd_nJ a3 hW
      exact g_nmi a1 (hfin _ _ _ _ hW dX7_pack_35)
  · replace h := gi_t h c2
    refine lv_iconst (v := (-1 : Int32)) hx hb dX7_pack_7 (by decide) ?_
    refine lv_goto (tgt := 35) hx hb dX7_pack_8 (by decide) ?_
    obtain ⟨a1, a2, a3⟩ := so3 h
    replace hW := gWd_nI a2 hW
    replace hW := gWd_nJ a3 hW
    exact g_nmi a1 (hfin _ _ _ _ hW dX7_pack_35)
noncomputable def fX7_see  (x1 : Int32) (x2 : Int32) (I : gI) (J : gJ) : Option (Int32 × gI × gJ) :=
  gi ((fX7_isIn x1 (0 : Int32) ((jshl (1 : Int32) (I 1 0)) - (1 : Int32))) = 0)
 (some ((-1 : Int32), I, J))
 (gi ((fX7_isSort x2) = 0)
 (some ((-1 : Int32), I, J))
 (bd (fX7_bestSet x1 x2 I J) (pr (fun (u5 : Int32) => pr (fun (I6 : gI) (J7 : gJ) => gi (u5 = (-1 : Int32))
 (some ((-1 : Int32), I6, J7))
 (bd (fX7_broughtBy u5 x2 I6 J7) (pr (fun (u11 : Int32) => pr (fun (I12 : gI) (J13 : gJ) => some (u11, I12, J13))))))))))
set_option maxHeartbeats 4000000 in
set_option maxRecDepth 100000 in
theorem kX7_see {l : Launch} {G : gG} {ad : Nat → Nat} (hok : gInj LM ad)    (x1 : Int32) (x2 : Int32) (I : gI) (J : gJ) (r : Int32) (I' : gI) (J' : gJ) (h : fX7_see x1 x2 I J = some (r, I', J')) : gMi l yX7_see cX7_see 4 (some .int) 8 G LM ad [.ref (ad 0), .int x1, .int x2] I J r True I' J' := by
  refine gMi_of (lst := [(0, .ref (ad 0)), (1, .int x1), (2, .int x2)]) (by decide) hok (Nat.le_of_ble_eq_true rfl) rfl ?_
  intro p e s m args below meth c Q ls K hW hl hfin
  have hn : (some (r, I', J') : Option (Int32 × gI × gJ)) ≠ none := Option.some_ne_none _
  have hx := K.1; have hb := K.2.1; have hown := K.2.2.2.1; have hts := K.2.2.2.2.1
  unfold fX7_see at h
  refine lv_iload_n hx hb dX7_see_0 rfl (lv_at hl 1 rfl) ?_
  refine lv_iconst (v := (0 : Int32)) hx hb dX7_see_1 (by decide) ?_
  refine lv_iconst (v := (1 : Int32)) hx hb dX7_see_2 (by decide) ?_
  refine lv_aload_n hx hb dX7_see_3 rfl (lv_at hl 0 rfl) ?_
  refine g_get K hW (t := 2) (ci := 6) (k := 0) (v := .ref (ad 1)) kLM_0 rfl rfl i_X7 (by decide) q_1077 rfl (gfv2 rLM_0_0) dX7_see_4 ?_
  refine lv_iconst (v := (0 : Int32)) hx hb dX7_see_7 (by decide) ?_
  refine g_iald K hW kLM_1 in_0_1592 tn_0 dX7_see_8 ?_
  refine g_ishl hx hb dX7_see_9 ?_
  refine lv_iconst (v := (1 : Int32)) hx hb dX7_see_10 (by decide) ?_
  refine lv_isub hx hb dX7_see_11 ?_
  refine g_callSi (rest := []) K hW hl (kX7_isIn (l := l) (G := G) (ad := ad) hok x1 (0 : Int32) ((jshl (1 : Int32) (I 1 0)) - (1 : Int32)) I J (fX7_isIn x1 (0 : Int32) ((jshl (1 : Int32) (I 1 0)) - (1 : Int32))) rfl) q_1171 q_1172 q_139 q_1173 nm_X7_isIn ⟨Nat.le_of_ble_eq_true rfl, Nat.le_of_ble_eq_true rfl⟩ rfl rfl (Nat.le_of_ble_eq_true rfl) ⟨Nat.zero_le _, Nat.zero_le _⟩ dX7_see_12 (fun z1 H locs hW => ?_)
  refine lv_if_eq (tgt := 25) hx hb dX7_see_15 (by decide) (fun c2 => ?_) (fun c2 => ?_)
  · replace h := gi_t h c2
    refine lv_iconst (v := (-1 : Int32)) hx hb dX7_see_25 (by decide) ?_
    obtain ⟨a1, a2, a3⟩ := so3 h
    replace hW := gWd_nI a2 hW
    replace hW := gWd_nJ a3 hW
    exact g_nmi a1 (hfin _ _ _ _ hW dX7_see_26)
  · replace h := gi_f h c2
    refine lv_iload_n hx hb dX7_see_18 rfl (lv_at hl 2 rfl) ?_
    refine g_callSi (rest := []) K hW hl (kX7_isSort (l := l) (G := G) (ad := ad) hok x2 I J (fX7_isSort x2) rfl) q_1168 q_1169 q_139 q_1170 nm_X7_isSort ⟨Nat.le_of_ble_eq_true rfl, Nat.le_of_ble_eq_true rfl⟩ rfl rfl (Nat.le_of_ble_eq_true rfl) ⟨Nat.zero_le _, Nat.zero_le _⟩ dX7_see_19 (fun z3 H locs hW => ?_)
    refine lv_if_ne (tgt := 27) hx hb dX7_see_22 (by decide) (fun c4 => ?_) (fun c4 => ?_)
    · replace h := gi_f h c4
      refine lv_aload_n hx hb dX7_see_27 rfl (lv_at hl 0 rfl) ?_
      refine lv_iload_n hx hb dX7_see_28 rfl (lv_at hl 1 rfl) ?_
      refine lv_iload_n hx hb dX7_see_29 rfl (lv_at hl 2 rfl) ?_
      obtain ⟨⟨u5, I6, J7⟩, e8, h⟩ := bd_o h hn
      replace h := pr_o h
      replace h := pr_o h
      refine g_callVi (rest := []) K hW hl (kX7_bestSet (l := l) (G := G) (ad := ad) hok x1 x2 I J u5 I6 J7 e8) kLM_0 rfl (gG_V q_1609 q_1611 q_111 q_139 q_1612) nm_X7_bestSet ⟨Nat.le_of_ble_eq_true rfl, Nat.le_of_ble_eq_true rfl⟩ rfl rfl (Nat.le_of_ble_eq_true rfl) ⟨Nat.zero_le _, Nat.zero_le _⟩ dX7_see_30 (fun z9 H locs hW => ?_)
      refine lv_istore_n (lv' := [(3, .int u5), (0, .ref (ad 0)), (1, .int x1), (2, .int x2)]) hx hb dX7_see_33 rfl hl (by decide) rfl (fun ls hl => ?_)
      refine lv_iload_n hx hb dX7_see_34 rfl (lv_at hl 0 rfl) ?_
      refine lv_iconst (v := (-1 : Int32)) hx hb dX7_see_35 (by decide) ?_
      refine lv_icmp_ne (tgt := 43) hx hb dX7_see_36 (by decide) (fun c10 => ?_) (fun c10 => ?_)
      · replace h := gi_f h c10
        refine lv_aload_n hx hb dX7_see_43 rfl (lv_at hl 1 rfl) ?_
        refine lv_iload_n hx hb dX7_see_44 rfl (lv_at hl 0 rfl) ?_
        refine lv_iload_n hx hb dX7_see_45 rfl (lv_at hl 3 rfl) ?_
        obtain ⟨⟨u11, I12, J13⟩, e14, h⟩ := bd_o h hn
        replace h := pr_o h
        replace h := pr_o h
        refine g_callVi (rest := []) K hW hl (kX7_broughtBy (l := l) (G := G) (ad := ad) hok u5 x2 I6 J7 u11 I12 J13 e14) kLM_0 rfl (gG_V q_1613 q_1615 q_112 q_139 q_1616) nm_X7_broughtBy ⟨Nat.le_of_ble_eq_true rfl, Nat.le_of_ble_eq_true rfl⟩ rfl rfl (Nat.le_of_ble_eq_true rfl) ⟨Nat.zero_le _, Nat.zero_le _⟩ dX7_see_46 (fun z15 H locs hW => ?_)
        obtain ⟨a1, a2, a3⟩ := so3 h
        replace hW := gWd_nI a2 hW
        replace hW := gWd_nJ a3 hW
        exact g_nmi a1 (hfin _ _ _ _ hW dX7_see_49)
      · replace h := gi_t h c10
        refine lv_iconst (v := (-1 : Int32)) hx hb dX7_see_39 (by decide) ?_
        refine lv_goto (tgt := 49) hx hb dX7_see_40 (by decide) ?_
        obtain ⟨a1, a2, a3⟩ := so3 h
        replace hW := gWd_nI a2 hW
        replace hW := gWd_nJ a3 hW
        exact g_nmi a1 (hfin _ _ _ _ hW dX7_see_49)
    · replace h := gi_t h c4
      refine lv_iconst (v := (-1 : Int32)) hx hb dX7_see_25 (by decide) ?_
      obtain ⟨a1, a2, a3⟩ := so3 h
      replace hW := gWd_nI a2 hW
      replace hW := gWd_nJ a3 hW
      exact g_nmi a1 (hfin _ _ _ _ hW dX7_see_26)
noncomputable def fX7_oddsOf  (x1 : Int32) (I : gI) : Option (Int32) :=
  bd (fX7_allOdds I) (fun (u1 : Int32) => gi (u1 = 0)
 (gi (x1 = 0)
 (some (1 : Int32))
 (some (0 : Int32)))
 (gd (vp_in ((29 : Int32) + x1) 1592) (some (I 1 (((29 : Int32) + x1)).toNatClampNeg))))
set_option maxHeartbeats 4000000 in
set_option maxRecDepth 100000 in
theorem kX7_oddsOf {l : Launch} {G : gG} {ad : Nat → Nat} (hok : gInj LM ad)    (x1 : Int32) (I : gI) (J : gJ) (r : Int32) (h : fX7_oddsOf x1 I = some r) : gMi l yX7_oddsOf cX7_oddsOf 2 (some .int) 2 G LM ad [.ref (ad 0), .int x1] I J r True I J := by
  refine gMi_of (lst := [(0, .ref (ad 0)), (1, .int x1)]) (by decide) hok (Nat.le_of_ble_eq_true rfl) rfl ?_
  intro p e s m args below meth c Q ls K hW hl hfin
  have hn : (some r : Option (Int32)) ≠ none := Option.some_ne_none _
  have hx := K.1; have hb := K.2.1; have hown := K.2.2.2.1; have hts := K.2.2.2.2.1
  unfold fX7_oddsOf at h
  refine lv_aload_n hx hb dX7_oddsOf_0 rfl (lv_at hl 0 rfl) ?_
  obtain ⟨u1, e2, h⟩ := bd_o h hn
  refine g_callVi (rest := []) K hW hl (kX7_allOdds (l := l) (G := G) (ad := ad) hok I J u1 e2) kLM_0 rfl (gG_V q_1490 q_1492 q_105 q_139 q_1493) nm_X7_allOdds ⟨Nat.le_of_ble_eq_true rfl, Nat.le_of_ble_eq_true rfl⟩ rfl rfl (Nat.le_of_ble_eq_true rfl) ⟨Nat.zero_le _, Nat.zero_le _⟩ dX7_oddsOf_1 (fun z3 H locs hW => ?_)
  refine lv_if_ne (tgt := 19) hx hb dX7_oddsOf_4 (by decide) (fun c4 => ?_) (fun c4 => ?_)
  · replace h := gi_f h c4
    refine lv_aload_n hx hb dX7_oddsOf_19 rfl (lv_at hl 0 rfl) ?_
    refine g_get K hW (t := 2) (ci := 6) (k := 0) (v := .ref (ad 1)) kLM_0 rfl rfl i_X7 (by decide) q_1077 rfl (gfv2 rLM_0_0) dX7_oddsOf_20 ?_
    refine lv_bipush (v := (29 : Int32)) hx hb dX7_oddsOf_23 (by decide) ?_
    refine lv_iload_n hx hb dX7_oddsOf_25 rfl (lv_at hl 1 rfl) ?_
    refine lv_iadd hx hb dX7_oddsOf_26 ?_
    obtain ⟨g5, h⟩ := gd_o h hn
    refine g_iald K hW kLM_1 g5 rfl dX7_oddsOf_27 ?_
    obtain a1 := so1 h
    exact g_nmi a1 (hfin _ _ _ _ hW dX7_oddsOf_28)
  · replace h := gi_t h c4
    refine lv_iload_n hx hb dX7_oddsOf_7 rfl (lv_at hl 1 rfl) ?_
    refine lv_if_ne (tgt := 15) hx hb dX7_oddsOf_8 (by decide) (fun c6 => ?_) (fun c6 => ?_)
    · replace h := gi_f h c6
      refine lv_iconst (v := (0 : Int32)) hx hb dX7_oddsOf_15 (by decide) ?_
      refine lv_goto (tgt := 28) hx hb dX7_oddsOf_16 (by decide) ?_
      obtain a1 := so1 h
      exact g_nmi a1 (hfin _ _ _ _ hW dX7_oddsOf_28)
    · replace h := gi_t h c6
      refine lv_iconst (v := (1 : Int32)) hx hb dX7_oddsOf_11 (by decide) ?_
      refine lv_goto (tgt := 28) hx hb dX7_oddsOf_12 (by decide) ?_
      obtain a1 := so1 h
      exact g_nmi a1 (hfin _ _ _ _ hW dX7_oddsOf_28)
noncomputable def fX7_whole   (I : gI) : Option (Int32) :=
  bd (fX7_allOdds I) (fun (u1 : Int32) => gi (u1 = 0)
 (some (1 : Int32))
 (bd (fX7_allOdds I) (fun (u5 : Int32) => some u5)))
set_option maxHeartbeats 4000000 in
set_option maxRecDepth 100000 in
theorem kX7_whole {l : Launch} {G : gG} {ad : Nat → Nat} (hok : gInj LM ad)     (I : gI) (J : gJ) (r : Int32) (h : fX7_whole I = some r) : gMi l yX7_whole cX7_whole 1 (some .int) 2 G LM ad [.ref (ad 0)] I J r True I J := by
  refine gMi_of (lst := [(0, .ref (ad 0))]) (by decide) hok (Nat.le_of_ble_eq_true rfl) rfl ?_
  intro p e s m args below meth c Q ls K hW hl hfin
  have hn : (some r : Option (Int32)) ≠ none := Option.some_ne_none _
  have hx := K.1; have hb := K.2.1; have hown := K.2.2.2.1; have hts := K.2.2.2.2.1
  unfold fX7_whole at h
  refine lv_aload_n hx hb dX7_whole_0 rfl (lv_at hl 0 rfl) ?_
  obtain ⟨u1, e2, h⟩ := bd_o h hn
  refine g_callVi (rest := []) K hW hl (kX7_allOdds (l := l) (G := G) (ad := ad) hok I J u1 e2) kLM_0 rfl (gG_V q_1490 q_1492 q_105 q_139 q_1493) nm_X7_allOdds ⟨Nat.le_of_ble_eq_true rfl, Nat.le_of_ble_eq_true rfl⟩ rfl rfl (Nat.le_of_ble_eq_true rfl) ⟨Nat.zero_le _, Nat.zero_le _⟩ dX7_whole_1 (fun z3 H locs hW => ?_)
  refine lv_if_ne (tgt := 11) hx hb dX7_whole_4 (by decide) (fun c4 => ?_) (fun c4 => ?_)
  · replace h := gi_f h c4
    refine lv_aload_n hx hb dX7_whole_11 rfl (lv_at hl 0 rfl) ?_
    obtain ⟨u5, e6, h⟩ := bd_o h hn
    refine g_callVi (rest := []) K hW hl (kX7_allOdds (l := l) (G := G) (ad := ad) hok I J u5 e6) kLM_0 rfl (gG_V q_1490 q_1492 q_105 q_139 q_1493) nm_X7_allOdds ⟨Nat.le_of_ble_eq_true rfl, Nat.le_of_ble_eq_true rfl⟩ rfl rfl (Nat.le_of_ble_eq_true rfl) ⟨Nat.zero_le _, Nat.zero_le _⟩ dX7_whole_12 (fun z7 H locs hW => ?_)
    obtain a1 := so1 h
    exact g_nmi a1 (hfin _ _ _ _ hW dX7_whole_15)
  · replace h := gi_t h c4
    refine lv_iconst (v := (1 : Int32)) hx hb dX7_whole_7 (by decide) ?_
    refine lv_goto (tgt := 15) hx hb dX7_whole_8 (by decide) ?_
    obtain a1 := so1 h
    exact g_nmi a1 (hfin _ _ _ _ hW dX7_whole_15)
theorem nm_X7_whole : gNm yX7_whole 0 := by decide +kernel
noncomputable def fX7_allRows_5b  (rec : Int32 → Int64 → Int32 → gI → Option ((Int64))) (u1 : Int32) (u2 : Int64) (u3 : Int32) (I : gI) : Option ((Int64)) :=
  gi (u1 ≤ u3)
 (some u2)
 (bd (fX7_whole I) (fun (u6 : Int32) => lz ((u2 * (u6).toInt64)) (fun (u9 : Int64) => lz ((u3 + (1 : Int32))) (fun (u11 : Int32) => rec u1 u9 u11 I))))
noncomputable def fX7_allRows_5  : Nat → Int32 → Int64 → Int32 → gI → Option ((Int64))
  | 0 => fun _ _ _ _ => none
  | n + 1 => fX7_allRows_5b  (fX7_allRows_5  n)
set_option maxHeartbeats 4000000 in
set_option maxRecDepth 100000 in
theorem tX7_allRows_5 {l : Launch} {G : gG} {ad : Nat → Nat} {p : Program} {e : Env} {s : State} {m : MethodId} {args : Array Value} {below : List Frame} {meth : Method} {c : Code} {Q : State → Prop} (hok : gInj LM ad) (K : gCx G (gA LM ad) p s m args c cX7_allRows 5 RX7)  : ∀ (n : Nat) (u1 : Int32) (u2 : Int64) (u3 : Int32) (I : gI) (J : gJ) (out : Option ((Int64))), fX7_allRows_5  n u1 u2 u3 I = out → out ≠ none → ∀ (H : Heap) (locs : List Loc), gWd G LM ad (gA LM ad) s.heap I J H locs → ∀ (ls : Array Slot), lv_has ls 5 [(0, .ref (ad 0)), (1, .int u1), (2, .long u2), (4, .int u3)] → (∀ (y4 : Int64), some y4 = out → ∀ (H : Heap) (locs : List Loc), gWd G LM ad (gA LM ad) s.heap I J H locs → ∀ (ls : Array Slot), lv_has ls 5 [(2, .long y4)] → W p l e (gRm 3) s m args below meth c H locs 0 0 Q (F0 m 25 ls [])) → W p l e (gRm 3) s m args below meth c H locs 0 0 Q (F0 m 5 ls []) := by
  have hx := K.1; have hb := K.2.1; have hown := K.2.2.2.1; have hts := K.2.2.2.2.1
  intro n
  induction n with
  | zero => intro u1 u2 u3 I J out h hn; exact absurd h.symm hn
  | succ n ih =>
    intro u1 u2 u3 I J out h hn H locs hW ls hl hx1
    replace h : fX7_allRows_5b  (fX7_allRows_5  n) u1 u2 u3 I = out := h
    unfold fX7_allRows_5b at h
    refine lv_iload hx hb dX7_allRows_5 (lv_at hl 3 rfl) ?_
    refine lv_iload_n hx hb dX7_allRows_7 rfl (lv_at hl 1 rfl) ?_
    refine lv_icmp_ge (tgt := 25) hx hb dX7_allRows_8 (by decide) (fun c5 => ?_) (fun c5 => ?_)
    · replace h := gi_t h c5
      exact hx1 u2 h _ _ hW _ (lv_sub hl [2] rfl)
    · replace h := gi_f h c5
      refine lv_lload_n hx hb dX7_allRows_11 rfl (lv_at hl 2 rfl) ?_
      refine lv_aload_n hx hb dX7_allRows_12 rfl (lv_at hl 0 rfl) ?_
      obtain ⟨u6, e7, h⟩ := bd_o h hn
      refine g_callVi (rest := [.long u2]) K hW hl (kX7_whole (l := l) (G := G) (ad := ad) hok I J u6 e7) kLM_0 rfl (gG_V q_1636 q_1638 q_115 q_139 q_1639) nm_X7_whole ⟨Nat.le_of_ble_eq_true rfl, Nat.le_of_ble_eq_true rfl⟩ rfl rfl (Nat.le_of_ble_eq_true rfl) ⟨Nat.zero_le _, Nat.zero_le _⟩ dX7_allRows_13 (fun z8 H locs hW => ?_)
      refine lv_i2l hx hb dX7_allRows_16 rfl ?_
      refine lv_lmul hx hb dX7_allRows_17 ?_
      obtain ⟨u9, e10, h⟩ := lz_o h
      refine g_nml e10 ?_
      refine lv_lstore_n (lv' := [(2, .long u9), (0, .ref (ad 0)), (1, .int u1), (4, .int u3)]) hx hb dX7_allRows_18 rfl hl (by decide) rfl (fun ls hl => ?_)
      obtain ⟨u11, e12, h⟩ := lz_o h
      refine lv_iinc (v := u11) (lv' := [(4, .int u11), (2, .long u9), (0, .ref (ad 0)), (1, .int u1)]) hx hb dX7_allRows_19 hl (k := 3) rfl (by rw [e12]; rfl) (by decide) rfl (fun ls hl => ?_)
      refine lv_goto (tgt := 5) hx hb dX7_allRows_22 (by decide) ?_
      exact ih u1 u9 u11 I J _ h hn _ _ hW _ (lv_sub hl [2, 3, 1, 0] rfl) hx1
noncomputable def fX7_allRows  (x1 : Int32) (I : gI) : Option (Int64) :=
  bd (fX7_allRows_5 FU x1 (1 : Int64) (0 : Int32) I) (fun (u15 : Int64) => some u15)
set_option maxHeartbeats 4000000 in
set_option maxRecDepth 100000 in
theorem kX7_allRows {l : Launch} {G : gG} {ad : Nat → Nat} (hok : gInj LM ad)    (x1 : Int32) (I : gI) (J : gJ) (r : Int64) (h : fX7_allRows x1 I = some r) : gMl l yX7_allRows cX7_allRows 5 (some .long) 3 G LM ad [.ref (ad 0), .int x1] I J r I J := by
  refine gMl_of (lst := [(0, .ref (ad 0)), (1, .int x1)]) (by decide) hok (Nat.le_of_ble_eq_true rfl) rfl ?_
  intro p e s m args below meth c Q ls K hW hl hfin
  have hn : (some r : Option (Int64)) ≠ none := Option.some_ne_none _
  have hx := K.1; have hb := K.2.1; have hown := K.2.2.2.1; have hts := K.2.2.2.2.1
  unfold fX7_allRows at h
  refine lv_lconst (v := (1 : Int64)) hx hb dX7_allRows_0 rfl ?_
  refine lv_lstore_n (lv' := [(2, .long (1 : Int64)), (0, .ref (ad 0)), (1, .int x1)]) hx hb dX7_allRows_1 rfl hl (by decide) rfl (fun ls hl => ?_)
  refine lv_iconst (v := (0 : Int32)) hx hb dX7_allRows_2 (by decide) ?_
  refine lv_istore (lv' := [(4, .int (0 : Int32)), (2, .long (1 : Int64)), (0, .ref (ad 0)), (1, .int x1)]) hx hb dX7_allRows_3 hl (by decide) rfl (fun ls hl => ?_)
  obtain ⟨r13, e14, h⟩ := bd_o h hn
  refine tX7_allRows_5 hok K FU x1 (1 : Int64) (0 : Int32) I J (some r13) e14 (Option.some_ne_none _) _ _ hW _ (lv_sub hl [2, 3, 1, 0] rfl) ?_
  · intro u15 q16 H locs hW ls hl
    replace q16 := Option.some.inj q16
    subst q16
    refine lv_lload_n hx hb dX7_allRows_25 rfl (lv_at hl 0 rfl) ?_
    obtain a1 := so1 h
    exact g_nml a1 (hfin _ _ _ _ hW dX7_allRows_26)
