-- 12.m01: the reference: copy isIn held has bits isBuyer isSort isSlice areSlices doesWant longOf slicesOf freeNow ownNow hasNow allOdds sort buyer four feed end byteAt isLetterByte isFigure isSign
noncomputable def fX7_copy_2b (s0 : Nat) (s1 : Nat) (rec : Int32 → gI → Option ((gI))) (u1 : Int32) (I : gI) : Option ((gI)) :=
  gi ((1592 : Int32) ≤ u1)
 (some I)
 (gd (vp_in u1 1592) (lz (wI I s1 (u1).toNatClampNeg (I s0 (u1).toNatClampNeg)) (fun (I6 : gI) => lz ((u1 + (1 : Int32))) (fun (u7 : Int32) => rec u7 I6))))
noncomputable def fX7_copy_2 (s0 : Nat) (s1 : Nat) : Nat → Int32 → gI → Option ((gI))
  | 0 => fun _ _ => none
  | n + 1 => fX7_copy_2b s0 s1 (fX7_copy_2 s0 s1 n)
set_option maxHeartbeats 4000000 in
set_option maxRecDepth 100000 in
theorem tX7_copy_2 {l : Launch} {G : gG} {ad : Nat → Nat} {p : Program} {e : Env} {s : State} {m : MethodId} {args : Array Value} {below : List Frame} {meth : Method} {c : Code} {Q : State → Prop} (hok : gInj LM ad) (K : gCx G (gA LM ad) p s m args c cX7_copy 3 RX7) (s0 : Nat) (hs0 : gAt LM s0 1 1592) (s1 : Nat) (hs1 : gAt LM s1 1 1592) : ∀ (n : Nat) (u1 : Int32) (I : gI) (J : gJ) (out : Option ((gI))), fX7_copy_2 s0 s1 n u1 I = out → out ≠ none → ∀ (H : Heap) (locs : List Loc), gWd G LM ad (gA LM ad) s.heap I J H locs → ∀ (ls : Array Slot), lv_has ls 3 [(0, .ref (ad s0)), (1, .ref (ad s1)), (2, .int u1)] → (∀ (I2 : gI), some I2 = out → ∀ (H : Heap) (locs : List Loc), gWd G LM ad (gA LM ad) s.heap I2 J H locs → ∀ (ls : Array Slot), lv_has ls 3 [] → W p l e (gRm 1) s m args below meth c H locs 0 0 Q (F0 m 21 ls [])) → W p l e (gRm 1) s m args below meth c H locs 0 0 Q (F0 m 2 ls []) := by
  have hx := K.1; have hb := K.2.1; have hown := K.2.2.2.1; have hts := K.2.2.2.2.1
  intro n
  induction n with
  | zero => intro u1 I J out h hn; exact absurd h.symm hn
  | succ n ih =>
    intro u1 I J out h hn H locs hW ls hl hx1
    replace h : fX7_copy_2b s0 s1 (fX7_copy_2 s0 s1 n) u1 I = out := h
    unfold fX7_copy_2b at h
    refine lv_iload_n hx hb dX7_copy_2 rfl (lv_at hl 2 rfl) ?_
    refine lv_sipush (v := (1592 : Int32)) hx hb dX7_copy_3 (by decide) ?_
    refine lv_icmp_ge (tgt := 21) hx hb dX7_copy_6 (by decide) (fun c3 => ?_) (fun c3 => ?_)
    · replace h := gi_t h c3
      exact hx1 I h _ _ hW _ (lv_sub hl [] rfl)
    · replace h := gi_f h c3
      refine lv_aload_n hx hb dX7_copy_9 rfl (lv_at hl 1 rfl) ?_
      refine lv_iload_n hx hb dX7_copy_10 rfl (lv_at hl 2 rfl) ?_
      refine lv_aload_n hx hb dX7_copy_11 rfl (lv_at hl 0 rfl) ?_
      refine lv_iload_n hx hb dX7_copy_12 rfl (lv_at hl 2 rfl) ?_
      obtain ⟨g4, h⟩ := gd_o h hn
      refine g_iald K hW hs0 g4 rfl dX7_copy_13 ?_
      refine g_iast K hW hs1 g4 rfl dX7_copy_14 (fun H locs hW => ?_)
      obtain ⟨I6, e5, h⟩ := lz_o h
      replace hW := gWd_nI e5 hW
      obtain ⟨u7, e8, h⟩ := lz_o h
      refine lv_iinc (v := u7) (lv' := [(2, .int u7), (0, .ref (ad s0)), (1, .ref (ad s1))]) hx hb dX7_copy_15 hl (k := 2) rfl (by rw [e8]; rfl) (by decide) rfl (fun ls hl => ?_)
      refine lv_goto (tgt := 2) hx hb dX7_copy_18 (by decide) ?_
      exact ih u7 I6 J _ h hn _ _ hW _ (lv_sub hl [1, 2, 0] rfl) hx1
noncomputable def fX7_copy (s0 : Nat) (s1 : Nat)  (I : gI) : Option (gI) :=
  bd (fX7_copy_2 s0 s1 FU (0 : Int32) I) (fun (I11 : gI) => some I11)
set_option maxHeartbeats 4000000 in
set_option maxRecDepth 100000 in
theorem kX7_copy {l : Launch} {G : gG} {ad : Nat → Nat} (hok : gInj LM ad)  (s0 : Nat) (s1 : Nat) (hs0 : gAt LM s0 1 1592) (hs1 : gAt LM s1 1 1592)  (I : gI) (J : gJ) (I' : gI) (h : fX7_copy s0 s1 I = some I') : gMv l yX7_copy cX7_copy 3 none 1 G LM ad [.ref (ad s0), .ref (ad s1)] I J I' J := by
  refine gMv_of (lst := [(0, .ref (ad s0)), (1, .ref (ad s1))]) (by decide) hok (Nat.le_of_ble_eq_true rfl) rfl ?_
  intro p e s m args below meth c Q ls K hW hl hfin
  have hn : (some I' : Option (gI)) ≠ none := Option.some_ne_none _
  have hx := K.1; have hb := K.2.1; have hown := K.2.2.2.1; have hts := K.2.2.2.2.1
  unfold fX7_copy at h
  refine lv_iconst (v := (0 : Int32)) hx hb dX7_copy_0 (by decide) ?_
  refine lv_istore_n (lv' := [(2, .int (0 : Int32)), (0, .ref (ad s0)), (1, .ref (ad s1))]) hx hb dX7_copy_1 rfl hl (by decide) rfl (fun ls hl => ?_)
  obtain ⟨r9, e10, h⟩ := bd_o h hn
  refine tX7_copy_2 hok K s0 hs0 s1 hs1 FU (0 : Int32) I J (some r9) e10 (Option.some_ne_none _) _ _ hW _ (lv_sub hl [1, 2, 0] rfl) ?_
  · intro I11 q12 H locs hW ls hl
    replace q12 := Option.some.inj q12
    subst q12
    obtain a1 := so1 h
    replace hW := gWd_nI a1 hW
    exact hfin _ _ _ _ hW dX7_copy_21
noncomputable def fX7_isIn  (x0 : Int32) (x1 : Int32) (x2 : Int32)  : Int32 :=
  gi (x0 < x1)
 ((0 : Int32))
 (gi (x2 < x0)
 ((0 : Int32))
 ((1 : Int32)))
set_option maxHeartbeats 4000000 in
set_option maxRecDepth 100000 in
theorem kX7_isIn {l : Launch} {G : gG} {ad : Nat → Nat} (hok : gInj LM ad)    (x0 : Int32) (x1 : Int32) (x2 : Int32) (I : gI) (J : gJ) (r : Int32) (h : fX7_isIn x0 x1 x2 = r) : gMi l yX7_isIn cX7_isIn 3 (some .boolean) 1 G LM ad [.int x0, .int x1, .int x2] I J r (r = 0 ∨ r = 1) I J := by
  refine gMz_of (lst := [(0, .int x0), (1, .int x1), (2, .int x2)]) (by decide) hok (Nat.le_of_ble_eq_true rfl) rfl ?_
  intro p e s m args below meth c Q ls K hW hl hfin
  have hx := K.1; have hb := K.2.1; have hown := K.2.2.2.1; have hts := K.2.2.2.2.1
  unfold fX7_isIn at h
  refine lv_iload_n hx hb dX7_isIn_0 rfl (lv_at hl 0 rfl) ?_
  refine lv_iload_n hx hb dX7_isIn_1 rfl (lv_at hl 1 rfl) ?_
  refine lv_icmp_lt (tgt := 14) hx hb dX7_isIn_2 (by decide) (fun c1 => ?_) (fun c1 => ?_)
  · replace h := gi_t h c1
    refine lv_iconst (v := (0 : Int32)) hx hb dX7_isIn_14 (by decide) ?_
    obtain a1 := h.symm
    exact g_nmi a1 (hfin _ _ _ _ (a1 ▸ (Or.inl rfl)) hW dX7_isIn_15)
  · replace h := gi_f h c1
    refine lv_iload_n hx hb dX7_isIn_5 rfl (lv_at hl 0 rfl) ?_
    refine lv_iload_n hx hb dX7_isIn_6 rfl (lv_at hl 2 rfl) ?_
    refine lv_icmp_gt (tgt := 14) hx hb dX7_isIn_7 (by decide) (fun c2 => ?_) (fun c2 => ?_)
    · replace h := gi_t h c2
      refine lv_iconst (v := (0 : Int32)) hx hb dX7_isIn_14 (by decide) ?_
      obtain a1 := h.symm
      exact g_nmi a1 (hfin _ _ _ _ (a1 ▸ (Or.inl rfl)) hW dX7_isIn_15)
    · replace h := gi_f h c2
      refine lv_iconst (v := (1 : Int32)) hx hb dX7_isIn_10 (by decide) ?_
      refine lv_goto (tgt := 15) hx hb dX7_isIn_11 (by decide) ?_
      obtain a1 := h.symm
      exact g_nmi a1 (hfin _ _ _ _ (a1 ▸ (Or.inr rfl)) hW dX7_isIn_15)
noncomputable def fX7_held  (x0 : Int64) (x2 : Int32) (x3 : Int32)  : Int32 :=
  gi (0 ≤ (lg_cmp x0 (x2).toInt64))
 (gi ((lg_cmp x0 (x3).toInt64) ≤ 0)
 ((x0).toInt32)
 (x3))
 (x2)
set_option maxHeartbeats 4000000 in
set_option maxRecDepth 100000 in
theorem kX7_held {l : Launch} {G : gG} {ad : Nat → Nat} (hok : gInj LM ad)    (x0 : Int64) (x2 : Int32) (x3 : Int32) (I : gI) (J : gJ) (r : Int32) (h : fX7_held x0 x2 x3 = r) : gMi l yX7_held cX7_held 4 (some .int) 1 G LM ad [.long x0, .int x2, .int x3] I J r True I J := by
  refine gMi_of (lst := [(0, .long x0), (2, .int x2), (3, .int x3)]) (by decide) hok (Nat.le_of_ble_eq_true rfl) rfl ?_
  intro p e s m args below meth c Q ls K hW hl hfin
  have hx := K.1; have hb := K.2.1; have hown := K.2.2.2.1; have hts := K.2.2.2.2.1
  unfold fX7_held at h
  refine lv_lload_n hx hb dX7_held_0 rfl (lv_at hl 0 rfl) ?_
  refine lv_iload_n hx hb dX7_held_1 rfl (lv_at hl 1 rfl) ?_
  refine lv_i2l hx hb dX7_held_2 rfl ?_
  refine W.lcmp hx hb dX7_held_3 ?_
  refine lv_if_ge (tgt := 11) hx hb dX7_held_4 (by decide) (fun c1 => ?_) (fun c1 => ?_)
  · replace h := gi_t h c1
    refine lv_lload_n hx hb dX7_held_11 rfl (lv_at hl 0 rfl) ?_
    refine lv_iload_n hx hb dX7_held_12 rfl (lv_at hl 2 rfl) ?_
    refine lv_i2l hx hb dX7_held_13 rfl ?_
    refine W.lcmp hx hb dX7_held_14 ?_
    refine lv_if_le (tgt := 22) hx hb dX7_held_15 (by decide) (fun c2 => ?_) (fun c2 => ?_)
    · replace h := gi_t h c2
      refine lv_lload_n hx hb dX7_held_22 rfl (lv_at hl 0 rfl) ?_
      refine lv_l2i hx hb dX7_held_23 rfl ?_
      obtain a1 := h.symm
      exact g_nmi a1 (hfin _ _ _ _ hW dX7_held_24)
    · replace h := gi_f h c2
      refine lv_iload_n hx hb dX7_held_18 rfl (lv_at hl 2 rfl) ?_
      refine lv_goto (tgt := 24) hx hb dX7_held_19 (by decide) ?_
      obtain a1 := h.symm
      exact g_nmi a1 (hfin _ _ _ _ hW dX7_held_24)
  · replace h := gi_f h c1
    refine lv_iload_n hx hb dX7_held_7 rfl (lv_at hl 1 rfl) ?_
    refine lv_goto (tgt := 24) hx hb dX7_held_8 (by decide) ?_
    obtain a1 := h.symm
    exact g_nmi a1 (hfin _ _ _ _ hW dX7_held_24)
noncomputable def fX7_has  (x0 : Int32) (x1 : Int32)  : Int32 :=
  gi (((jshr x0 x1) &&& (1 : Int32)) = (1 : Int32))
 ((1 : Int32))
 ((0 : Int32))
set_option maxHeartbeats 4000000 in
set_option maxRecDepth 100000 in
theorem kX7_has {l : Launch} {G : gG} {ad : Nat → Nat} (hok : gInj LM ad)    (x0 : Int32) (x1 : Int32) (I : gI) (J : gJ) (r : Int32) (h : fX7_has x0 x1 = r) : gMi l yX7_has cX7_has 2 (some .boolean) 1 G LM ad [.int x0, .int x1] I J r (r = 0 ∨ r = 1) I J := by
  refine gMz_of (lst := [(0, .int x0), (1, .int x1)]) (by decide) hok (Nat.le_of_ble_eq_true rfl) rfl ?_
  intro p e s m args below meth c Q ls K hW hl hfin
  have hx := K.1; have hb := K.2.1; have hown := K.2.2.2.1; have hts := K.2.2.2.2.1
  unfold fX7_has at h
  refine lv_iload_n hx hb dX7_has_0 rfl (lv_at hl 0 rfl) ?_
  refine lv_iload_n hx hb dX7_has_1 rfl (lv_at hl 1 rfl) ?_
  refine g_ishr hx hb dX7_has_2 ?_
  refine lv_iconst (v := (1 : Int32)) hx hb dX7_has_3 (by decide) ?_
  refine lv_iand hx hb dX7_has_4 ?_
  refine lv_iconst (v := (1 : Int32)) hx hb dX7_has_5 (by decide) ?_
  refine lv_icmp_ne (tgt := 13) hx hb dX7_has_6 (by decide) (fun c1 => ?_) (fun c1 => ?_)
  · replace h := gi_f h c1
    refine lv_iconst (v := (0 : Int32)) hx hb dX7_has_13 (by decide) ?_
    obtain a1 := h.symm
    exact g_nmi a1 (hfin _ _ _ _ (a1 ▸ (Or.inl rfl)) hW dX7_has_14)
  · replace h := gi_t h c1
    refine lv_iconst (v := (1 : Int32)) hx hb dX7_has_9 (by decide) ?_
    refine lv_goto (tgt := 14) hx hb dX7_has_10 (by decide) ?_
    obtain a1 := h.symm
    exact g_nmi a1 (hfin _ _ _ _ (a1 ▸ (Or.inr rfl)) hW dX7_has_14)
noncomputable def fX7_bits_4b  (rec : Int32 → Int32 → Option ((Int32))) (u1 : Int32) (u2 : Int32) : Option ((Int32)) :=
  gi (u2 = 0)
 (some u1)
 (lz ((u1 + (1 : Int32))) (fun (u5 : Int32) => lz ((u2 &&& (u2 - (1 : Int32)))) (fun (u7 : Int32) => rec u5 u7)))
noncomputable def fX7_bits_4  : Nat → Int32 → Int32 → Option ((Int32))
  | 0 => fun _ _ => none
  | n + 1 => fX7_bits_4b  (fX7_bits_4  n)
set_option maxHeartbeats 4000000 in
set_option maxRecDepth 100000 in
theorem tX7_bits_4 {l : Launch} {G : gG} {ad : Nat → Nat} {p : Program} {e : Env} {s : State} {m : MethodId} {args : Array Value} {below : List Frame} {meth : Method} {c : Code} {Q : State → Prop} (hok : gInj LM ad) (K : gCx G (gA LM ad) p s m args c cX7_bits 3 RX7)  : ∀ (n : Nat) (u1 : Int32) (u2 : Int32) (I : gI) (J : gJ) (out : Option ((Int32))), fX7_bits_4  n u1 u2 = out → out ≠ none → ∀ (H : Heap) (locs : List Loc), gWd G LM ad (gA LM ad) s.heap I J H locs → ∀ (ls : Array Slot), lv_has ls 3 [(1, .int u1), (2, .int u2)] → (∀ (y3 : Int32), some y3 = out → ∀ (H : Heap) (locs : List Loc), gWd G LM ad (gA LM ad) s.heap I J H locs → ∀ (ls : Array Slot), lv_has ls 3 [(1, .int y3)] → W p l e (gRm 1) s m args below meth c H locs 0 0 Q (F0 m 20 ls [])) → W p l e (gRm 1) s m args below meth c H locs 0 0 Q (F0 m 4 ls []) := by
  have hx := K.1; have hb := K.2.1; have hown := K.2.2.2.1; have hts := K.2.2.2.2.1
  intro n
  induction n with
  | zero => intro u1 u2 I J out h hn; exact absurd h.symm hn
  | succ n ih =>
    intro u1 u2 I J out h hn H locs hW ls hl hx1
    replace h : fX7_bits_4b  (fX7_bits_4  n) u1 u2 = out := h
    unfold fX7_bits_4b at h
    refine lv_iload_n hx hb dX7_bits_4 rfl (lv_at hl 1 rfl) ?_
    refine lv_if_eq (tgt := 20) hx hb dX7_bits_5 (by decide) (fun c4 => ?_) (fun c4 => ?_)
    · replace h := gi_t h c4
      exact hx1 u1 h _ _ hW _ (lv_sub hl [0] rfl)
    · replace h := gi_f h c4
      obtain ⟨u5, e6, h⟩ := lz_o h
      refine lv_iinc (v := u5) (lv' := [(1, .int u5), (2, .int u2)]) hx hb dX7_bits_8 hl (k := 0) rfl (by rw [e6]; rfl) (by decide) rfl (fun ls hl => ?_)
      refine lv_iload_n hx hb dX7_bits_11 rfl (lv_at hl 1 rfl) ?_
      refine lv_iload_n hx hb dX7_bits_12 rfl (lv_at hl 1 rfl) ?_
      refine lv_iconst (v := (1 : Int32)) hx hb dX7_bits_13 (by decide) ?_
      refine lv_isub hx hb dX7_bits_14 ?_
      refine lv_iand hx hb dX7_bits_15 ?_
      obtain ⟨u7, e8, h⟩ := lz_o h
      refine g_nmi e8 ?_
      refine lv_istore_n (lv' := [(2, .int u7), (1, .int u5)]) hx hb dX7_bits_16 rfl hl (by decide) rfl (fun ls hl => ?_)
      refine lv_goto (tgt := 4) hx hb dX7_bits_17 (by decide) ?_
      exact ih u5 u7 I J _ h hn _ _ hW _ (lv_sub hl [1, 0] rfl) hx1
noncomputable def fX7_bits  (x0 : Int32)  : Option (Int32) :=
  bd (fX7_bits_4 FU (0 : Int32) x0) (fun (u11 : Int32) => some u11)
set_option maxHeartbeats 4000000 in
set_option maxRecDepth 100000 in
theorem kX7_bits {l : Launch} {G : gG} {ad : Nat → Nat} (hok : gInj LM ad)    (x0 : Int32) (I : gI) (J : gJ) (r : Int32) (h : fX7_bits x0 = some r) : gMi l yX7_bits cX7_bits 3 (some .int) 1 G LM ad [.int x0] I J r True I J := by
  refine gMi_of (lst := [(0, .int x0)]) (by decide) hok (Nat.le_of_ble_eq_true rfl) rfl ?_
  intro p e s m args below meth c Q ls K hW hl hfin
  have hn : (some r : Option (Int32)) ≠ none := Option.some_ne_none _
  have hx := K.1; have hb := K.2.1; have hown := K.2.2.2.1; have hts := K.2.2.2.2.1
  unfold fX7_bits at h
  refine lv_iconst (v := (0 : Int32)) hx hb dX7_bits_0 (by decide) ?_
  refine lv_istore_n (lv' := [(1, .int (0 : Int32)), (0, .int x0)]) hx hb dX7_bits_1 rfl hl (by decide) rfl (fun ls hl => ?_)
  refine lv_iload_n hx hb dX7_bits_2 rfl (lv_at hl 1 rfl) ?_
  refine lv_istore_n (lv' := [(2, .int x0), (1, .int (0 : Int32)), (0, .int x0)]) hx hb dX7_bits_3 rfl hl (by decide) rfl (fun ls hl => ?_)
  obtain ⟨r9, e10, h⟩ := bd_o h hn
  refine tX7_bits_4 hok K FU (0 : Int32) x0 I J (some r9) e10 (Option.some_ne_none _) _ _ hW _ (lv_sub hl [1, 0] rfl) ?_
  · intro u11 q12 H locs hW ls hl
    replace q12 := Option.some.inj q12
    subst q12
    refine lv_iload_n hx hb dX7_bits_20 rfl (lv_at hl 0 rfl) ?_
    obtain a1 := so1 h
    exact g_nmi a1 (hfin _ _ _ _ hW dX7_bits_21)
theorem kLM_0 : gAt LM 0 0 6 := ⟨by decide, by decide +kernel⟩
theorem kLM_1 : gAt LM 1 1 1592 := ⟨by decide, by decide +kernel⟩
theorem rLM_0_0 : LM.2.2 0 0 = some 1 := by decide +kernel
theorem in_0_1592 : vp_in (0 : Int32) 1592 := in_c (by decide +kernel) (by decide +kernel)
theorem tn_0 : (0 : Int32).toNatClampNeg = 0 := by decide +kernel
theorem nm_X7_isIn : gNm yX7_isIn 3 := by decide +kernel
noncomputable def fX7_isBuyer  (x1 : Int32) (I : gI) : Int32 :=
  (fX7_isIn x1 (0 : Int32) ((I 1 0) - (1 : Int32)))
set_option maxHeartbeats 4000000 in
set_option maxRecDepth 100000 in
theorem kX7_isBuyer {l : Launch} {G : gG} {ad : Nat → Nat} (hok : gInj LM ad)    (x1 : Int32) (I : gI) (J : gJ) (r : Int32) (h : fX7_isBuyer x1 I = r) : gMi l yX7_isBuyer cX7_isBuyer 2 (some .boolean) 2 G LM ad [.ref (ad 0), .int x1] I J r (r = 0 ∨ r = 1) I J := by
  refine gMz_of (lst := [(0, .ref (ad 0)), (1, .int x1)]) (by decide) hok (Nat.le_of_ble_eq_true rfl) rfl ?_
  intro p e s m args below meth c Q ls K hW hl hfin
  have hx := K.1; have hb := K.2.1; have hown := K.2.2.2.1; have hts := K.2.2.2.2.1
  unfold fX7_isBuyer at h
  refine lv_iload_n hx hb dX7_isBuyer_0 rfl (lv_at hl 1 rfl) ?_
  refine lv_iconst (v := (0 : Int32)) hx hb dX7_isBuyer_1 (by decide) ?_
  refine lv_aload_n hx hb dX7_isBuyer_2 rfl (lv_at hl 0 rfl) ?_
  refine g_get K hW (t := 2) (ci := 6) (k := 0) (v := .ref (ad 1)) kLM_0 rfl rfl i_X7 (by decide) q_1077 rfl (gfv2 rLM_0_0) dX7_isBuyer_3 ?_
  refine lv_iconst (v := (0 : Int32)) hx hb dX7_isBuyer_6 (by decide) ?_
  refine g_iald K hW kLM_1 in_0_1592 tn_0 dX7_isBuyer_7 ?_
  refine lv_iconst (v := (1 : Int32)) hx hb dX7_isBuyer_8 (by decide) ?_
  refine lv_isub hx hb dX7_isBuyer_9 ?_
  refine g_callSi (rest := []) K hW hl (kX7_isIn (l := l) (G := G) (ad := ad) hok x1 (0 : Int32) ((I 1 0) - (1 : Int32)) I J (fX7_isIn x1 (0 : Int32) ((I 1 0) - (1 : Int32))) rfl) q_1171 q_1172 q_139 q_1173 nm_X7_isIn ⟨Nat.le_of_ble_eq_true rfl, Nat.le_of_ble_eq_true rfl⟩ rfl rfl (Nat.le_of_ble_eq_true rfl) ⟨Nat.zero_le _, Nat.zero_le _⟩ dX7_isBuyer_10 (fun z1 H locs hW => ?_)
  obtain a1 := h.symm
  exact g_nmi a1 (hfin _ _ _ _ (a1 ▸ z1) hW dX7_isBuyer_13)
noncomputable def fX7_isSort  (x0 : Int32)  : Int32 :=
  (fX7_isIn x0 (0 : Int32) (4 : Int32))
set_option maxHeartbeats 4000000 in
set_option maxRecDepth 100000 in
theorem kX7_isSort {l : Launch} {G : gG} {ad : Nat → Nat} (hok : gInj LM ad)    (x0 : Int32) (I : gI) (J : gJ) (r : Int32) (h : fX7_isSort x0 = r) : gMi l yX7_isSort cX7_isSort 1 (some .boolean) 2 G LM ad [.int x0] I J r (r = 0 ∨ r = 1) I J := by
  refine gMz_of (lst := [(0, .int x0)]) (by decide) hok (Nat.le_of_ble_eq_true rfl) rfl ?_
  intro p e s m args below meth c Q ls K hW hl hfin
  have hx := K.1; have hb := K.2.1; have hown := K.2.2.2.1; have hts := K.2.2.2.2.1
  unfold fX7_isSort at h
  refine lv_iload_n hx hb dX7_isSort_0 rfl (lv_at hl 0 rfl) ?_
  refine lv_iconst (v := (0 : Int32)) hx hb dX7_isSort_1 (by decide) ?_
  refine lv_iconst (v := (4 : Int32)) hx hb dX7_isSort_2 (by decide) ?_
  refine g_callSi (rest := []) K hW hl (kX7_isIn (l := l) (G := G) (ad := ad) hok x0 (0 : Int32) (4 : Int32) I J (fX7_isIn x0 (0 : Int32) (4 : Int32)) rfl) q_1171 q_1172 q_139 q_1173 nm_X7_isIn ⟨Nat.le_of_ble_eq_true rfl, Nat.le_of_ble_eq_true rfl⟩ rfl rfl (Nat.le_of_ble_eq_true rfl) ⟨Nat.zero_le _, Nat.zero_le _⟩ dX7_isSort_3 (fun z1 H locs hW => ?_)
  obtain a1 := h.symm
  exact g_nmi a1 (hfin _ _ _ _ (a1 ▸ z1) hW dX7_isSort_6)
noncomputable def fX7_isSlice  (x0 : Int32)  : Int32 :=
  (fX7_isIn x0 (0 : Int32) (11 : Int32))
set_option maxHeartbeats 4000000 in
set_option maxRecDepth 100000 in
theorem kX7_isSlice {l : Launch} {G : gG} {ad : Nat → Nat} (hok : gInj LM ad)    (x0 : Int32) (I : gI) (J : gJ) (r : Int32) (h : fX7_isSlice x0 = r) : gMi l yX7_isSlice cX7_isSlice 1 (some .boolean) 2 G LM ad [.int x0] I J r (r = 0 ∨ r = 1) I J := by
  refine gMz_of (lst := [(0, .int x0)]) (by decide) hok (Nat.le_of_ble_eq_true rfl) rfl ?_
  intro p e s m args below meth c Q ls K hW hl hfin
  have hx := K.1; have hb := K.2.1; have hown := K.2.2.2.1; have hts := K.2.2.2.2.1
  unfold fX7_isSlice at h
  refine lv_iload_n hx hb dX7_isSlice_0 rfl (lv_at hl 0 rfl) ?_
  refine lv_iconst (v := (0 : Int32)) hx hb dX7_isSlice_1 (by decide) ?_
  refine lv_bipush (v := (11 : Int32)) hx hb dX7_isSlice_2 (by decide) ?_
  refine g_callSi (rest := []) K hW hl (kX7_isIn (l := l) (G := G) (ad := ad) hok x0 (0 : Int32) (11 : Int32) I J (fX7_isIn x0 (0 : Int32) (11 : Int32)) rfl) q_1171 q_1172 q_139 q_1173 nm_X7_isIn ⟨Nat.le_of_ble_eq_true rfl, Nat.le_of_ble_eq_true rfl⟩ rfl rfl (Nat.le_of_ble_eq_true rfl) ⟨Nat.zero_le _, Nat.zero_le _⟩ dX7_isSlice_4 (fun z1 H locs hW => ?_)
  obtain a1 := h.symm
  exact g_nmi a1 (hfin _ _ _ _ (a1 ▸ z1) hW dX7_isSlice_7)
noncomputable def fX7_areSlices  (x0 : Int32) (x1 : Int32)  : Int32 :=
  gi ((fX7_isIn x1 (0 : Int32) (11 : Int32)) = 0)
 ((0 : Int32))
 (gi ((fX7_isIn x0 (0 : Int32) x1) = 0)
 ((0 : Int32))
 ((1 : Int32)))
set_option maxHeartbeats 4000000 in
set_option maxRecDepth 100000 in
theorem kX7_areSlices {l : Launch} {G : gG} {ad : Nat → Nat} (hok : gInj LM ad)    (x0 : Int32) (x1 : Int32) (I : gI) (J : gJ) (r : Int32) (h : fX7_areSlices x0 x1 = r) : gMi l yX7_areSlices cX7_areSlices 2 (some .boolean) 2 G LM ad [.int x0, .int x1] I J r (r = 0 ∨ r = 1) I J := by
  refine gMz_of (lst := [(0, .int x0), (1, .int x1)]) (by decide) hok (Nat.le_of_ble_eq_true rfl) rfl ?_
  intro p e s m args below meth c Q ls K hW hl hfin
  have hx := K.1; have hb := K.2.1; have hown := K.2.2.2.1; have hts := K.2.2.2.2.1
  unfold fX7_areSlices at h
  refine lv_iload_n hx hb dX7_areSlices_0 rfl (lv_at hl 1 rfl) ?_
  refine lv_iconst (v := (0 : Int32)) hx hb dX7_areSlices_1 (by decide) ?_
  refine lv_bipush (v := (11 : Int32)) hx hb dX7_areSlices_2 (by decide) ?_
  refine g_callSi (rest := []) K hW hl (kX7_isIn (l := l) (G := G) (ad := ad) hok x1 (0 : Int32) (11 : Int32) I J (fX7_isIn x1 (0 : Int32) (11 : Int32)) rfl) q_1171 q_1172 q_139 q_1173 nm_X7_isIn ⟨Nat.le_of_ble_eq_true rfl, Nat.le_of_ble_eq_true rfl⟩ rfl rfl (Nat.le_of_ble_eq_true rfl) ⟨Nat.zero_le _, Nat.zero_le _⟩ dX7_areSlices_4 (fun z1 H locs hW => ?_)
  refine lv_if_eq (tgt := 23) hx hb dX7_areSlices_7 (by decide) (fun c2 => ?_) (fun c2 => ?_)
  · replace h := gi_t h c2
    refine lv_iconst (v := (0 : Int32)) hx hb dX7_areSlices_23 (by decide) ?_
    obtain a1 := h.symm
    exact g_nmi a1 (hfin _ _ _ _ (a1 ▸ (Or.inl rfl)) hW dX7_areSlices_24)
  · replace h := gi_f h c2
    refine lv_iload_n hx hb dX7_areSlices_10 rfl (lv_at hl 0 rfl) ?_
    refine lv_iconst (v := (0 : Int32)) hx hb dX7_areSlices_11 (by decide) ?_
    refine lv_iload_n hx hb dX7_areSlices_12 rfl (lv_at hl 1 rfl) ?_
    refine g_callSi (rest := []) K hW hl (kX7_isIn (l := l) (G := G) (ad := ad) hok x0 (0 : Int32) x1 I J (fX7_isIn x0 (0 : Int32) x1) rfl) q_1171 q_1172 q_139 q_1173 nm_X7_isIn ⟨Nat.le_of_ble_eq_true rfl, Nat.le_of_ble_eq_true rfl⟩ rfl rfl (Nat.le_of_ble_eq_true rfl) ⟨Nat.zero_le _, Nat.zero_le _⟩ dX7_areSlices_13 (fun z3 H locs hW => ?_)
    refine lv_if_eq (tgt := 23) hx hb dX7_areSlices_16 (by decide) (fun c4 => ?_) (fun c4 => ?_)
    · replace h := gi_t h c4
      refine lv_iconst (v := (0 : Int32)) hx hb dX7_areSlices_23 (by decide) ?_
      obtain a1 := h.symm
      exact g_nmi a1 (hfin _ _ _ _ (a1 ▸ (Or.inl rfl)) hW dX7_areSlices_24)
    · replace h := gi_f h c4
      refine lv_iconst (v := (1 : Int32)) hx hb dX7_areSlices_19 (by decide) ?_
      refine lv_goto (tgt := 24) hx hb dX7_areSlices_20 (by decide) ?_
      obtain a1 := h.symm
      exact g_nmi a1 (hfin _ _ _ _ (a1 ▸ (Or.inr rfl)) hW dX7_areSlices_24)
theorem nm_X7_has : gNm yX7_has 2 := by decide +kernel
noncomputable def fX7_doesWant  (x1 : Int32) (x2 : Int32) (I : gI) : Option (Int32) :=
  gd (vp_in ((39 : Int32) + x1) 1592) (some (fX7_has (I 1 (((39 : Int32) + x1)).toNatClampNeg) x2))
set_option maxHeartbeats 4000000 in
set_option maxRecDepth 100000 in
theorem kX7_doesWant {l : Launch} {G : gG} {ad : Nat → Nat} (hok : gInj LM ad)    (x1 : Int32) (x2 : Int32) (I : gI) (J : gJ) (r : Int32) (h : fX7_doesWant x1 x2 I = some r) : gMi l yX7_doesWant cX7_doesWant 3 (some .boolean) 2 G LM ad [.ref (ad 0), .int x1, .int x2] I J r (r = 0 ∨ r = 1) I J := by
  refine gMz_of (lst := [(0, .ref (ad 0)), (1, .int x1), (2, .int x2)]) (by decide) hok (Nat.le_of_ble_eq_true rfl) rfl ?_
  intro p e s m args below meth c Q ls K hW hl hfin
  have hn : (some r : Option (Int32)) ≠ none := Option.some_ne_none _
  have hx := K.1; have hb := K.2.1; have hown := K.2.2.2.1; have hts := K.2.2.2.2.1
  unfold fX7_doesWant at h
  refine lv_aload_n hx hb dX7_doesWant_0 rfl (lv_at hl 0 rfl) ?_
  refine g_get K hW (t := 2) (ci := 6) (k := 0) (v := .ref (ad 1)) kLM_0 rfl rfl i_X7 (by decide) q_1077 rfl (gfv2 rLM_0_0) dX7_doesWant_1 ?_
  refine lv_bipush (v := (39 : Int32)) hx hb dX7_doesWant_4 (by decide) ?_
  refine lv_iload_n hx hb dX7_doesWant_6 rfl (lv_at hl 1 rfl) ?_
  refine lv_iadd hx hb dX7_doesWant_7 ?_
  obtain ⟨g1, h⟩ := gd_o h hn
  refine g_iald K hW kLM_1 g1 rfl dX7_doesWant_8 ?_
  refine lv_iload_n hx hb dX7_doesWant_9 rfl (lv_at hl 2 rfl) ?_
  refine g_callSi (rest := []) K hW hl (kX7_has (l := l) (G := G) (ad := ad) hok (I 1 (((39 : Int32) + x1)).toNatClampNeg) x2 I J (fX7_has (I 1 (((39 : Int32) + x1)).toNatClampNeg) x2) rfl) q_1244 q_1245 q_139 q_1246 nm_X7_has ⟨Nat.le_of_ble_eq_true rfl, Nat.le_of_ble_eq_true rfl⟩ rfl rfl (Nat.le_of_ble_eq_true rfl) ⟨Nat.zero_le _, Nat.zero_le _⟩ dX7_doesWant_10 (fun z2 H locs hW => ?_)
  obtain a1 := so1 h
  exact g_nmi a1 (hfin _ _ _ _ (a1 ▸ z2) hW dX7_doesWant_13)
noncomputable def fX7_longOf  (x1 : Int32) (I : gI) : Option (Int32) :=
  gd (vp_in ((51 : Int32) + x1) 1592) (gd (vp_in ((45 : Int32) + x1) 1592) (some (((I 1 (((51 : Int32) + x1)).toNatClampNeg) - (I 1 (((45 : Int32) + x1)).toNatClampNeg)) + (1 : Int32))))
set_option maxHeartbeats 4000000 in
set_option maxRecDepth 100000 in
theorem kX7_longOf {l : Launch} {G : gG} {ad : Nat → Nat} (hok : gInj LM ad)    (x1 : Int32) (I : gI) (J : gJ) (r : Int32) (h : fX7_longOf x1 I = some r) : gMi l yX7_longOf cX7_longOf 2 (some .int) 1 G LM ad [.ref (ad 0), .int x1] I J r True I J := by
  refine gMi_of (lst := [(0, .ref (ad 0)), (1, .int x1)]) (by decide) hok (Nat.le_of_ble_eq_true rfl) rfl ?_
  intro p e s m args below meth c Q ls K hW hl hfin
  have hn : (some r : Option (Int32)) ≠ none := Option.some_ne_none _
  have hx := K.1; have hb := K.2.1; have hown := K.2.2.2.1; have hts := K.2.2.2.2.1
  unfold fX7_longOf at h
  refine lv_aload_n hx hb dX7_longOf_0 rfl (lv_at hl 0 rfl) ?_
  refine g_get K hW (t := 2) (ci := 6) (k := 0) (v := .ref (ad 1)) kLM_0 rfl rfl i_X7 (by decide) q_1077 rfl (gfv2 rLM_0_0) dX7_longOf_1 ?_
  refine lv_bipush (v := (51 : Int32)) hx hb dX7_longOf_4 (by decide) ?_
  refine lv_iload_n hx hb dX7_longOf_6 rfl (lv_at hl 1 rfl) ?_
  refine lv_iadd hx hb dX7_longOf_7 ?_
  obtain ⟨g1, h⟩ := gd_o h hn
  refine g_iald K hW kLM_1 g1 rfl dX7_longOf_8 ?_
  refine lv_aload_n hx hb dX7_longOf_9 rfl (lv_at hl 0 rfl) ?_
  refine g_get K hW (t := 2) (ci := 6) (k := 0) (v := .ref (ad 1)) kLM_0 rfl rfl i_X7 (by decide) q_1077 rfl (gfv2 rLM_0_0) dX7_longOf_10 ?_
  refine lv_bipush (v := (45 : Int32)) hx hb dX7_longOf_13 (by decide) ?_
  refine lv_iload_n hx hb dX7_longOf_15 rfl (lv_at hl 1 rfl) ?_
  refine lv_iadd hx hb dX7_longOf_16 ?_
  obtain ⟨g2, h⟩ := gd_o h hn
  refine g_iald K hW kLM_1 g2 rfl dX7_longOf_17 ?_
  refine lv_isub hx hb dX7_longOf_18 ?_
  refine lv_iconst (v := (1 : Int32)) hx hb dX7_longOf_19 (by decide) ?_
  refine lv_iadd hx hb dX7_longOf_20 ?_
  obtain a1 := so1 h
  exact g_nmi a1 (hfin _ _ _ _ hW dX7_longOf_21)
theorem nm_X7_longOf : gNm yX7_longOf 1 := by decide +kernel
noncomputable def fX7_slicesOf  (x1 : Int32) (I : gI) : Option (Int32) :=
  bd (fX7_longOf x1 I) (fun (u1 : Int32) => gd (vp_in ((45 : Int32) + x1) 1592) (some (jshl ((jshl (1 : Int32) u1) - (1 : Int32)) (I 1 (((45 : Int32) + x1)).toNatClampNeg))))
set_option maxHeartbeats 4000000 in
set_option maxRecDepth 100000 in
theorem kX7_slicesOf {l : Launch} {G : gG} {ad : Nat → Nat} (hok : gInj LM ad)    (x1 : Int32) (I : gI) (J : gJ) (r : Int32) (h : fX7_slicesOf x1 I = some r) : gMi l yX7_slicesOf cX7_slicesOf 2 (some .int) 2 G LM ad [.ref (ad 0), .int x1] I J r True I J := by
  refine gMi_of (lst := [(0, .ref (ad 0)), (1, .int x1)]) (by decide) hok (Nat.le_of_ble_eq_true rfl) rfl ?_
  intro p e s m args below meth c Q ls K hW hl hfin
  have hn : (some r : Option (Int32)) ≠ none := Option.some_ne_none _
  have hx := K.1; have hb := K.2.1; have hown := K.2.2.2.1; have hts := K.2.2.2.2.1
  unfold fX7_slicesOf at h
  refine lv_iconst (v := (1 : Int32)) hx hb dX7_slicesOf_0 (by decide) ?_
  refine lv_aload_n hx hb dX7_slicesOf_1 rfl (lv_at hl 0 rfl) ?_
  refine lv_iload_n hx hb dX7_slicesOf_2 rfl (lv_at hl 1 rfl) ?_
  obtain ⟨u1, e2, h⟩ := bd_o h hn
  refine g_callVi (rest := [.int (1 : Int32)]) K hW hl (kX7_longOf (l := l) (G := G) (ad := ad) hok x1 I J u1 e2) kLM_0 rfl (gG_V q_1362 q_1364 q_83 q_139 q_1365) nm_X7_longOf ⟨Nat.le_of_ble_eq_true rfl, Nat.le_of_ble_eq_true rfl⟩ rfl rfl (Nat.le_of_ble_eq_true rfl) ⟨Nat.zero_le _, Nat.zero_le _⟩ dX7_slicesOf_3 (fun z3 H locs hW => ?_)
  refine g_ishl hx hb dX7_slicesOf_6 ?_
  refine lv_iconst (v := (1 : Int32)) hx hb dX7_slicesOf_7 (by decide) ?_
  refine lv_isub hx hb dX7_slicesOf_8 ?_
  refine lv_aload_n hx hb dX7_slicesOf_9 rfl (lv_at hl 0 rfl) ?_
  refine g_get K hW (t := 2) (ci := 6) (k := 0) (v := .ref (ad 1)) kLM_0 rfl rfl i_X7 (by decide) q_1077 rfl (gfv2 rLM_0_0) dX7_slicesOf_10 ?_
  refine lv_bipush (v := (45 : Int32)) hx hb dX7_slicesOf_13 (by decide) ?_
  refine lv_iload_n hx hb dX7_slicesOf_15 rfl (lv_at hl 1 rfl) ?_
  refine lv_iadd hx hb dX7_slicesOf_16 ?_
  obtain ⟨g4, h⟩ := gd_o h hn
  refine g_iald K hW kLM_1 g4 rfl dX7_slicesOf_17 ?_
  refine g_ishl hx hb dX7_slicesOf_18 ?_
  obtain a1 := so1 h
  exact g_nmi a1 (hfin _ _ _ _ hW dX7_slicesOf_19)
noncomputable def fX7_freeNow_4b  (rec : Int32 → Int32 → gI → Option ((Int32))) (u1 : Int32) (u2 : Int32) (I : gI) : Option ((Int32)) :=
  gi ((12 : Int32) ≤ u2)
 (some u1)
 (gd (vp_in ((11 : Int32) + u2) 1592) (lz (fun (u6 : Int32) => lz ((u1 ||| u6)) (fun (u10 : Int32) => lz ((u2 + (1 : Int32))) (fun (u12 : Int32) => rec u10 u12 I))) (fun j7 => gi ((I 1 (((11 : Int32) + u2)).toNatClampNeg) = (-1 : Int32))
 (j7 (jshl (1 : Int32) u2))
 (j7 (0 : Int32)))))
noncomputable def fX7_freeNow_4  : Nat → Int32 → Int32 → gI → Option ((Int32))
  | 0 => fun _ _ _ => none
  | n + 1 => fX7_freeNow_4b  (fX7_freeNow_4  n)
set_option maxHeartbeats 4000000 in
set_option maxRecDepth 100000 in
theorem tX7_freeNow_4 {l : Launch} {G : gG} {ad : Nat → Nat} {p : Program} {e : Env} {s : State} {m : MethodId} {args : Array Value} {below : List Frame} {meth : Method} {c : Code} {Q : State → Prop} (hok : gInj LM ad) (K : gCx G (gA LM ad) p s m args c cX7_freeNow 3 RX7)  : ∀ (n : Nat) (u1 : Int32) (u2 : Int32) (I : gI) (J : gJ) (out : Option ((Int32))), fX7_freeNow_4  n u1 u2 I = out → out ≠ none → ∀ (H : Heap) (locs : List Loc), gWd G LM ad (gA LM ad) s.heap I J H locs → ∀ (ls : Array Slot), lv_has ls 3 [(0, .ref (ad 0)), (1, .int u1), (2, .int u2)] → (∀ (y3 : Int32), some y3 = out → ∀ (H : Heap) (locs : List Loc), gWd G LM ad (gA LM ad) s.heap I J H locs → ∀ (ls : Array Slot), lv_has ls 3 [(1, .int y3)] → W p l e (gRm 1) s m args below meth c H locs 0 0 Q (F0 m 39 ls [])) → W p l e (gRm 1) s m args below meth c H locs 0 0 Q (F0 m 4 ls []) := by
  have hx := K.1; have hb := K.2.1; have hown := K.2.2.2.1; have hts := K.2.2.2.2.1
  intro n
  induction n with
  | zero => intro u1 u2 I J out h hn; exact absurd h.symm hn
  | succ n ih =>
    intro u1 u2 I J out h hn H locs hW ls hl hx1
    replace h : fX7_freeNow_4b  (fX7_freeNow_4  n) u1 u2 I = out := h
    unfold fX7_freeNow_4b at h
    refine lv_iload_n hx hb dX7_freeNow_4 rfl (lv_at hl 2 rfl) ?_
    refine lv_bipush (v := (12 : Int32)) hx hb dX7_freeNow_5 (by decide) ?_
    refine lv_icmp_ge (tgt := 39) hx hb dX7_freeNow_7 (by decide) (fun c4 => ?_) (fun c4 => ?_)
    · replace h := gi_t h c4
      exact hx1 u1 h _ _ hW _ (lv_sub hl [1] rfl)
    · replace h := gi_f h c4
      refine lv_iload_n hx hb dX7_freeNow_10 rfl (lv_at hl 1 rfl) ?_
      refine lv_aload_n hx hb dX7_freeNow_11 rfl (lv_at hl 0 rfl) ?_
      refine g_get K hW (t := 2) (ci := 6) (k := 0) (v := .ref (ad 1)) kLM_0 rfl rfl i_X7 (by decide) q_1077 rfl (gfv2 rLM_0_0) dX7_freeNow_12 ?_
      refine lv_bipush (v := (11 : Int32)) hx hb dX7_freeNow_15 (by decide) ?_
      refine lv_iload_n hx hb dX7_freeNow_17 rfl (lv_at hl 2 rfl) ?_
      refine lv_iadd hx hb dX7_freeNow_18 ?_
      obtain ⟨g5, h⟩ := gd_o h hn
      refine g_iald K hW kLM_1 g5 rfl dX7_freeNow_19 ?_
      refine lv_iconst (v := (-1 : Int32)) hx hb dX7_freeNow_20 (by decide) ?_
      obtain ⟨j7, e8, h⟩ := lz_o h
      have hj9 : ∀ (u6 : Int32), j7 u6 = out → ∀ (H : Heap) (locs : List Loc), gWd G LM ad (gA LM ad) s.heap I J H locs → ∀ (ls : Array Slot), lv_has ls 3 [(0, .ref (ad 0)), (2, .int u2)] → W p l e (gRm 1) s m args below meth c H locs 0 0 Q (F0 m 31 ls [.int u6, .int u1]) := by
        intro u6 h H locs hW ls hl
        replace h := jn1 e8 h
        refine lv_ior hx hb dX7_freeNow_31 ?_
        obtain ⟨u10, e11, h⟩ := lz_o h
        refine g_nmi e11 ?_
        refine lv_istore_n (lv' := [(1, .int u10), (0, .ref (ad 0)), (2, .int u2)]) hx hb dX7_freeNow_32 rfl hl (by decide) rfl (fun ls hl => ?_)
        obtain ⟨u12, e13, h⟩ := lz_o h
        refine lv_iinc (v := u12) (lv' := [(2, .int u12), (1, .int u10), (0, .ref (ad 0))]) hx hb dX7_freeNow_33 hl (k := 2) rfl (by rw [e13]; rfl) (by decide) rfl (fun ls hl => ?_)
        refine lv_goto (tgt := 4) hx hb dX7_freeNow_36 (by decide) ?_
        exact ih u10 u12 I J _ h hn _ _ hW _ (lv_sub hl [2, 1, 0] rfl) hx1
      refine lv_icmp_ne (tgt := 30) hx hb dX7_freeNow_21 (by decide) (fun c14 => ?_) (fun c14 => ?_)
      · replace h := gi_f h c14
        refine lv_iconst (v := (0 : Int32)) hx hb dX7_freeNow_30 (by decide) ?_
        exact hj9 (0 : Int32) h _ _ hW _ (lv_sub hl [0, 2] rfl)
      · replace h := gi_t h c14
        refine lv_iconst (v := (1 : Int32)) hx hb dX7_freeNow_24 (by decide) ?_
        refine lv_iload_n hx hb dX7_freeNow_25 rfl (lv_at hl 2 rfl) ?_
        refine g_ishl hx hb dX7_freeNow_26 ?_
        refine lv_goto (tgt := 31) hx hb dX7_freeNow_27 (by decide) ?_
        exact hj9 (jshl (1 : Int32) u2) h _ _ hW _ (lv_sub hl [0, 2] rfl)
noncomputable def fX7_freeNow   (I : gI) : Option (Int32) :=
  bd (fX7_freeNow_4 FU (0 : Int32) (0 : Int32) I) (fun (u17 : Int32) => some u17)
set_option maxHeartbeats 4000000 in
set_option maxRecDepth 100000 in
theorem kX7_freeNow {l : Launch} {G : gG} {ad : Nat → Nat} (hok : gInj LM ad)     (I : gI) (J : gJ) (r : Int32) (h : fX7_freeNow I = some r) : gMi l yX7_freeNow cX7_freeNow 3 (some .int) 1 G LM ad [.ref (ad 0)] I J r True I J := by
  refine gMi_of (lst := [(0, .ref (ad 0))]) (by decide) hok (Nat.le_of_ble_eq_true rfl) rfl ?_
  intro p e s m args below meth c Q ls K hW hl hfin
  have hn : (some r : Option (Int32)) ≠ none := Option.some_ne_none _
  have hx := K.1; have hb := K.2.1; have hown := K.2.2.2.1; have hts := K.2.2.2.2.1
  unfold fX7_freeNow at h
  refine lv_iconst (v := (0 : Int32)) hx hb dX7_freeNow_0 (by decide) ?_
  refine lv_istore_n (lv' := [(1, .int (0 : Int32)), (0, .ref (ad 0))]) hx hb dX7_freeNow_1 rfl hl (by decide) rfl (fun ls hl => ?_)
  refine lv_iconst (v := (0 : Int32)) hx hb dX7_freeNow_2 (by decide) ?_
  refine lv_istore_n (lv' := [(2, .int (0 : Int32)), (1, .int (0 : Int32)), (0, .ref (ad 0))]) hx hb dX7_freeNow_3 rfl hl (by decide) rfl (fun ls hl => ?_)
  obtain ⟨r15, e16, h⟩ := bd_o h hn
  refine tX7_freeNow_4 hok K FU (0 : Int32) (0 : Int32) I J (some r15) e16 (Option.some_ne_none _) _ _ hW _ (lv_sub hl [2, 1, 0] rfl) ?_
  · intro u17 q18 H locs hW ls hl
    replace q18 := Option.some.inj q18
    subst q18
    refine lv_iload_n hx hb dX7_freeNow_39 rfl (lv_at hl 0 rfl) ?_
    obtain a1 := so1 h
    exact g_nmi a1 (hfin _ _ _ _ hW dX7_freeNow_40)
noncomputable def fX7_ownNow_4b  (rec : Int32 → Int32 → Int32 → gI → Option ((Int32))) (u1 : Int32) (u2 : Int32) (u3 : Int32) (I : gI) : Option ((Int32)) :=
  gi ((12 : Int32) ≤ u3)
 (some u2)
 (gd (vp_in ((11 : Int32) + u3) 1592) (lz (fun (u7 : Int32) => lz ((u2 ||| u7)) (fun (u11 : Int32) => lz ((u3 + (1 : Int32))) (fun (u13 : Int32) => rec u1 u11 u13 I))) (fun j8 => gi ((I 1 (((11 : Int32) + u3)).toNatClampNeg) = u1)
 (j8 (jshl (1 : Int32) u3))
 (j8 (0 : Int32)))))
noncomputable def fX7_ownNow_4  : Nat → Int32 → Int32 → Int32 → gI → Option ((Int32))
  | 0 => fun _ _ _ _ => none
  | n + 1 => fX7_ownNow_4b  (fX7_ownNow_4  n)
set_option maxHeartbeats 4000000 in
set_option maxRecDepth 100000 in
theorem tX7_ownNow_4 {l : Launch} {G : gG} {ad : Nat → Nat} {p : Program} {e : Env} {s : State} {m : MethodId} {args : Array Value} {below : List Frame} {meth : Method} {c : Code} {Q : State → Prop} (hok : gInj LM ad) (K : gCx G (gA LM ad) p s m args c cX7_ownNow 4 RX7)  : ∀ (n : Nat) (u1 : Int32) (u2 : Int32) (u3 : Int32) (I : gI) (J : gJ) (out : Option ((Int32))), fX7_ownNow_4  n u1 u2 u3 I = out → out ≠ none → ∀ (H : Heap) (locs : List Loc), gWd G LM ad (gA LM ad) s.heap I J H locs → ∀ (ls : Array Slot), lv_has ls 4 [(0, .ref (ad 0)), (1, .int u1), (2, .int u2), (3, .int u3)] → (∀ (y4 : Int32), some y4 = out → ∀ (H : Heap) (locs : List Loc), gWd G LM ad (gA LM ad) s.heap I J H locs → ∀ (ls : Array Slot), lv_has ls 4 [(2, .int y4)] → W p l e (gRm 1) s m args below meth c H locs 0 0 Q (F0 m 39 ls [])) → W p l e (gRm 1) s m args below meth c H locs 0 0 Q (F0 m 4 ls []) := by
  have hx := K.1; have hb := K.2.1; have hown := K.2.2.2.1; have hts := K.2.2.2.2.1
  intro n
  induction n with
  | zero => intro u1 u2 u3 I J out h hn; exact absurd h.symm hn
  | succ n ih =>
    intro u1 u2 u3 I J out h hn H locs hW ls hl hx1
    replace h : fX7_ownNow_4b  (fX7_ownNow_4  n) u1 u2 u3 I = out := h
    unfold fX7_ownNow_4b at h
    refine lv_iload_n hx hb dX7_ownNow_4 rfl (lv_at hl 3 rfl) ?_
    refine lv_bipush (v := (12 : Int32)) hx hb dX7_ownNow_5 (by decide) ?_
    refine lv_icmp_ge (tgt := 39) hx hb dX7_ownNow_7 (by decide) (fun c5 => ?_) (fun c5 => ?_)
    · replace h := gi_t h c5
      exact hx1 u2 h _ _ hW _ (lv_sub hl [2] rfl)
    · replace h := gi_f h c5
      refine lv_iload_n hx hb dX7_ownNow_10 rfl (lv_at hl 2 rfl) ?_
      refine lv_aload_n hx hb dX7_ownNow_11 rfl (lv_at hl 0 rfl) ?_
      refine g_get K hW (t := 2) (ci := 6) (k := 0) (v := .ref (ad 1)) kLM_0 rfl rfl i_X7 (by decide) q_1077 rfl (gfv2 rLM_0_0) dX7_ownNow_12 ?_
      refine lv_bipush (v := (11 : Int32)) hx hb dX7_ownNow_15 (by decide) ?_
      refine lv_iload_n hx hb dX7_ownNow_17 rfl (lv_at hl 3 rfl) ?_
      refine lv_iadd hx hb dX7_ownNow_18 ?_
      obtain ⟨g6, h⟩ := gd_o h hn
      refine g_iald K hW kLM_1 g6 rfl dX7_ownNow_19 ?_
      refine lv_iload_n hx hb dX7_ownNow_20 rfl (lv_at hl 1 rfl) ?_
      obtain ⟨j8, e9, h⟩ := lz_o h
      have hj10 : ∀ (u7 : Int32), j8 u7 = out → ∀ (H : Heap) (locs : List Loc), gWd G LM ad (gA LM ad) s.heap I J H locs → ∀ (ls : Array Slot), lv_has ls 4 [(0, .ref (ad 0)), (1, .int u1), (3, .int u3)] → W p l e (gRm 1) s m args below meth c H locs 0 0 Q (F0 m 31 ls [.int u7, .int u2]) := by
        intro u7 h H locs hW ls hl
        replace h := jn1 e9 h
        refine lv_ior hx hb dX7_ownNow_31 ?_
        obtain ⟨u11, e12, h⟩ := lz_o h
        refine g_nmi e12 ?_
        refine lv_istore_n (lv' := [(2, .int u11), (0, .ref (ad 0)), (1, .int u1), (3, .int u3)]) hx hb dX7_ownNow_32 rfl hl (by decide) rfl (fun ls hl => ?_)
        obtain ⟨u13, e14, h⟩ := lz_o h
        refine lv_iinc (v := u13) (lv' := [(3, .int u13), (2, .int u11), (0, .ref (ad 0)), (1, .int u1)]) hx hb dX7_ownNow_33 hl (k := 3) rfl (by rw [e14]; rfl) (by decide) rfl (fun ls hl => ?_)
        refine lv_goto (tgt := 4) hx hb dX7_ownNow_36 (by decide) ?_
        exact ih u1 u11 u13 I J _ h hn _ _ hW _ (lv_sub hl [2, 3, 1, 0] rfl) hx1
      refine lv_icmp_ne (tgt := 30) hx hb dX7_ownNow_21 (by decide) (fun c15 => ?_) (fun c15 => ?_)
      · replace h := gi_f h c15
        refine lv_iconst (v := (0 : Int32)) hx hb dX7_ownNow_30 (by decide) ?_
        exact hj10 (0 : Int32) h _ _ hW _ (lv_sub hl [0, 1, 3] rfl)
      · replace h := gi_t h c15
        refine lv_iconst (v := (1 : Int32)) hx hb dX7_ownNow_24 (by decide) ?_
        refine lv_iload_n hx hb dX7_ownNow_25 rfl (lv_at hl 3 rfl) ?_
        refine g_ishl hx hb dX7_ownNow_26 ?_
        refine lv_goto (tgt := 31) hx hb dX7_ownNow_27 (by decide) ?_
        exact hj10 (jshl (1 : Int32) u3) h _ _ hW _ (lv_sub hl [0, 1, 3] rfl)
noncomputable def fX7_ownNow  (x1 : Int32) (I : gI) : Option (Int32) :=
  bd (fX7_ownNow_4 FU x1 (0 : Int32) (0 : Int32) I) (fun (u18 : Int32) => some u18)
set_option maxHeartbeats 4000000 in
set_option maxRecDepth 100000 in
theorem kX7_ownNow {l : Launch} {G : gG} {ad : Nat → Nat} (hok : gInj LM ad)    (x1 : Int32) (I : gI) (J : gJ) (r : Int32) (h : fX7_ownNow x1 I = some r) : gMi l yX7_ownNow cX7_ownNow 4 (some .int) 1 G LM ad [.ref (ad 0), .int x1] I J r True I J := by
  refine gMi_of (lst := [(0, .ref (ad 0)), (1, .int x1)]) (by decide) hok (Nat.le_of_ble_eq_true rfl) rfl ?_
  intro p e s m args below meth c Q ls K hW hl hfin
  have hn : (some r : Option (Int32)) ≠ none := Option.some_ne_none _
  have hx := K.1; have hb := K.2.1; have hown := K.2.2.2.1; have hts := K.2.2.2.2.1
  unfold fX7_ownNow at h
  refine lv_iconst (v := (0 : Int32)) hx hb dX7_ownNow_0 (by decide) ?_
  refine lv_istore_n (lv' := [(2, .int (0 : Int32)), (0, .ref (ad 0)), (1, .int x1)]) hx hb dX7_ownNow_1 rfl hl (by decide) rfl (fun ls hl => ?_)
  refine lv_iconst (v := (0 : Int32)) hx hb dX7_ownNow_2 (by decide) ?_
  refine lv_istore_n (lv' := [(3, .int (0 : Int32)), (2, .int (0 : Int32)), (0, .ref (ad 0)), (1, .int x1)]) hx hb dX7_ownNow_3 rfl hl (by decide) rfl (fun ls hl => ?_)
  obtain ⟨r16, e17, h⟩ := bd_o h hn
  refine tX7_ownNow_4 hok K FU x1 (0 : Int32) (0 : Int32) I J (some r16) e17 (Option.some_ne_none _) _ _ hW _ (lv_sub hl [2, 3, 1, 0] rfl) ?_
  · intro u18 q19 H locs hW ls hl
    replace q19 := Option.some.inj q19
    subst q19
    refine lv_iload_n hx hb dX7_ownNow_39 rfl (lv_at hl 0 rfl) ?_
    obtain a1 := so1 h
    exact g_nmi a1 (hfin _ _ _ _ hW dX7_ownNow_40)
theorem nm_X7_ownNow : gNm yX7_ownNow 1 := by decide +kernel
theorem nm_X7_bits : gNm yX7_bits 1 := by decide +kernel
noncomputable def fX7_hasNow  (x1 : Int32) (I : gI) : Option (Int32) :=
  bd (fX7_ownNow x1 I) (fun (u1 : Int32) => bd (fX7_bits u1) (fun (u4 : Int32) => some u4))
set_option maxHeartbeats 4000000 in
set_option maxRecDepth 100000 in
theorem kX7_hasNow {l : Launch} {G : gG} {ad : Nat → Nat} (hok : gInj LM ad)    (x1 : Int32) (I : gI) (J : gJ) (r : Int32) (h : fX7_hasNow x1 I = some r) : gMi l yX7_hasNow cX7_hasNow 2 (some .int) 2 G LM ad [.ref (ad 0), .int x1] I J r True I J := by
  refine gMi_of (lst := [(0, .ref (ad 0)), (1, .int x1)]) (by decide) hok (Nat.le_of_ble_eq_true rfl) rfl ?_
  intro p e s m args below meth c Q ls K hW hl hfin
  have hn : (some r : Option (Int32)) ≠ none := Option.some_ne_none _
  have hx := K.1; have hb := K.2.1; have hown := K.2.2.2.1; have hts := K.2.2.2.2.1
  unfold fX7_hasNow at h
  refine lv_aload_n hx hb dX7_hasNow_0 rfl (lv_at hl 0 rfl) ?_
  refine lv_iload_n hx hb dX7_hasNow_1 rfl (lv_at hl 1 rfl) ?_
  obtain ⟨u1, e2, h⟩ := bd_o h hn
  refine g_callVi (rest := []) K hW hl (kX7_ownNow (l := l) (G := G) (ad := ad) hok x1 I J u1 e2) kLM_0 rfl (gG_V q_1389 q_1391 q_89 q_139 q_1392) nm_X7_ownNow ⟨Nat.le_of_ble_eq_true rfl, Nat.le_of_ble_eq_true rfl⟩ rfl rfl (Nat.le_of_ble_eq_true rfl) ⟨Nat.zero_le _, Nat.zero_le _⟩ dX7_hasNow_2 (fun z3 H locs hW => ?_)
  obtain ⟨u4, e5, h⟩ := bd_o h hn
  refine g_callSi (rest := []) K hW hl (kX7_bits (l := l) (G := G) (ad := ad) hok u1 I J u4 e5) q_1382 q_1383 q_139 q_1384 nm_X7_bits ⟨Nat.le_of_ble_eq_true rfl, Nat.le_of_ble_eq_true rfl⟩ rfl rfl (Nat.le_of_ble_eq_true rfl) ⟨Nat.zero_le _, Nat.zero_le _⟩ dX7_hasNow_5 (fun z6 H locs hW => ?_)
  obtain a1 := so1 h
  exact g_nmi a1 (hfin _ _ _ _ hW dX7_hasNow_8)
noncomputable def fX7_allOdds_4b  (rec : Int32 → Int32 → gI → Option ((Int32))) (u1 : Int32) (u2 : Int32) (I : gI) : Option ((Int32)) :=
  gi ((5 : Int32) ≤ u2)
 (some u1)
 (gd (vp_in ((29 : Int32) + u2) 1592) (lz ((u1 + (I 1 (((29 : Int32) + u2)).toNatClampNeg))) (fun (u6 : Int32) => lz ((u2 + (1 : Int32))) (fun (u8 : Int32) => rec u6 u8 I))))
noncomputable def fX7_allOdds_4  : Nat → Int32 → Int32 → gI → Option ((Int32))
  | 0 => fun _ _ _ => none
  | n + 1 => fX7_allOdds_4b  (fX7_allOdds_4  n)
set_option maxHeartbeats 4000000 in
set_option maxRecDepth 100000 in
theorem tX7_allOdds_4 {l : Launch} {G : gG} {ad : Nat → Nat} {p : Program} {e : Env} {s : State} {m : MethodId} {args : Array Value} {below : List Frame} {meth : Method} {c : Code} {Q : State → Prop} (hok : gInj LM ad) (K : gCx G (gA LM ad) p s m args c cX7_allOdds 3 RX7)  : ∀ (n : Nat) (u1 : Int32) (u2 : Int32) (I : gI) (J : gJ) (out : Option ((Int32))), fX7_allOdds_4  n u1 u2 I = out → out ≠ none → ∀ (H : Heap) (locs : List Loc), gWd G LM ad (gA LM ad) s.heap I J H locs → ∀ (ls : Array Slot), lv_has ls 3 [(0, .ref (ad 0)), (1, .int u1), (2, .int u2)] → (∀ (y3 : Int32), some y3 = out → ∀ (H : Heap) (locs : List Loc), gWd G LM ad (gA LM ad) s.heap I J H locs → ∀ (ls : Array Slot), lv_has ls 3 [(1, .int y3)] → W p l e (gRm 1) s m args below meth c H locs 0 0 Q (F0 m 27 ls [])) → W p l e (gRm 1) s m args below meth c H locs 0 0 Q (F0 m 4 ls []) := by
  have hx := K.1; have hb := K.2.1; have hown := K.2.2.2.1; have hts := K.2.2.2.2.1
  intro n
  induction n with
  | zero => intro u1 u2 I J out h hn; exact absurd h.symm hn
  | succ n ih =>
    intro u1 u2 I J out h hn H locs hW ls hl hx1
    replace h : fX7_allOdds_4b  (fX7_allOdds_4  n) u1 u2 I = out := h
    unfold fX7_allOdds_4b at h
    refine lv_iload_n hx hb dX7_allOdds_4 rfl (lv_at hl 2 rfl) ?_
    refine lv_iconst (v := (5 : Int32)) hx hb dX7_allOdds_5 (by decide) ?_
    refine lv_icmp_ge (tgt := 27) hx hb dX7_allOdds_6 (by decide) (fun c4 => ?_) (fun c4 => ?_)
    · replace h := gi_t h c4
      exact hx1 u1 h _ _ hW _ (lv_sub hl [1] rfl)
    · replace h := gi_f h c4
      refine lv_iload_n hx hb dX7_allOdds_9 rfl (lv_at hl 1 rfl) ?_
      refine lv_aload_n hx hb dX7_allOdds_10 rfl (lv_at hl 0 rfl) ?_
      refine g_get K hW (t := 2) (ci := 6) (k := 0) (v := .ref (ad 1)) kLM_0 rfl rfl i_X7 (by decide) q_1077 rfl (gfv2 rLM_0_0) dX7_allOdds_11 ?_
      refine lv_bipush (v := (29 : Int32)) hx hb dX7_allOdds_14 (by decide) ?_
      refine lv_iload_n hx hb dX7_allOdds_16 rfl (lv_at hl 2 rfl) ?_
      refine lv_iadd hx hb dX7_allOdds_17 ?_
      obtain ⟨g5, h⟩ := gd_o h hn
      refine g_iald K hW kLM_1 g5 rfl dX7_allOdds_18 ?_
      refine lv_iadd hx hb dX7_allOdds_19 ?_
      obtain ⟨u6, e7, h⟩ := lz_o h
      refine g_nmi e7 ?_
      refine lv_istore_n (lv' := [(1, .int u6), (0, .ref (ad 0)), (2, .int u2)]) hx hb dX7_allOdds_20 rfl hl (by decide) rfl (fun ls hl => ?_)
      obtain ⟨u8, e9, h⟩ := lz_o h
      refine lv_iinc (v := u8) (lv' := [(2, .int u8), (1, .int u6), (0, .ref (ad 0))]) hx hb dX7_allOdds_21 hl (k := 2) rfl (by rw [e9]; rfl) (by decide) rfl (fun ls hl => ?_)
      refine lv_goto (tgt := 4) hx hb dX7_allOdds_24 (by decide) ?_
      exact ih u6 u8 I J _ h hn _ _ hW _ (lv_sub hl [2, 1, 0] rfl) hx1
noncomputable def fX7_allOdds   (I : gI) : Option (Int32) :=
  bd (fX7_allOdds_4 FU (0 : Int32) (0 : Int32) I) (fun (u12 : Int32) => some u12)
set_option maxHeartbeats 4000000 in
set_option maxRecDepth 100000 in
theorem kX7_allOdds {l : Launch} {G : gG} {ad : Nat → Nat} (hok : gInj LM ad)     (I : gI) (J : gJ) (r : Int32) (h : fX7_allOdds I = some r) : gMi l yX7_allOdds cX7_allOdds 3 (some .int) 1 G LM ad [.ref (ad 0)] I J r True I J := by
  refine gMi_of (lst := [(0, .ref (ad 0))]) (by decide) hok (Nat.le_of_ble_eq_true rfl) rfl ?_
  intro p e s m args below meth c Q ls K hW hl hfin
  have hn : (some r : Option (Int32)) ≠ none := Option.some_ne_none _
  have hx := K.1; have hb := K.2.1; have hown := K.2.2.2.1; have hts := K.2.2.2.2.1
  unfold fX7_allOdds at h
  refine lv_iconst (v := (0 : Int32)) hx hb dX7_allOdds_0 (by decide) ?_
  refine lv_istore_n (lv' := [(1, .int (0 : Int32)), (0, .ref (ad 0))]) hx hb dX7_allOdds_1 rfl hl (by decide) rfl (fun ls hl => ?_)
  refine lv_iconst (v := (0 : Int32)) hx hb dX7_allOdds_2 (by decide) ?_
  refine lv_istore_n (lv' := [(2, .int (0 : Int32)), (1, .int (0 : Int32)), (0, .ref (ad 0))]) hx hb dX7_allOdds_3 rfl hl (by decide) rfl (fun ls hl => ?_)
  obtain ⟨r10, e11, h⟩ := bd_o h hn
  refine tX7_allOdds_4 hok K FU (0 : Int32) (0 : Int32) I J (some r10) e11 (Option.some_ne_none _) _ _ hW _ (lv_sub hl [2, 1, 0] rfl) ?_
  · intro u12 q13 H locs hW ls hl
    replace q13 := Option.some.inj q13
    subst q13
    refine lv_iload_n hx hb dX7_allOdds_27 rfl (lv_at hl 0 rfl) ?_
    obtain a1 := so1 h
    exact g_nmi a1 (hfin _ _ _ _ hW dX7_allOdds_28)
theorem nm_X7_isSort : gNm yX7_isSort 1 := by decide +kernel
noncomputable def fX7_sort  (x1 : Int32) (x2 : Int32) (x3 : Int32) (I : gI) : Option (Int32 × gI) :=
  gi ((fX7_isSort x1) = 0)
 (some ((0 : Int32), I))
 (gi ((fX7_isIn x2 (0 : Int32) (9 : Int32)) = 0)
 (some ((0 : Int32), I))
 (gi ((fX7_isIn x3 (0 : Int32) (99 : Int32)) = 0)
 (some ((0 : Int32), I))
 (gd (vp_in ((29 : Int32) + x1) 1592) (lz (wI I 1 (((29 : Int32) + x1)).toNatClampNeg x2) (fun (I9 : gI) => gd (vp_in ((34 : Int32) + x1) 1592) (lz (wI I9 1 (((34 : Int32) + x1)).toNatClampNeg x3) (fun (I12 : gI) => some ((1 : Int32), I12))))))))
set_option maxHeartbeats 4000000 in
set_option maxRecDepth 100000 in
theorem kX7_sort {l : Launch} {G : gG} {ad : Nat → Nat} (hok : gInj LM ad)    (x1 : Int32) (x2 : Int32) (x3 : Int32) (I : gI) (J : gJ) (r : Int32) (I' : gI) (h : fX7_sort x1 x2 x3 I = some (r, I')) : gMi l yX7_sort cX7_sort 4 (some .boolean) 3 G LM ad [.ref (ad 0), .int x1, .int x2, .int x3] I J r (r = 0 ∨ r = 1) I' J := by
  refine gMz_of (lst := [(0, .ref (ad 0)), (1, .int x1), (2, .int x2), (3, .int x3)]) (by decide) hok (Nat.le_of_ble_eq_true rfl) rfl ?_
  intro p e s m args below meth c Q ls K hW hl hfin
  have hn : (some (r, I') : Option (Int32 × gI)) ≠ none := Option.some_ne_none _
  have hx := K.1; have hb := K.2.1; have hown := K.2.2.2.1; have hts := K.2.2.2.2.1
  unfold fX7_sort at h
  refine lv_iload_n hx hb dX7_sort_0 rfl (lv_at hl 1 rfl) ?_
  refine g_callSi (rest := []) K hW hl (kX7_isSort (l := l) (G := G) (ad := ad) hok x1 I J (fX7_isSort x1) rfl) q_1168 q_1169 q_139 q_1170 nm_X7_isSort ⟨Nat.le_of_ble_eq_true rfl, Nat.le_of_ble_eq_true rfl⟩ rfl rfl (Nat.le_of_ble_eq_true rfl) ⟨Nat.zero_le _, Nat.zero_le _⟩ dX7_sort_1 (fun z1 H locs hW => ?_)
  refine lv_if_eq (tgt := 27) hx hb dX7_sort_4 (by decide) (fun c2 => ?_) (fun c2 => ?_)
  · replace h := gi_t h c2
    refine lv_iconst (v := (0 : Int32)) hx hb dX7_sort_27 (by decide) ?_
    obtain ⟨a1, a2⟩ := so2 h
    replace hW := gWd_nI a2 hW
    exact g_nmi a1 (hfin _ _ _ _ (a1 ▸ (Or.inl rfl)) hW dX7_sort_28)
  · replace h := gi_f h c2
    refine lv_iload_n hx hb dX7_sort_7 rfl (lv_at hl 2 rfl) ?_
    refine lv_iconst (v := (0 : Int32)) hx hb dX7_sort_8 (by decide) ?_
    refine lv_bipush (v := (9 : Int32)) hx hb dX7_sort_9 (by decide) ?_
    refine g_callSi (rest := []) K hW hl (kX7_isIn (l := l) (G := G) (ad := ad) hok x2 (0 : Int32) (9 : Int32) I J (fX7_isIn x2 (0 : Int32) (9 : Int32)) rfl) q_1171 q_1172 q_139 q_1173 nm_X7_isIn ⟨Nat.le_of_ble_eq_true rfl, Nat.le_of_ble_eq_true rfl⟩ rfl rfl (Nat.le_of_ble_eq_true rfl) ⟨Nat.zero_le _, Nat.zero_le _⟩ dX7_sort_11 (fun z3 H locs hW => ?_)
    refine lv_if_eq (tgt := 27) hx hb dX7_sort_14 (by decide) (fun c4 => ?_) (fun c4 => ?_)
    · replace h := gi_t h c4
      refine lv_iconst (v := (0 : Int32)) hx hb dX7_sort_27 (by decide) ?_
      obtain ⟨a1, a2⟩ := so2 h
      replace hW := gWd_nI a2 hW
      exact g_nmi a1 (hfin _ _ _ _ (a1 ▸ (Or.inl rfl)) hW dX7_sort_28)
    · replace h := gi_f h c4
      refine lv_iload_n hx hb dX7_sort_17 rfl (lv_at hl 3 rfl) ?_
      refine lv_iconst (v := (0 : Int32)) hx hb dX7_sort_18 (by decide) ?_
      refine lv_bipush (v := (99 : Int32)) hx hb dX7_sort_19 (by decide) ?_
      refine g_callSi (rest := []) K hW hl (kX7_isIn (l := l) (G := G) (ad := ad) hok x3 (0 : Int32) (99 : Int32) I J (fX7_isIn x3 (0 : Int32) (99 : Int32)) rfl) q_1171 q_1172 q_139 q_1173 nm_X7_isIn ⟨Nat.le_of_ble_eq_true rfl, Nat.le_of_ble_eq_true rfl⟩ rfl rfl (Nat.le_of_ble_eq_true rfl) ⟨Nat.zero_le _, Nat.zero_le _⟩ dX7_sort_21 (fun z5 H locs hW => ?_)
      refine lv_if_ne (tgt := 29) hx hb dX7_sort_24 (by decide) (fun c6 => ?_) (fun c6 => ?_)
      · replace h := gi_f h c6
        refine lv_aload_n hx hb dX7_sort_29 rfl (lv_at hl 0 rfl) ?_
        refine g_get K hW (t := 2) (ci := 6) (k := 0) (v := .ref (ad 1)) kLM_0 rfl rfl i_X7 (by decide) q_1077 rfl (gfv2 rLM_0_0) dX7_sort_30 ?_
        refine lv_bipush (v := (29 : Int32)) hx hb dX7_sort_33 (by decide) ?_
        refine lv_iload_n hx hb dX7_sort_35 rfl (lv_at hl 1 rfl) ?_
        refine lv_iadd hx hb dX7_sort_36 ?_
        refine lv_iload_n hx hb dX7_sort_37 rfl (lv_at hl 2 rfl) ?_
        obtain ⟨g7, h⟩ := gd_o h hn
        refine g_iast K hW kLM_1 g7 rfl dX7_sort_38 (fun H locs hW => ?_)
        obtain ⟨I9, e8, h⟩ := lz_o h
        replace hW := gWd_nI e8 hW
        refine lv_aload_n hx hb dX7_sort_39 rfl (lv_at hl 0 rfl) ?_
        refine g_get K hW (t := 2) (ci := 6) (k := 0) (v := .ref (ad 1)) kLM_0 rfl rfl i_X7 (by decide) q_1077 rfl (gfv2 rLM_0_0) dX7_sort_40 ?_
        refine lv_bipush (v := (34 : Int32)) hx hb dX7_sort_43 (by decide) ?_
        refine lv_iload_n hx hb dX7_sort_45 rfl (lv_at hl 1 rfl) ?_
        refine lv_iadd hx hb dX7_sort_46 ?_
        refine lv_iload_n hx hb dX7_sort_47 rfl (lv_at hl 3 rfl) ?_
        obtain ⟨g10, h⟩ := gd_o h hn
        refine g_iast K hW kLM_1 g10 rfl dX7_sort_48 (fun H locs hW => ?_)
        obtain ⟨I12, e11, h⟩ := lz_o h
        replace hW := gWd_nI e11 hW
        refine lv_iconst (v := (1 : Int32)) hx hb dX7_sort_49 (by decide) ?_
        obtain ⟨a1, a2⟩ := so2 h
        replace hW := gWd_nI a2 hW
        exact g_nmi a1 (hfin _ _ _ _ (a1 ▸ (Or.inr rfl)) hW dX7_sort_50)
      · replace h := gi_t h c6
        refine lv_iconst (v := (0 : Int32)) hx hb dX7_sort_27 (by decide) ?_
        obtain ⟨a1, a2⟩ := so2 h
        replace hW := gWd_nI a2 hW
        exact g_nmi a1 (hfin _ _ _ _ (a1 ▸ (Or.inl rfl)) hW dX7_sort_28)
theorem nm_X7_areSlices : gNm yX7_areSlices 2 := by decide +kernel
noncomputable def fX7_buyer  (x1 : Int32) (x2 : Int32) (x3 : Int32) (x4 : Int32) (I : gI) : Option (Int32 × gI) :=
  gi ((fX7_isIn x1 (0 : Int32) (31 : Int32)) = 0)
 (some ((-1 : Int32), I))
 (gi ((fX7_areSlices x2 x3) = 0)
 (some ((-1 : Int32), I))
 (gi ((fX7_isIn x4 (0 : Int32) (999 : Int32)) = 0)
 (some ((-1 : Int32), I))
 (gi ((I 1 0) = (6 : Int32))
 (some ((-1 : Int32), I))
 (lz ((I 1 0)) (fun (u8 : Int32) => gd (vp_in ((39 : Int32) + u8) 1592) (lz (wI I 1 (((39 : Int32) + u8)).toNatClampNeg x1) (fun (I12 : gI) => gd (vp_in ((45 : Int32) + u8) 1592) (lz (wI I12 1 (((45 : Int32) + u8)).toNatClampNeg x2) (fun (I15 : gI) => gd (vp_in ((51 : Int32) + u8) 1592) (lz (wI I15 1 (((51 : Int32) + u8)).toNatClampNeg x3) (fun (I18 : gI) => gd (vp_in ((57 : Int32) + u8) 1592) (lz (wI I18 1 (((57 : Int32) + u8)).toNatClampNeg x4) (fun (I21 : gI) => gd (vp_in ((23 : Int32) + u8) 1592) (lz (wI I21 1 (((23 : Int32) + u8)).toNatClampNeg x4) (fun (I24 : gI) => lz (wI I24 1 0 ((I24 1 0) + (1 : Int32))) (fun (I26 : gI) => some (u8, I26)))))))))))))))))
set_option maxHeartbeats 4000000 in
set_option maxRecDepth 100000 in
theorem kX7_buyer {l : Launch} {G : gG} {ad : Nat → Nat} (hok : gInj LM ad)    (x1 : Int32) (x2 : Int32) (x3 : Int32) (x4 : Int32) (I : gI) (J : gJ) (r : Int32) (I' : gI) (h : fX7_buyer x1 x2 x3 x4 I = some (r, I')) : gMi l yX7_buyer cX7_buyer 6 (some .int) 3 G LM ad [.ref (ad 0), .int x1, .int x2, .int x3, .int x4] I J r True I' J := by
  refine gMi_of (lst := [(0, .ref (ad 0)), (1, .int x1), (2, .int x2), (3, .int x3), (4, .int x4)]) (by decide) hok (Nat.le_of_ble_eq_true rfl) rfl ?_
  intro p e s m args below meth c Q ls K hW hl hfin
  have hn : (some (r, I') : Option (Int32 × gI)) ≠ none := Option.some_ne_none _
  have hx := K.1; have hb := K.2.1; have hown := K.2.2.2.1; have hts := K.2.2.2.2.1
  unfold fX7_buyer at h
  refine lv_iload_n hx hb dX7_buyer_0 rfl (lv_at hl 1 rfl) ?_
  refine lv_iconst (v := (0 : Int32)) hx hb dX7_buyer_1 (by decide) ?_
  refine lv_bipush (v := (31 : Int32)) hx hb dX7_buyer_2 (by decide) ?_
  refine g_callSi (rest := []) K hW hl (kX7_isIn (l := l) (G := G) (ad := ad) hok x1 (0 : Int32) (31 : Int32) I J (fX7_isIn x1 (0 : Int32) (31 : Int32)) rfl) q_1171 q_1172 q_139 q_1173 nm_X7_isIn ⟨Nat.le_of_ble_eq_true rfl, Nat.le_of_ble_eq_true rfl⟩ rfl rfl (Nat.le_of_ble_eq_true rfl) ⟨Nat.zero_le _, Nat.zero_le _⟩ dX7_buyer_4 (fun z1 H locs hW => ?_)
  refine lv_if_eq (tgt := 41) hx hb dX7_buyer_7 (by decide) (fun c2 => ?_) (fun c2 => ?_)
  · replace h := gi_t h c2
    refine lv_iconst (v := (-1 : Int32)) hx hb dX7_buyer_41 (by decide) ?_
    obtain ⟨a1, a2⟩ := so2 h
    replace hW := gWd_nI a2 hW
    exact g_nmi a1 (hfin _ _ _ _ hW dX7_buyer_42)
  · replace h := gi_f h c2
    refine lv_iload_n hx hb dX7_buyer_10 rfl (lv_at hl 2 rfl) ?_
    refine lv_iload_n hx hb dX7_buyer_11 rfl (lv_at hl 3 rfl) ?_
    refine g_callSi (rest := []) K hW hl (kX7_areSlices (l := l) (G := G) (ad := ad) hok x2 x3 I J (fX7_areSlices x2 x3) rfl) q_1178 q_1179 q_139 q_1180 nm_X7_areSlices ⟨Nat.le_of_ble_eq_true rfl, Nat.le_of_ble_eq_true rfl⟩ rfl rfl (Nat.le_of_ble_eq_true rfl) ⟨Nat.zero_le _, Nat.zero_le _⟩ dX7_buyer_12 (fun z3 H locs hW => ?_)
    refine lv_if_eq (tgt := 41) hx hb dX7_buyer_15 (by decide) (fun c4 => ?_) (fun c4 => ?_)
    · replace h := gi_t h c4
      refine lv_iconst (v := (-1 : Int32)) hx hb dX7_buyer_41 (by decide) ?_
      obtain ⟨a1, a2⟩ := so2 h
      replace hW := gWd_nI a2 hW
      exact g_nmi a1 (hfin _ _ _ _ hW dX7_buyer_42)
    · replace h := gi_f h c4
      refine lv_iload hx hb dX7_buyer_18 (lv_at hl 4 rfl) ?_
      refine lv_iconst (v := (0 : Int32)) hx hb dX7_buyer_20 (by decide) ?_
      refine lv_sipush (v := (999 : Int32)) hx hb dX7_buyer_21 (by decide) ?_
      refine g_callSi (rest := []) K hW hl (kX7_isIn (l := l) (G := G) (ad := ad) hok x4 (0 : Int32) (999 : Int32) I J (fX7_isIn x4 (0 : Int32) (999 : Int32)) rfl) q_1171 q_1172 q_139 q_1173 nm_X7_isIn ⟨Nat.le_of_ble_eq_true rfl, Nat.le_of_ble_eq_true rfl⟩ rfl rfl (Nat.le_of_ble_eq_true rfl) ⟨Nat.zero_le _, Nat.zero_le _⟩ dX7_buyer_24 (fun z5 H locs hW => ?_)
      refine lv_if_eq (tgt := 41) hx hb dX7_buyer_27 (by decide) (fun c6 => ?_) (fun c6 => ?_)
      · replace h := gi_t h c6
        refine lv_iconst (v := (-1 : Int32)) hx hb dX7_buyer_41 (by decide) ?_
        obtain ⟨a1, a2⟩ := so2 h
        replace hW := gWd_nI a2 hW
        exact g_nmi a1 (hfin _ _ _ _ hW dX7_buyer_42)
      · replace h := gi_f h c6
        refine lv_aload_n hx hb dX7_buyer_30 rfl (lv_at hl 0 rfl) ?_
        refine g_get K hW (t := 2) (ci := 6) (k := 0) (v := .ref (ad 1)) kLM_0 rfl rfl i_X7 (by decide) q_1077 rfl (gfv2 rLM_0_0) dX7_buyer_31 ?_
        refine lv_iconst (v := (0 : Int32)) hx hb dX7_buyer_34 (by decide) ?_
        refine g_iald K hW kLM_1 in_0_1592 tn_0 dX7_buyer_35 ?_
        refine lv_bipush (v := (6 : Int32)) hx hb dX7_buyer_36 (by decide) ?_
        refine lv_icmp_ne (tgt := 43) hx hb dX7_buyer_38 (by decide) (fun c7 => ?_) (fun c7 => ?_)
        · replace h := gi_f h c7
          refine lv_aload_n hx hb dX7_buyer_43 rfl (lv_at hl 0 rfl) ?_
          refine g_get K hW (t := 2) (ci := 6) (k := 0) (v := .ref (ad 1)) kLM_0 rfl rfl i_X7 (by decide) q_1077 rfl (gfv2 rLM_0_0) dX7_buyer_44 ?_
          refine lv_iconst (v := (0 : Int32)) hx hb dX7_buyer_47 (by decide) ?_
          refine g_iald K hW kLM_1 in_0_1592 tn_0 dX7_buyer_48 ?_
          obtain ⟨u8, e9, h⟩ := lz_o h
          refine g_nmi e9 ?_
          refine lv_istore (lv' := [(5, .int u8), (0, .ref (ad 0)), (1, .int x1), (2, .int x2), (3, .int x3), (4, .int x4)]) hx hb dX7_buyer_49 hl (by decide) rfl (fun ls hl => ?_)
          refine lv_aload_n hx hb dX7_buyer_51 rfl (lv_at hl 1 rfl) ?_
          refine g_get K hW (t := 2) (ci := 6) (k := 0) (v := .ref (ad 1)) kLM_0 rfl rfl i_X7 (by decide) q_1077 rfl (gfv2 rLM_0_0) dX7_buyer_52 ?_
          refine lv_bipush (v := (39 : Int32)) hx hb dX7_buyer_55 (by decide) ?_
          refine lv_iload hx hb dX7_buyer_57 (lv_at hl 0 rfl) ?_
          refine lv_iadd hx hb dX7_buyer_59 ?_
          refine lv_iload_n hx hb dX7_buyer_60 rfl (lv_at hl 2 rfl) ?_
          obtain ⟨g10, h⟩ := gd_o h hn
          refine g_iast K hW kLM_1 g10 rfl dX7_buyer_61 (fun H locs hW => ?_)
          obtain ⟨I12, e11, h⟩ := lz_o h
          replace hW := gWd_nI e11 hW
          refine lv_aload_n hx hb dX7_buyer_62 rfl (lv_at hl 1 rfl) ?_
          refine g_get K hW (t := 2) (ci := 6) (k := 0) (v := .ref (ad 1)) kLM_0 rfl rfl i_X7 (by decide) q_1077 rfl (gfv2 rLM_0_0) dX7_buyer_63 ?_
          refine lv_bipush (v := (45 : Int32)) hx hb dX7_buyer_66 (by decide) ?_
          refine lv_iload hx hb dX7_buyer_68 (lv_at hl 0 rfl) ?_
          refine lv_iadd hx hb dX7_buyer_70 ?_
          refine lv_iload_n hx hb dX7_buyer_71 rfl (lv_at hl 3 rfl) ?_
          obtain ⟨g13, h⟩ := gd_o h hn
          refine g_iast K hW kLM_1 g13 rfl dX7_buyer_72 (fun H locs hW => ?_)
          obtain ⟨I15, e14, h⟩ := lz_o h
          replace hW := gWd_nI e14 hW
          refine lv_aload_n hx hb dX7_buyer_73 rfl (lv_at hl 1 rfl) ?_
          refine g_get K hW (t := 2) (ci := 6) (k := 0) (v := .ref (ad 1)) kLM_0 rfl rfl i_X7 (by decide) q_1077 rfl (gfv2 rLM_0_0) dX7_buyer_74 ?_
          refine lv_bipush (v := (51 : Int32)) hx hb dX7_buyer_77 (by decide) ?_
          refine lv_iload hx hb dX7_buyer_79 (lv_at hl 0 rfl) ?_
          refine lv_iadd hx hb dX7_buyer_81 ?_
          refine lv_iload_n hx hb dX7_buyer_82 rfl (lv_at hl 4 rfl) ?_
          obtain ⟨g16, h⟩ := gd_o h hn
          refine g_iast K hW kLM_1 g16 rfl dX7_buyer_83 (fun H locs hW => ?_)
          obtain ⟨I18, e17, h⟩ := lz_o h
          replace hW := gWd_nI e17 hW
          refine lv_aload_n hx hb dX7_buyer_84 rfl (lv_at hl 1 rfl) ?_
          refine g_get K hW (t := 2) (ci := 6) (k := 0) (v := .ref (ad 1)) kLM_0 rfl rfl i_X7 (by decide) q_1077 rfl (gfv2 rLM_0_0) dX7_buyer_85 ?_
          refine lv_bipush (v := (57 : Int32)) hx hb dX7_buyer_88 (by decide) ?_
          refine lv_iload hx hb dX7_buyer_90 (lv_at hl 0 rfl) ?_
          refine lv_iadd hx hb dX7_buyer_92 ?_
          refine lv_iload hx hb dX7_buyer_93 (lv_at hl 5 rfl) ?_
          obtain ⟨g19, h⟩ := gd_o h hn
          refine g_iast K hW kLM_1 g19 rfl dX7_buyer_95 (fun H locs hW => ?_)
          obtain ⟨I21, e20, h⟩ := lz_o h
          replace hW := gWd_nI e20 hW
          refine lv_aload_n hx hb dX7_buyer_96 rfl (lv_at hl 1 rfl) ?_
          refine g_get K hW (t := 2) (ci := 6) (k := 0) (v := .ref (ad 1)) kLM_0 rfl rfl i_X7 (by decide) q_1077 rfl (gfv2 rLM_0_0) dX7_buyer_97 ?_
          refine lv_bipush (v := (23 : Int32)) hx hb dX7_buyer_100 (by decide) ?_
          refine lv_iload hx hb dX7_buyer_102 (lv_at hl 0 rfl) ?_
          refine lv_iadd hx hb dX7_buyer_104 ?_
          refine lv_iload hx hb dX7_buyer_105 (lv_at hl 5 rfl) ?_
          obtain ⟨g22, h⟩ := gd_o h hn
          refine g_iast K hW kLM_1 g22 rfl dX7_buyer_107 (fun H locs hW => ?_)
          obtain ⟨I24, e23, h⟩ := lz_o h
          replace hW := gWd_nI e23 hW
          refine lv_aload_n hx hb dX7_buyer_108 rfl (lv_at hl 1 rfl) ?_
          refine g_get K hW (t := 2) (ci := 6) (k := 0) (v := .ref (ad 1)) kLM_0 rfl rfl i_X7 (by decide) q_1077 rfl (gfv2 rLM_0_0) dX7_buyer_109 ?_
          refine lv_iconst (v := (0 : Int32)) hx hb dX7_buyer_112 (by decide) ?_
          refine lv_dup2_11 hx hb dX7_buyer_113 rfl rfl ?_
          refine g_iald K hW kLM_1 in_0_1592 tn_0 dX7_buyer_114 ?_
          refine lv_iconst (v := (1 : Int32)) hx hb dX7_buyer_115 (by decide) ?_
          refine lv_iadd hx hb dX7_buyer_116 ?_
          refine g_iast K hW kLM_1 in_0_1592 tn_0 dX7_buyer_117 (fun H locs hW => ?_)
          obtain ⟨I26, e25, h⟩ := lz_o h
          replace hW := gWd_nI e25 hW
          refine lv_iload hx hb dX7_buyer_118 (lv_at hl 0 rfl) ?_
          obtain ⟨a1, a2⟩ := so2 h
          replace hW := gWd_nI a2 hW
          exact g_nmi a1 (hfin _ _ _ _ hW dX7_buyer_120)
        · replace h := gi_t h c7
          refine lv_iconst (v := (-1 : Int32)) hx hb dX7_buyer_41 (by decide) ?_
          obtain ⟨a1, a2⟩ := so2 h
          replace hW := gWd_nI a2 hW
          exact g_nmi a1 (hfin _ _ _ _ hW dX7_buyer_42)
theorem kLM_4 : gAt LM 4 1 300 := ⟨by decide, by decide +kernel⟩
theorem rLM_0_3 : LM.2.2 0 3 = some 4 := by decide +kernel
noncomputable def fX7_four_3b  (rec : Int32 → Int32 → gI → Option ((gI))) (u1 : Int32) (u2 : Int32) (I : gI) : Option ((gI)) :=
  gi (u2 < 0)
 (some I)
 (gd (vp_in (I 0 4) 300) (lz (wI I 4 ((I 0 4)).toNatClampNeg ((jshr u1 u2) &&& (255 : Int32))) (fun (I7 : gI) => lz (wI I7 0 4 ((I7 0 4) + (1 : Int32))) (fun (I8 : gI) => lz ((u2 + (-8 : Int32))) (fun (u10 : Int32) => rec u1 u10 I8)))))
noncomputable def fX7_four_3  : Nat → Int32 → Int32 → gI → Option ((gI))
  | 0 => fun _ _ _ => none
  | n + 1 => fX7_four_3b  (fX7_four_3  n)
set_option maxHeartbeats 4000000 in
set_option maxRecDepth 100000 in
theorem tX7_four_3 {l : Launch} {G : gG} {ad : Nat → Nat} {p : Program} {e : Env} {s : State} {m : MethodId} {args : Array Value} {below : List Frame} {meth : Method} {c : Code} {Q : State → Prop} (hok : gInj LM ad) (K : gCx G (gA LM ad) p s m args c cX7_four 3 RX7)  : ∀ (n : Nat) (u1 : Int32) (u2 : Int32) (I : gI) (J : gJ) (out : Option ((gI))), fX7_four_3  n u1 u2 I = out → out ≠ none → ∀ (H : Heap) (locs : List Loc), gWd G LM ad (gA LM ad) s.heap I J H locs → ∀ (ls : Array Slot), lv_has ls 3 [(0, .ref (ad 0)), (1, .int u1), (2, .int u2)] → (∀ (I3 : gI), some I3 = out → ∀ (H : Heap) (locs : List Loc), gWd G LM ad (gA LM ad) s.heap I3 J H locs → ∀ (ls : Array Slot), lv_has ls 3 [] → W p l e (gRm 1) s m args below meth c H locs 0 0 Q (F0 m 39 ls [])) → W p l e (gRm 1) s m args below meth c H locs 0 0 Q (F0 m 3 ls []) := by
  have hx := K.1; have hb := K.2.1; have hown := K.2.2.2.1; have hts := K.2.2.2.2.1
  intro n
  induction n with
  | zero => intro u1 u2 I J out h hn; exact absurd h.symm hn
  | succ n ih =>
    intro u1 u2 I J out h hn H locs hW ls hl hx1
    replace h : fX7_four_3b  (fX7_four_3  n) u1 u2 I = out := h
    unfold fX7_four_3b at h
    refine lv_iload_n hx hb dX7_four_3 rfl (lv_at hl 2 rfl) ?_
    refine lv_if_lt (tgt := 39) hx hb dX7_four_4 (by decide) (fun c4 => ?_) (fun c4 => ?_)
    · replace h := gi_t h c4
      exact hx1 I h _ _ hW _ (lv_sub hl [] rfl)
    · replace h := gi_f h c4
      refine lv_aload_n hx hb dX7_four_7 rfl (lv_at hl 0 rfl) ?_
      refine g_get K hW (t := 2) (ci := 6) (k := 3) (v := .ref (ad 4)) kLM_0 rfl rfl i_X7 (by decide) q_1080 rfl (gfv2 rLM_0_3) dX7_four_8 ?_
      refine lv_aload_n hx hb dX7_four_11 rfl (lv_at hl 0 rfl) ?_
      refine g_get K hW (t := 0) (ci := 6) (k := 4) (v := .int (I 0 4)) kLM_0 rfl rfl i_X7 (by decide) q_1081 rfl rfl dX7_four_12 ?_
      refine lv_iload_n hx hb dX7_four_15 rfl (lv_at hl 1 rfl) ?_
      refine lv_iload_n hx hb dX7_four_16 rfl (lv_at hl 2 rfl) ?_
      refine g_ishr hx hb dX7_four_17 ?_
      refine lv_sipush (v := (255 : Int32)) hx hb dX7_four_18 (by decide) ?_
      refine lv_iand hx hb dX7_four_21 ?_
      obtain ⟨g5, h⟩ := gd_o h hn
      refine g_iast K hW kLM_4 g5 rfl dX7_four_22 (fun H locs hW => ?_)
      obtain ⟨I7, e6, h⟩ := lz_o h
      replace hW := gWd_nI e6 hW
      refine lv_aload_n hx hb dX7_four_23 rfl (lv_at hl 0 rfl) ?_
      refine lv_dup hx hb dX7_four_24 rfl ?_
      refine g_get K hW (t := 0) (ci := 6) (k := 4) (v := .int (I7 0 4)) kLM_0 rfl rfl i_X7 (by decide) q_1081 rfl rfl dX7_four_25 ?_
      refine lv_iconst (v := (1 : Int32)) hx hb dX7_four_28 (by decide) ?_
      refine lv_iadd hx hb dX7_four_29 ?_
      refine g_putI K hW (ci := 6) (k := 4) kLM_0 rfl rfl i_X7 tyX7_ok nmX7 (by decide) q_1081 rfl rfl rfl rfl dX7_four_30 (fun H locs hW => ?_)
      obtain ⟨I8, e9, h⟩ := lz_o h
      replace hW := gWd_nI e9 hW
      obtain ⟨u10, e11, h⟩ := lz_o h
      refine lv_iinc (v := u10) (lv' := [(2, .int u10), (0, .ref (ad 0)), (1, .int u1)]) hx hb dX7_four_33 hl (k := 2) rfl (by rw [e11]; rfl) (by decide) rfl (fun ls hl => ?_)
      refine lv_goto (tgt := 3) hx hb dX7_four_36 (by decide) ?_
      exact ih u1 u10 I8 J _ h hn _ _ hW _ (lv_sub hl [1, 2, 0] rfl) hx1
noncomputable def fX7_four  (x1 : Int32) (I : gI) : Option (gI) :=
  bd (fX7_four_3 FU x1 (24 : Int32) I) (fun (I14 : gI) => some I14)
set_option maxHeartbeats 4000000 in
set_option maxRecDepth 100000 in
theorem kX7_four {l : Launch} {G : gG} {ad : Nat → Nat} (hok : gInj LM ad)    (x1 : Int32) (I : gI) (J : gJ) (I' : gI) (h : fX7_four x1 I = some I') : gMv l yX7_four cX7_four 3 none 1 G LM ad [.ref (ad 0), .int x1] I J I' J := by
  refine gMv_of (lst := [(0, .ref (ad 0)), (1, .int x1)]) (by decide) hok (Nat.le_of_ble_eq_true rfl) rfl ?_
  intro p e s m args below meth c Q ls K hW hl hfin
  have hn : (some I' : Option (gI)) ≠ none := Option.some_ne_none _
  have hx := K.1; have hb := K.2.1; have hown := K.2.2.2.1; have hts := K.2.2.2.2.1
  unfold fX7_four at h
  refine lv_bipush (v := (24 : Int32)) hx hb dX7_four_0 (by decide) ?_
  refine lv_istore_n (lv' := [(2, .int (24 : Int32)), (0, .ref (ad 0)), (1, .int x1)]) hx hb dX7_four_2 rfl hl (by decide) rfl (fun ls hl => ?_)
  obtain ⟨r12, e13, h⟩ := bd_o h hn
  refine tX7_four_3 hok K FU x1 (24 : Int32) I J (some r12) e13 (Option.some_ne_none _) _ _ hW _ (lv_sub hl [1, 2, 0] rfl) ?_
  · intro I14 q15 H locs hW ls hl
    replace q15 := Option.some.inj q15
    subst q15
    obtain a1 := so1 h
    replace hW := gWd_nI a1 hW
    exact hfin _ _ _ _ hW dX7_four_39
theorem nm_X7_four : gNm yX7_four 1 := by decide +kernel
noncomputable def fX7_feed  (x1 : Int32) (x2 : Int32) (x3 : Int32) (x4 : Int32) (x5 : Int32) (I : gI) : Option (Int32 × gI) :=
  gi (((I 0 4) + (20 : Int32)) ≤ (300 : Int32))
 (bd (fX7_four x1 I) (fun (I2 : gI) => bd (fX7_four x2 I2) (fun (I5 : gI) => bd (fX7_four x3 I5) (fun (I8 : gI) => bd (fX7_four x4 I8) (fun (I11 : gI) => bd (fX7_four x5 I11) (fun (I14 : gI) => some ((I14 0 4), I14)))))))
 (some ((-1 : Int32), I))
set_option maxHeartbeats 4000000 in
set_option maxRecDepth 100000 in
theorem kX7_feed {l : Launch} {G : gG} {ad : Nat → Nat} (hok : gInj LM ad)    (x1 : Int32) (x2 : Int32) (x3 : Int32) (x4 : Int32) (x5 : Int32) (I : gI) (J : gJ) (r : Int32) (I' : gI) (h : fX7_feed x1 x2 x3 x4 x5 I = some (r, I')) : gMi l yX7_feed cX7_feed 6 (some .int) 2 G LM ad [.ref (ad 0), .int x1, .int x2, .int x3, .int x4, .int x5] I J r True I' J := by
  refine gMi_of (lst := [(0, .ref (ad 0)), (1, .int x1), (2, .int x2), (3, .int x3), (4, .int x4), (5, .int x5)]) (by decide) hok (Nat.le_of_ble_eq_true rfl) rfl ?_
  intro p e s m args below meth c Q ls K hW hl hfin
  have hn : (some (r, I') : Option (Int32 × gI)) ≠ none := Option.some_ne_none _
  have hx := K.1; have hb := K.2.1; have hown := K.2.2.2.1; have hts := K.2.2.2.2.1
  unfold fX7_feed at h
  refine lv_aload_n hx hb dX7_feed_0 rfl (lv_at hl 0 rfl) ?_
  refine g_get K hW (t := 0) (ci := 6) (k := 4) (v := .int (I 0 4)) kLM_0 rfl rfl i_X7 (by decide) q_1081 rfl rfl dX7_feed_1 ?_
  refine lv_bipush (v := (20 : Int32)) hx hb dX7_feed_4 (by decide) ?_
  refine lv_iadd hx hb dX7_feed_6 ?_
  refine lv_sipush (v := (300 : Int32)) hx hb dX7_feed_7 (by decide) ?_
  refine lv_icmp_le (tgt := 15) hx hb dX7_feed_10 (by decide) (fun c1 => ?_) (fun c1 => ?_)
  · replace h := gi_t h c1
    refine lv_aload_n hx hb dX7_feed_15 rfl (lv_at hl 0 rfl) ?_
    refine lv_iload_n hx hb dX7_feed_16 rfl (lv_at hl 1 rfl) ?_
    obtain ⟨I2, e3, h⟩ := bd_o h hn
    refine g_callVv (rest := []) K hW hl (kX7_four (l := l) (G := G) (ad := ad) hok x1 I J I2 e3) kLM_0 rfl (gG_V q_1185 q_1187 q_52 q_139 q_1188) nm_X7_four ⟨Nat.le_of_ble_eq_true rfl, Nat.le_of_ble_eq_true rfl⟩ rfl rfl (Nat.le_of_ble_eq_true rfl) ⟨Nat.zero_le _, Nat.zero_le _⟩ dX7_feed_17 (fun H locs hW => ?_)
    refine lv_aload_n hx hb dX7_feed_20 rfl (lv_at hl 0 rfl) ?_
    refine lv_iload_n hx hb dX7_feed_21 rfl (lv_at hl 2 rfl) ?_
    obtain ⟨I5, e6, h⟩ := bd_o h hn
    refine g_callVv (rest := []) K hW hl (kX7_four (l := l) (G := G) (ad := ad) hok x2 I2 J I5 e6) kLM_0 rfl (gG_V q_1185 q_1187 q_52 q_139 q_1188) nm_X7_four ⟨Nat.le_of_ble_eq_true rfl, Nat.le_of_ble_eq_true rfl⟩ rfl rfl (Nat.le_of_ble_eq_true rfl) ⟨Nat.zero_le _, Nat.zero_le _⟩ dX7_feed_22 (fun H locs hW => ?_)
    refine lv_aload_n hx hb dX7_feed_25 rfl (lv_at hl 0 rfl) ?_
    refine lv_iload_n hx hb dX7_feed_26 rfl (lv_at hl 3 rfl) ?_
    obtain ⟨I8, e9, h⟩ := bd_o h hn
    refine g_callVv (rest := []) K hW hl (kX7_four (l := l) (G := G) (ad := ad) hok x3 I5 J I8 e9) kLM_0 rfl (gG_V q_1185 q_1187 q_52 q_139 q_1188) nm_X7_four ⟨Nat.le_of_ble_eq_true rfl, Nat.le_of_ble_eq_true rfl⟩ rfl rfl (Nat.le_of_ble_eq_true rfl) ⟨Nat.zero_le _, Nat.zero_le _⟩ dX7_feed_27 (fun H locs hW => ?_)
    refine lv_aload_n hx hb dX7_feed_30 rfl (lv_at hl 0 rfl) ?_
    refine lv_iload hx hb dX7_feed_31 (lv_at hl 4 rfl) ?_
    obtain ⟨I11, e12, h⟩ := bd_o h hn
    refine g_callVv (rest := []) K hW hl (kX7_four (l := l) (G := G) (ad := ad) hok x4 I8 J I11 e12) kLM_0 rfl (gG_V q_1185 q_1187 q_52 q_139 q_1188) nm_X7_four ⟨Nat.le_of_ble_eq_true rfl, Nat.le_of_ble_eq_true rfl⟩ rfl rfl (Nat.le_of_ble_eq_true rfl) ⟨Nat.zero_le _, Nat.zero_le _⟩ dX7_feed_33 (fun H locs hW => ?_)
    refine lv_aload_n hx hb dX7_feed_36 rfl (lv_at hl 0 rfl) ?_
    refine lv_iload hx hb dX7_feed_37 (lv_at hl 5 rfl) ?_
    obtain ⟨I14, e15, h⟩ := bd_o h hn
    refine g_callVv (rest := []) K hW hl (kX7_four (l := l) (G := G) (ad := ad) hok x5 I11 J I14 e15) kLM_0 rfl (gG_V q_1185 q_1187 q_52 q_139 q_1188) nm_X7_four ⟨Nat.le_of_ble_eq_true rfl, Nat.le_of_ble_eq_true rfl⟩ rfl rfl (Nat.le_of_ble_eq_true rfl) ⟨Nat.zero_le _, Nat.zero_le _⟩ dX7_feed_39 (fun H locs hW => ?_)
    refine lv_aload_n hx hb dX7_feed_42 rfl (lv_at hl 0 rfl) ?_
    refine g_get K hW (t := 0) (ci := 6) (k := 4) (v := .int (I14 0 4)) kLM_0 rfl rfl i_X7 (by decide) q_1081 rfl rfl dX7_feed_43 ?_
    obtain ⟨a1, a2⟩ := so2 h
    replace hW := gWd_nI a2 hW
    exact g_nmi a1 (hfin _ _ _ _ hW dX7_feed_46)
  · replace h := gi_f h c1
    refine lv_iconst (v := (-1 : Int32)) hx hb dX7_feed_13 (by decide) ?_
    obtain ⟨a1, a2⟩ := so2 h
    replace hW := gWd_nI a2 hW
    exact g_nmi a1 (hfin _ _ _ _ hW dX7_feed_14)
noncomputable def fX7_end  (x1 : Int32) (I : gI) : Int32 × gI :=
  gi ((fX7_isIn x1 (0 : Int32) (I 0 4)) = 0)
 (((-1 : Int32), I))
 (lz (wI I 0 4 x1) (fun (I3 : gI) => (x1, I3)))
set_option maxHeartbeats 4000000 in
set_option maxRecDepth 100000 in
theorem kX7_end {l : Launch} {G : gG} {ad : Nat → Nat} (hok : gInj LM ad)    (x1 : Int32) (I : gI) (J : gJ) (r : Int32) (I' : gI) (h : fX7_end x1 I = (r, I')) : gMi l yX7_end cX7_end 2 (some .int) 2 G LM ad [.ref (ad 0), .int x1] I J r True I' J := by
  refine gMi_of (lst := [(0, .ref (ad 0)), (1, .int x1)]) (by decide) hok (Nat.le_of_ble_eq_true rfl) rfl ?_
  intro p e s m args below meth c Q ls K hW hl hfin
  have hx := K.1; have hb := K.2.1; have hown := K.2.2.2.1; have hts := K.2.2.2.2.1
  unfold fX7_end at h
  refine lv_iload_n hx hb dX7_end_0 rfl (lv_at hl 1 rfl) ?_
  refine lv_iconst (v := (0 : Int32)) hx hb dX7_end_1 (by decide) ?_
  refine lv_aload_n hx hb dX7_end_2 rfl (lv_at hl 0 rfl) ?_
  refine g_get K hW (t := 0) (ci := 6) (k := 4) (v := .int (I 0 4)) kLM_0 rfl rfl i_X7 (by decide) q_1081 rfl rfl dX7_end_3 ?_
  refine g_callSi (rest := []) K hW hl (kX7_isIn (l := l) (G := G) (ad := ad) hok x1 (0 : Int32) (I 0 4) I J (fX7_isIn x1 (0 : Int32) (I 0 4)) rfl) q_1171 q_1172 q_139 q_1173 nm_X7_isIn ⟨Nat.le_of_ble_eq_true rfl, Nat.le_of_ble_eq_true rfl⟩ rfl rfl (Nat.le_of_ble_eq_true rfl) ⟨Nat.zero_le _, Nat.zero_le _⟩ dX7_end_6 (fun z1 H locs hW => ?_)
  refine lv_if_ne (tgt := 14) hx hb dX7_end_9 (by decide) (fun c2 => ?_) (fun c2 => ?_)
  · replace h := gi_f h c2
    refine lv_aload_n hx hb dX7_end_14 rfl (lv_at hl 0 rfl) ?_
    refine lv_iload_n hx hb dX7_end_15 rfl (lv_at hl 1 rfl) ?_
    refine g_putI K hW (ci := 6) (k := 4) kLM_0 rfl rfl i_X7 tyX7_ok nmX7 (by decide) q_1081 rfl rfl rfl rfl dX7_end_16 (fun H locs hW => ?_)
    obtain ⟨I3, e4, h⟩ := lz_o h
    replace hW := gWd_nI e4 hW
    refine lv_iload_n hx hb dX7_end_19 rfl (lv_at hl 1 rfl) ?_
    obtain ⟨a1, a2⟩ := to2 h
    replace hW := gWd_nI a2 hW
    exact g_nmi a1 (hfin _ _ _ _ hW dX7_end_20)
  · replace h := gi_t h c2
    refine lv_iconst (v := (-1 : Int32)) hx hb dX7_end_12 (by decide) ?_
    obtain ⟨a1, a2⟩ := to2 h
    replace hW := gWd_nI a2 hW
    exact g_nmi a1 (hfin _ _ _ _ hW dX7_end_13)
noncomputable def fX7_byteAt  (x1 : Int32) (I : gI) : Option (Int32) :=
  gi ((I 0 4) ≤ x1)
 (some (-1 : Int32))
 (gd (vp_in x1 300) (some (I 4 (x1).toNatClampNeg)))
set_option maxHeartbeats 4000000 in
set_option maxRecDepth 100000 in
theorem kX7_byteAt {l : Launch} {G : gG} {ad : Nat → Nat} (hok : gInj LM ad)    (x1 : Int32) (I : gI) (J : gJ) (r : Int32) (h : fX7_byteAt x1 I = some r) : gMi l yX7_byteAt cX7_byteAt 2 (some .int) 1 G LM ad [.ref (ad 0), .int x1] I J r True I J := by
  refine gMi_of (lst := [(0, .ref (ad 0)), (1, .int x1)]) (by decide) hok (Nat.le_of_ble_eq_true rfl) rfl ?_
  intro p e s m args below meth c Q ls K hW hl hfin
  have hn : (some r : Option (Int32)) ≠ none := Option.some_ne_none _
  have hx := K.1; have hb := K.2.1; have hown := K.2.2.2.1; have hts := K.2.2.2.2.1
  unfold fX7_byteAt at h
  refine lv_iload_n hx hb dX7_byteAt_0 rfl (lv_at hl 1 rfl) ?_
  refine lv_aload_n hx hb dX7_byteAt_1 rfl (lv_at hl 0 rfl) ?_
  refine g_get K hW (t := 0) (ci := 6) (k := 4) (v := .int (I 0 4)) kLM_0 rfl rfl i_X7 (by decide) q_1081 rfl rfl dX7_byteAt_2 ?_
  refine lv_icmp_ge (tgt := 17) hx hb dX7_byteAt_5 (by decide) (fun c1 => ?_) (fun c1 => ?_)
  · replace h := gi_t h c1
    refine lv_iconst (v := (-1 : Int32)) hx hb dX7_byteAt_17 (by decide) ?_
    obtain a1 := so1 h
    exact g_nmi a1 (hfin _ _ _ _ hW dX7_byteAt_18)
  · replace h := gi_f h c1
    refine lv_aload_n hx hb dX7_byteAt_8 rfl (lv_at hl 0 rfl) ?_
    refine g_get K hW (t := 2) (ci := 6) (k := 3) (v := .ref (ad 4)) kLM_0 rfl rfl i_X7 (by decide) q_1080 rfl (gfv2 rLM_0_3) dX7_byteAt_9 ?_
    refine lv_iload_n hx hb dX7_byteAt_12 rfl (lv_at hl 1 rfl) ?_
    obtain ⟨g2, h⟩ := gd_o h hn
    refine g_iald K hW kLM_4 g2 rfl dX7_byteAt_13 ?_
    refine lv_goto (tgt := 18) hx hb dX7_byteAt_14 (by decide) ?_
    obtain a1 := so1 h
    exact g_nmi a1 (hfin _ _ _ _ hW dX7_byteAt_18)
noncomputable def fX7_isLetterByte  (x0 : Int32)  : Int32 :=
  lz ((1 : Int32)) (fun j1 => lz (gi (x0 < (65 : Int32))
 ((0 : Int32))
 (gi ((90 : Int32) < x0)
 ((0 : Int32))
 (j1))) (fun j4 => gi (x0 < (97 : Int32))
 (j4)
 (gi (x0 ≤ (122 : Int32))
 (j1)
 (j4))))
set_option maxHeartbeats 4000000 in
set_option maxRecDepth 100000 in
theorem kX7_isLetterByte {l : Launch} {G : gG} {ad : Nat → Nat} (hok : gInj LM ad)    (x0 : Int32) (I : gI) (J : gJ) (r : Int32) (h : fX7_isLetterByte x0 = r) : gMi l yX7_isLetterByte cX7_isLetterByte 1 (some .boolean) 1 G LM ad [.int x0] I J r (r = 0 ∨ r = 1) I J := by
  refine gMz_of (lst := [(0, .int x0)]) (by decide) hok (Nat.le_of_ble_eq_true rfl) rfl ?_
  intro p e s m args below meth c Q ls K hW hl hfin
  have hx := K.1; have hb := K.2.1; have hown := K.2.2.2.1; have hts := K.2.2.2.2.1
  unfold fX7_isLetterByte at h
  refine lv_iload_n hx hb dX7_isLetterByte_0 rfl (lv_at hl 0 rfl) ?_
  refine lv_bipush (v := (97 : Int32)) hx hb dX7_isLetterByte_1 (by decide) ?_
  obtain ⟨j1, e2, h⟩ := lz_o h
  have hj3 : j1 = (r) → ∀ (H : Heap) (locs : List Loc), gWd G LM ad (gA LM ad) s.heap I J H locs → ∀ (ls : Array Slot), lv_has ls 1 [] → W p l e (gRm 1) s m args below meth c H locs 0 0 Q (F0 m 24 ls []) := by
    intro h H locs hW ls hl
    replace h := jn0 e2 h
    refine lv_iconst (v := (1 : Int32)) hx hb dX7_isLetterByte_24 (by decide) ?_
    refine lv_goto (tgt := 29) hx hb dX7_isLetterByte_25 (by decide) ?_
    obtain a1 := h.symm
    exact g_nmi a1 (hfin _ _ _ _ (a1 ▸ (Or.inr rfl)) hW dX7_isLetterByte_29)
  obtain ⟨j4, e5, h⟩ := lz_o h
  have hj6 : j4 = (r) → ∀ (H : Heap) (locs : List Loc), gWd G LM ad (gA LM ad) s.heap I J H locs → ∀ (ls : Array Slot), lv_has ls 1 [(0, .int x0)] → W p l e (gRm 1) s m args below meth c H locs 0 0 Q (F0 m 12 ls []) := by
    intro h H locs hW ls hl
    replace h := jn0 e5 h
    refine lv_iload_n hx hb dX7_isLetterByte_12 rfl (lv_at hl 0 rfl) ?_
    refine lv_bipush (v := (65 : Int32)) hx hb dX7_isLetterByte_13 (by decide) ?_
    refine lv_icmp_lt (tgt := 28) hx hb dX7_isLetterByte_15 (by decide) (fun c7 => ?_) (fun c7 => ?_)
    · replace h := gi_t h c7
      refine lv_iconst (v := (0 : Int32)) hx hb dX7_isLetterByte_28 (by decide) ?_
      obtain a1 := h.symm
      exact g_nmi a1 (hfin _ _ _ _ (a1 ▸ (Or.inl rfl)) hW dX7_isLetterByte_29)
    · replace h := gi_f h c7
      refine lv_iload_n hx hb dX7_isLetterByte_18 rfl (lv_at hl 0 rfl) ?_
      refine lv_bipush (v := (90 : Int32)) hx hb dX7_isLetterByte_19 (by decide) ?_
      refine lv_icmp_gt (tgt := 28) hx hb dX7_isLetterByte_21 (by decide) (fun c8 => ?_) (fun c8 => ?_)
      · replace h := gi_t h c8
        refine lv_iconst (v := (0 : Int32)) hx hb dX7_isLetterByte_28 (by decide) ?_
        obtain a1 := h.symm
        exact g_nmi a1 (hfin _ _ _ _ (a1 ▸ (Or.inl rfl)) hW dX7_isLetterByte_29)
      · replace h := gi_f h c8
        exact hj3 h _ _ hW _ (lv_sub hl [] rfl)
  refine lv_icmp_lt (tgt := 12) hx hb dX7_isLetterByte_3 (by decide) (fun c9 => ?_) (fun c9 => ?_)
  · replace h := gi_t h c9
    exact hj6 h _ _ hW _ (lv_sub hl [0] rfl)
  · replace h := gi_f h c9
    refine lv_iload_n hx hb dX7_isLetterByte_6 rfl (lv_at hl 0 rfl) ?_
    refine lv_bipush (v := (122 : Int32)) hx hb dX7_isLetterByte_7 (by decide) ?_
    refine lv_icmp_le (tgt := 24) hx hb dX7_isLetterByte_9 (by decide) (fun c10 => ?_) (fun c10 => ?_)
    · replace h := gi_t h c10
      exact hj3 h _ _ hW _ (lv_sub hl [] rfl)
    · replace h := gi_f h c10
      exact hj6 h _ _ hW _ (lv_sub hl [0] rfl)
noncomputable def fX7_isFigure  (x0 : Int32)  : Int32 :=
  gi (x0 < (48 : Int32))
 ((0 : Int32))
 (gi ((57 : Int32) < x0)
 ((0 : Int32))
 ((1 : Int32)))
set_option maxHeartbeats 4000000 in
set_option maxRecDepth 100000 in
theorem kX7_isFigure {l : Launch} {G : gG} {ad : Nat → Nat} (hok : gInj LM ad)    (x0 : Int32) (I : gI) (J : gJ) (r : Int32) (h : fX7_isFigure x0 = r) : gMi l yX7_isFigure cX7_isFigure 1 (some .boolean) 1 G LM ad [.int x0] I J r (r = 0 ∨ r = 1) I J := by
  refine gMz_of (lst := [(0, .int x0)]) (by decide) hok (Nat.le_of_ble_eq_true rfl) rfl ?_
  intro p e s m args below meth c Q ls K hW hl hfin
  have hx := K.1; have hb := K.2.1; have hown := K.2.2.2.1; have hts := K.2.2.2.2.1
  unfold fX7_isFigure at h
  refine lv_iload_n hx hb dX7_isFigure_0 rfl (lv_at hl 0 rfl) ?_
  refine lv_bipush (v := (48 : Int32)) hx hb dX7_isFigure_1 (by decide) ?_
  refine lv_icmp_lt (tgt := 16) hx hb dX7_isFigure_3 (by decide) (fun c1 => ?_) (fun c1 => ?_)
  · replace h := gi_t h c1
    refine lv_iconst (v := (0 : Int32)) hx hb dX7_isFigure_16 (by decide) ?_
    obtain a1 := h.symm
    exact g_nmi a1 (hfin _ _ _ _ (a1 ▸ (Or.inl rfl)) hW dX7_isFigure_17)
  · replace h := gi_f h c1
    refine lv_iload_n hx hb dX7_isFigure_6 rfl (lv_at hl 0 rfl) ?_
    refine lv_bipush (v := (57 : Int32)) hx hb dX7_isFigure_7 (by decide) ?_
    refine lv_icmp_gt (tgt := 16) hx hb dX7_isFigure_9 (by decide) (fun c2 => ?_) (fun c2 => ?_)
    · replace h := gi_t h c2
      refine lv_iconst (v := (0 : Int32)) hx hb dX7_isFigure_16 (by decide) ?_
      obtain a1 := h.symm
      exact g_nmi a1 (hfin _ _ _ _ (a1 ▸ (Or.inl rfl)) hW dX7_isFigure_17)
    · replace h := gi_f h c2
      refine lv_iconst (v := (1 : Int32)) hx hb dX7_isFigure_12 (by decide) ?_
      refine lv_goto (tgt := 17) hx hb dX7_isFigure_13 (by decide) ?_
      obtain a1 := h.symm
      exact g_nmi a1 (hfin _ _ _ _ (a1 ▸ (Or.inr rfl)) hW dX7_isFigure_17)
noncomputable def fX7_isSign  (x0 : Int32)  : Int32 :=
  gi (x0 = (35 : Int32))
 ((1 : Int32))
 (gi (x0 = (36 : Int32))
 ((0 : Int32))
 (gi (x0 = (37 : Int32))
 ((0 : Int32))
 (gi (x0 = (38 : Int32))
 ((0 : Int32))
 (gi (x0 = (39 : Int32))
 ((0 : Int32))
 (gi (x0 = (40 : Int32))
 ((1 : Int32))
 (gi (x0 = (41 : Int32))
 ((1 : Int32))
 (gi (x0 = (42 : Int32))
 ((1 : Int32))
 (gi (x0 = (43 : Int32))
 ((1 : Int32))
 (gi (x0 = (44 : Int32))
 ((0 : Int32))
 (gi (x0 = (45 : Int32))
 ((1 : Int32))
 (gi (x0 = (46 : Int32))
 ((0 : Int32))
 (gi (x0 = (47 : Int32))
 ((1 : Int32))
 (gi (x0 = (48 : Int32))
 ((0 : Int32))
 (gi (x0 = (49 : Int32))
 ((0 : Int32))
 (gi (x0 = (50 : Int32))
 ((0 : Int32))
 (gi (x0 = (51 : Int32))
 ((0 : Int32))
 (gi (x0 = (52 : Int32))
 ((0 : Int32))
 (gi (x0 = (53 : Int32))
 ((0 : Int32))
 (gi (x0 = (54 : Int32))
 ((0 : Int32))
 (gi (x0 = (55 : Int32))
 ((0 : Int32))
 (gi (x0 = (56 : Int32))
 ((0 : Int32))
 (gi (x0 = (57 : Int32))
 ((0 : Int32))
 (gi (x0 = (58 : Int32))
 ((1 : Int32))
 (gi (x0 = (59 : Int32))
 ((1 : Int32))
 (gi (x0 = (60 : Int32))
 ((1 : Int32))
 (gi (x0 = (61 : Int32))
 ((1 : Int32))
 (gi (x0 = (62 : Int32))
 ((1 : Int32))
 ((0 : Int32)))))))))))))))))))))))))))))
set_option maxHeartbeats 4000000 in
set_option maxRecDepth 100000 in
theorem kX7_isSign {l : Launch} {G : gG} {ad : Nat → Nat} (hok : gInj LM ad)    (x0 : Int32) (I : gI) (J : gJ) (r : Int32) (h : fX7_isSign x0 = r) : gMi l yX7_isSign cX7_isSign 1 (some .boolean) 1 G LM ad [.int x0] I J r (r = 0 ∨ r = 1) I J := by
  refine gMz_of (lst := [(0, .int x0)]) (by decide) hok (Nat.le_of_ble_eq_true rfl) rfl ?_
  intro p e s m args below meth c Q ls K hW hl hfin
  have hx := K.1; have hb := K.2.1; have hown := K.2.2.2.1; have hts := K.2.2.2.2.1
  unfold fX7_isSign at h
  refine lv_iload_n hx hb dX7_isSign_0 rfl (lv_at hl 0 rfl) ?_
  rcases Classical.em (x0 = (35 : Int32)) with c1 | c1
  · replace h := gi_t h c1
    refine g_tabIn (k := (35 : Int32)) (tgt := 128) (off := 127) hx hb c1 dX7_isSign_1 (by decide) (by decide) (by decide) (by decide) ?_
    refine lv_iconst (v := (1 : Int32)) hx hb dX7_isSign_128 (by decide) ?_
    obtain a1 := h.symm
    exact g_nmi a1 (hfin _ _ _ _ (a1 ▸ (Or.inr rfl)) hW dX7_isSign_129)
  · replace h := gi_f h c1
    rcases Classical.em (x0 = (36 : Int32)) with c2 | c2
    · replace h := gi_t h c2
      refine g_tabIn (k := (36 : Int32)) (tgt := 130) (off := 129) hx hb c2 dX7_isSign_1 (by decide) (by decide) (by decide) (by decide) ?_
      refine lv_iconst (v := (0 : Int32)) hx hb dX7_isSign_130 (by decide) ?_
      obtain a1 := h.symm
      exact g_nmi a1 (hfin _ _ _ _ (a1 ▸ (Or.inl rfl)) hW dX7_isSign_131)
    · replace h := gi_f h c2
      rcases Classical.em (x0 = (37 : Int32)) with c3 | c3
      · replace h := gi_t h c3
        refine g_tabIn (k := (37 : Int32)) (tgt := 130) (off := 129) hx hb c3 dX7_isSign_1 (by decide) (by decide) (by decide) (by decide) ?_
        refine lv_iconst (v := (0 : Int32)) hx hb dX7_isSign_130 (by decide) ?_
        obtain a1 := h.symm
        exact g_nmi a1 (hfin _ _ _ _ (a1 ▸ (Or.inl rfl)) hW dX7_isSign_131)
      · replace h := gi_f h c3
        rcases Classical.em (x0 = (38 : Int32)) with c4 | c4
        · replace h := gi_t h c4
          refine g_tabIn (k := (38 : Int32)) (tgt := 130) (off := 129) hx hb c4 dX7_isSign_1 (by decide) (by decide) (by decide) (by decide) ?_
          refine lv_iconst (v := (0 : Int32)) hx hb dX7_isSign_130 (by decide) ?_
          obtain a1 := h.symm
          exact g_nmi a1 (hfin _ _ _ _ (a1 ▸ (Or.inl rfl)) hW dX7_isSign_131)
        · replace h := gi_f h c4
          rcases Classical.em (x0 = (39 : Int32)) with c5 | c5
          · replace h := gi_t h c5
            refine g_tabIn (k := (39 : Int32)) (tgt := 130) (off := 129) hx hb c5 dX7_isSign_1 (by decide) (by decide) (by decide) (by decide) ?_
            refine lv_iconst (v := (0 : Int32)) hx hb dX7_isSign_130 (by decide) ?_
            obtain a1 := h.symm
            exact g_nmi a1 (hfin _ _ _ _ (a1 ▸ (Or.inl rfl)) hW dX7_isSign_131)
          · replace h := gi_f h c5
            rcases Classical.em (x0 = (40 : Int32)) with c6 | c6
            · replace h := gi_t h c6
              refine g_tabIn (k := (40 : Int32)) (tgt := 128) (off := 127) hx hb c6 dX7_isSign_1 (by decide) (by decide) (by decide) (by decide) ?_
              refine lv_iconst (v := (1 : Int32)) hx hb dX7_isSign_128 (by decide) ?_
              obtain a1 := h.symm
              exact g_nmi a1 (hfin _ _ _ _ (a1 ▸ (Or.inr rfl)) hW dX7_isSign_129)
            · replace h := gi_f h c6
              rcases Classical.em (x0 = (41 : Int32)) with c7 | c7
              · replace h := gi_t h c7
                refine g_tabIn (k := (41 : Int32)) (tgt := 128) (off := 127) hx hb c7 dX7_isSign_1 (by decide) (by decide) (by decide) (by decide) ?_
                refine lv_iconst (v := (1 : Int32)) hx hb dX7_isSign_128 (by decide) ?_
                obtain a1 := h.symm
                exact g_nmi a1 (hfin _ _ _ _ (a1 ▸ (Or.inr rfl)) hW dX7_isSign_129)
              · replace h := gi_f h c7
                rcases Classical.em (x0 = (42 : Int32)) with c8 | c8
                · replace h := gi_t h c8
                  refine g_tabIn (k := (42 : Int32)) (tgt := 128) (off := 127) hx hb c8 dX7_isSign_1 (by decide) (by decide) (by decide) (by decide) ?_
                  refine lv_iconst (v := (1 : Int32)) hx hb dX7_isSign_128 (by decide) ?_
                  obtain a1 := h.symm
                  exact g_nmi a1 (hfin _ _ _ _ (a1 ▸ (Or.inr rfl)) hW dX7_isSign_129)
                · replace h := gi_f h c8
                  rcases Classical.em (x0 = (43 : Int32)) with c9 | c9
                  · replace h := gi_t h c9
                    refine g_tabIn (k := (43 : Int32)) (tgt := 128) (off := 127) hx hb c9 dX7_isSign_1 (by decide) (by decide) (by decide) (by decide) ?_
                    refine lv_iconst (v := (1 : Int32)) hx hb dX7_isSign_128 (by decide) ?_
                    obtain a1 := h.symm
                    exact g_nmi a1 (hfin _ _ _ _ (a1 ▸ (Or.inr rfl)) hW dX7_isSign_129)
                  · replace h := gi_f h c9
                    rcases Classical.em (x0 = (44 : Int32)) with c10 | c10
                    · replace h := gi_t h c10
                      refine g_tabIn (k := (44 : Int32)) (tgt := 130) (off := 129) hx hb c10 dX7_isSign_1 (by decide) (by decide) (by decide) (by decide) ?_
                      refine lv_iconst (v := (0 : Int32)) hx hb dX7_isSign_130 (by decide) ?_
                      obtain a1 := h.symm
                      exact g_nmi a1 (hfin _ _ _ _ (a1 ▸ (Or.inl rfl)) hW dX7_isSign_131)
                    · replace h := gi_f h c10
                      rcases Classical.em (x0 = (45 : Int32)) with c11 | c11
                      · replace h := gi_t h c11
                        refine g_tabIn (k := (45 : Int32)) (tgt := 128) (off := 127) hx hb c11 dX7_isSign_1 (by decide) (by decide) (by decide) (by decide) ?_
                        refine lv_iconst (v := (1 : Int32)) hx hb dX7_isSign_128 (by decide) ?_
                        obtain a1 := h.symm
                        exact g_nmi a1 (hfin _ _ _ _ (a1 ▸ (Or.inr rfl)) hW dX7_isSign_129)
                      · replace h := gi_f h c11
                        rcases Classical.em (x0 = (46 : Int32)) with c12 | c12
                        · replace h := gi_t h c12
                          refine g_tabIn (k := (46 : Int32)) (tgt := 130) (off := 129) hx hb c12 dX7_isSign_1 (by decide) (by decide) (by decide) (by decide) ?_
                          refine lv_iconst (v := (0 : Int32)) hx hb dX7_isSign_130 (by decide) ?_
                          obtain a1 := h.symm
                          exact g_nmi a1 (hfin _ _ _ _ (a1 ▸ (Or.inl rfl)) hW dX7_isSign_131)
                        · replace h := gi_f h c12
                          rcases Classical.em (x0 = (47 : Int32)) with c13 | c13
                          · replace h := gi_t h c13
                            refine g_tabIn (k := (47 : Int32)) (tgt := 128) (off := 127) hx hb c13 dX7_isSign_1 (by decide) (by decide) (by decide) (by decide) ?_
                            refine lv_iconst (v := (1 : Int32)) hx hb dX7_isSign_128 (by decide) ?_
                            obtain a1 := h.symm
                            exact g_nmi a1 (hfin _ _ _ _ (a1 ▸ (Or.inr rfl)) hW dX7_isSign_129)
                          · replace h := gi_f h c13
                            rcases Classical.em (x0 = (48 : Int32)) with c14 | c14
                            · replace h := gi_t h c14
                              refine g_tabIn (k := (48 : Int32)) (tgt := 130) (off := 129) hx hb c14 dX7_isSign_1 (by decide) (by decide) (by decide) (by decide) ?_
                              refine lv_iconst (v := (0 : Int32)) hx hb dX7_isSign_130 (by decide) ?_
                              obtain a1 := h.symm
                              exact g_nmi a1 (hfin _ _ _ _ (a1 ▸ (Or.inl rfl)) hW dX7_isSign_131)
                            · replace h := gi_f h c14
                              rcases Classical.em (x0 = (49 : Int32)) with c15 | c15
                              · replace h := gi_t h c15
                                refine g_tabIn (k := (49 : Int32)) (tgt := 130) (off := 129) hx hb c15 dX7_isSign_1 (by decide) (by decide) (by decide) (by decide) ?_
                                refine lv_iconst (v := (0 : Int32)) hx hb dX7_isSign_130 (by decide) ?_
                                obtain a1 := h.symm
                                exact g_nmi a1 (hfin _ _ _ _ (a1 ▸ (Or.inl rfl)) hW dX7_isSign_131)
                              · replace h := gi_f h c15
                                rcases Classical.em (x0 = (50 : Int32)) with c16 | c16
                                · replace h := gi_t h c16
                                  refine g_tabIn (k := (50 : Int32)) (tgt := 130) (off := 129) hx hb c16 dX7_isSign_1 (by decide) (by decide) (by decide) (by decide) ?_
                                  refine lv_iconst (v := (0 : Int32)) hx hb dX7_isSign_130 (by decide) ?_
                                  obtain a1 := h.symm
                                  exact g_nmi a1 (hfin _ _ _ _ (a1 ▸ (Or.inl rfl)) hW dX7_isSign_131)
                                · replace h := gi_f h c16
                                  rcases Classical.em (x0 = (51 : Int32)) with c17 | c17
                                  · replace h := gi_t h c17
                                    refine g_tabIn (k := (51 : Int32)) (tgt := 130) (off := 129) hx hb c17 dX7_isSign_1 (by decide) (by decide) (by decide) (by decide) ?_
                                    refine lv_iconst (v := (0 : Int32)) hx hb dX7_isSign_130 (by decide) ?_
                                    obtain a1 := h.symm
                                    exact g_nmi a1 (hfin _ _ _ _ (a1 ▸ (Or.inl rfl)) hW dX7_isSign_131)
                                  · replace h := gi_f h c17
                                    rcases Classical.em (x0 = (52 : Int32)) with c18 | c18
                                    · replace h := gi_t h c18
                                      refine g_tabIn (k := (52 : Int32)) (tgt := 130) (off := 129) hx hb c18 dX7_isSign_1 (by decide) (by decide) (by decide) (by decide) ?_
                                      refine lv_iconst (v := (0 : Int32)) hx hb dX7_isSign_130 (by decide) ?_
                                      obtain a1 := h.symm
                                      exact g_nmi a1 (hfin _ _ _ _ (a1 ▸ (Or.inl rfl)) hW dX7_isSign_131)
                                    · replace h := gi_f h c18
                                      rcases Classical.em (x0 = (53 : Int32)) with c19 | c19
                                      · replace h := gi_t h c19
                                        refine g_tabIn (k := (53 : Int32)) (tgt := 130) (off := 129) hx hb c19 dX7_isSign_1 (by decide) (by decide) (by decide) (by decide) ?_
                                        refine lv_iconst (v := (0 : Int32)) hx hb dX7_isSign_130 (by decide) ?_
                                        obtain a1 := h.symm
                                        exact g_nmi a1 (hfin _ _ _ _ (a1 ▸ (Or.inl rfl)) hW dX7_isSign_131)
                                      · replace h := gi_f h c19
                                        rcases Classical.em (x0 = (54 : Int32)) with c20 | c20
                                        · replace h := gi_t h c20
                                          refine g_tabIn (k := (54 : Int32)) (tgt := 130) (off := 129) hx hb c20 dX7_isSign_1 (by decide) (by decide) (by decide) (by decide) ?_
                                          refine lv_iconst (v := (0 : Int32)) hx hb dX7_isSign_130 (by decide) ?_
                                          obtain a1 := h.symm
                                          exact g_nmi a1 (hfin _ _ _ _ (a1 ▸ (Or.inl rfl)) hW dX7_isSign_131)
                                        · replace h := gi_f h c20
                                          rcases Classical.em (x0 = (55 : Int32)) with c21 | c21
                                          · replace h := gi_t h c21
                                            refine g_tabIn (k := (55 : Int32)) (tgt := 130) (off := 129) hx hb c21 dX7_isSign_1 (by decide) (by decide) (by decide) (by decide) ?_
                                            refine lv_iconst (v := (0 : Int32)) hx hb dX7_isSign_130 (by decide) ?_
                                            obtain a1 := h.symm
                                            exact g_nmi a1 (hfin _ _ _ _ (a1 ▸ (Or.inl rfl)) hW dX7_isSign_131)
                                          · replace h := gi_f h c21
                                            rcases Classical.em (x0 = (56 : Int32)) with c22 | c22
                                            · replace h := gi_t h c22
                                              refine g_tabIn (k := (56 : Int32)) (tgt := 130) (off := 129) hx hb c22 dX7_isSign_1 (by decide) (by decide) (by decide) (by decide) ?_
                                              refine lv_iconst (v := (0 : Int32)) hx hb dX7_isSign_130 (by decide) ?_
                                              obtain a1 := h.symm
                                              exact g_nmi a1 (hfin _ _ _ _ (a1 ▸ (Or.inl rfl)) hW dX7_isSign_131)
                                            · replace h := gi_f h c22
                                              rcases Classical.em (x0 = (57 : Int32)) with c23 | c23
                                              · replace h := gi_t h c23
                                                refine g_tabIn (k := (57 : Int32)) (tgt := 130) (off := 129) hx hb c23 dX7_isSign_1 (by decide) (by decide) (by decide) (by decide) ?_
                                                refine lv_iconst (v := (0 : Int32)) hx hb dX7_isSign_130 (by decide) ?_
                                                obtain a1 := h.symm
                                                exact g_nmi a1 (hfin _ _ _ _ (a1 ▸ (Or.inl rfl)) hW dX7_isSign_131)
                                              · replace h := gi_f h c23
                                                rcases Classical.em (x0 = (58 : Int32)) with c24 | c24
                                                · replace h := gi_t h c24
                                                  refine g_tabIn (k := (58 : Int32)) (tgt := 128) (off := 127) hx hb c24 dX7_isSign_1 (by decide) (by decide) (by decide) (by decide) ?_
                                                  refine lv_iconst (v := (1 : Int32)) hx hb dX7_isSign_128 (by decide) ?_
                                                  obtain a1 := h.symm
                                                  exact g_nmi a1 (hfin _ _ _ _ (a1 ▸ (Or.inr rfl)) hW dX7_isSign_129)
                                                · replace h := gi_f h c24
                                                  rcases Classical.em (x0 = (59 : Int32)) with c25 | c25
                                                  · replace h := gi_t h c25
                                                    refine g_tabIn (k := (59 : Int32)) (tgt := 128) (off := 127) hx hb c25 dX7_isSign_1 (by decide) (by decide) (by decide) (by decide) ?_
                                                    refine lv_iconst (v := (1 : Int32)) hx hb dX7_isSign_128 (by decide) ?_
                                                    obtain a1 := h.symm
                                                    exact g_nmi a1 (hfin _ _ _ _ (a1 ▸ (Or.inr rfl)) hW dX7_isSign_129)
                                                  · replace h := gi_f h c25
                                                    rcases Classical.em (x0 = (60 : Int32)) with c26 | c26
                                                    · replace h := gi_t h c26
                                                      refine g_tabIn (k := (60 : Int32)) (tgt := 128) (off := 127) hx hb c26 dX7_isSign_1 (by decide) (by decide) (by decide) (by decide) ?_
                                                      refine lv_iconst (v := (1 : Int32)) hx hb dX7_isSign_128 (by decide) ?_
                                                      obtain a1 := h.symm
                                                      exact g_nmi a1 (hfin _ _ _ _ (a1 ▸ (Or.inr rfl)) hW dX7_isSign_129)
                                                    · replace h := gi_f h c26
                                                      rcases Classical.em (x0 = (61 : Int32)) with c27 | c27
                                                      · replace h := gi_t h c27
                                                        refine g_tabIn (k := (61 : Int32)) (tgt := 128) (off := 127) hx hb c27 dX7_isSign_1 (by decide) (by decide) (by decide) (by decide) ?_
                                                        refine lv_iconst (v := (1 : Int32)) hx hb dX7_isSign_128 (by decide) ?_
                                                        obtain a1 := h.symm
                                                        exact g_nmi a1 (hfin _ _ _ _ (a1 ▸ (Or.inr rfl)) hW dX7_isSign_129)
                                                      · replace h := gi_f h c27
                                                        rcases Classical.em (x0 = (62 : Int32)) with c28 | c28
                                                        · replace h := gi_t h c28
                                                          refine g_tabIn (k := (62 : Int32)) (tgt := 128) (off := 127) hx hb c28 dX7_isSign_1 (by decide) (by decide) (by decide) (by decide) ?_
                                                          refine lv_iconst (v := (1 : Int32)) hx hb dX7_isSign_128 (by decide) ?_
                                                          obtain a1 := h.symm
                                                          exact g_nmi a1 (hfin _ _ _ _ (a1 ▸ (Or.inr rfl)) hW dX7_isSign_129)
                                                        · replace h := gi_f h c28
                                                          refine lv_tableOut (tgt := 130) hx hb dX7_isSign_1 (by have := lv_neT (a := 35) c1 (by decide); have := lv_neT (a := 36) c2 (by decide); have := lv_neT (a := 37) c3 (by decide); have := lv_neT (a := 38) c4 (by decide); have := lv_neT (a := 39) c5 (by decide); have := lv_neT (a := 40) c6 (by decide); have := lv_neT (a := 41) c7 (by decide); have := lv_neT (a := 42) c8 (by decide); have := lv_neT (a := 43) c9 (by decide); have := lv_neT (a := 44) c10 (by decide); have := lv_neT (a := 45) c11 (by decide); have := lv_neT (a := 46) c12 (by decide); have := lv_neT (a := 47) c13 (by decide); have := lv_neT (a := 48) c14 (by decide); have := lv_neT (a := 49) c15 (by decide); have := lv_neT (a := 50) c16 (by decide); have := lv_neT (a := 51) c17 (by decide); have := lv_neT (a := 52) c18 (by decide); have := lv_neT (a := 53) c19 (by decide); have := lv_neT (a := 54) c20 (by decide); have := lv_neT (a := 55) c21 (by decide); have := lv_neT (a := 56) c22 (by decide); have := lv_neT (a := 57) c23 (by decide); have := lv_neT (a := 58) c24 (by decide); have := lv_neT (a := 59) c25 (by decide); have := lv_neT (a := 60) c26 (by decide); have := lv_neT (a := 61) c27 (by decide); have := lv_neT (a := 62) c28 (by decide); omega) (by decide) ?_
                                                          refine lv_iconst (v := (0 : Int32)) hx hb dX7_isSign_130 (by decide) ?_
                                                          obtain a1 := h.symm
                                                          exact g_nmi a1 (hfin _ _ _ _ (a1 ▸ (Or.inl rfl)) hW dX7_isSign_131)
