-- 12.m02: the reference: nextToken w2 w3 w4 w5 isWord emit nameOf isOf rank settle openAt openNow isCompared isAskAhead opened
theorem nm_X7_byteAt : gNm yX7_byteAt 1 := by decide +kernel
theorem nm_X7_isFigure : gNm yX7_isFigure 1 := by decide +kernel
theorem nm_X7_isLetterByte : gNm yX7_isLetterByte 1 := by decide +kernel
theorem nm_X7_isSign : gNm yX7_isSign 1 := by decide +kernel
noncomputable def fX7_nextToken_0b  (rec : gI → Option ((gI))) (I : gI) : Option ((gI)) :=
  bd (fX7_byteAt (I 0 7) I) (fun (u2 : Int32) => lz (lz (wI I 0 7 ((I 0 7) + (1 : Int32))) (fun (I8 : gI) => rec I8)) (fun j5 => gi (u2 = (32 : Int32))
 (j5)
 (bd (fX7_byteAt (I 0 7) I) (fun (u11 : Int32) => gi (u11 = (10 : Int32))
 (j5)
 (some I)))))
noncomputable def fX7_nextToken_0  : Nat → gI → Option ((gI))
  | 0 => fun _ => none
  | n + 1 => fX7_nextToken_0b  (fX7_nextToken_0  n)
set_option maxHeartbeats 4000000 in
set_option maxRecDepth 100000 in
theorem tX7_nextToken_0 {l : Launch} {G : gG} {ad : Nat → Nat} {p : Program} {e : Env} {s : State} {m : MethodId} {args : Array Value} {below : List Frame} {meth : Method} {c : Code} {Q : State → Prop} (hok : gInj LM ad) (K : gCx G (gA LM ad) p s m args c cX7_nextToken 2 RX7)  : ∀ (n : Nat) (I : gI) (J : gJ) (out : Option ((gI))), fX7_nextToken_0  n I = out → out ≠ none → ∀ (H : Heap) (locs : List Loc), gWd G LM ad (gA LM ad) s.heap I J H locs → ∀ (ls : Array Slot), lv_has ls 2 [(0, .ref (ad 0))] → (∀ (I1 : gI), some I1 = out → ∀ (H : Heap) (locs : List Loc), gWd G LM ad (gA LM ad) s.heap I1 J H locs → ∀ (ls : Array Slot), lv_has ls 2 [(0, .ref (ad 0))] → W p l e (gRm 2) s m args below meth c H locs 0 0 Q (F0 m 39 ls [])) → W p l e (gRm 2) s m args below meth c H locs 0 0 Q (F0 m 0 ls []) := by
  have hx := K.1; have hb := K.2.1; have hown := K.2.2.2.1; have hts := K.2.2.2.2.1
  intro n
  induction n with
  | zero => intro I J out h hn; exact absurd h.symm hn
  | succ n ih =>
    intro I J out h hn H locs hW ls hl hx1
    replace h : fX7_nextToken_0b  (fX7_nextToken_0  n) I = out := h
    unfold fX7_nextToken_0b at h
    refine lv_aload_n hx hb dX7_nextToken_0 rfl (lv_at hl 0 rfl) ?_
    refine lv_aload_n hx hb dX7_nextToken_1 rfl (lv_at hl 0 rfl) ?_
    refine g_get K hW (t := 0) (ci := 6) (k := 7) (v := .int (I 0 7)) kLM_0 rfl rfl i_X7 (by decide) q_1084 rfl rfl dX7_nextToken_2 ?_
    obtain ⟨u2, e3, h⟩ := bd_o h hn
    refine g_callVi (rest := []) K hW hl (kX7_byteAt (l := l) (G := G) (ad := ad) hok (I 0 7) I J u2 e3) kLM_0 rfl (gG_V q_1205 q_1207 q_55 q_139 q_1208) nm_X7_byteAt ⟨Nat.le_of_ble_eq_true rfl, Nat.le_of_ble_eq_true rfl⟩ rfl rfl (Nat.le_of_ble_eq_true rfl) ⟨Nat.zero_le _, Nat.zero_le _⟩ dX7_nextToken_5 (fun z4 H locs hW => ?_)
    refine lv_bipush (v := (32 : Int32)) hx hb dX7_nextToken_8 (by decide) ?_
    obtain ⟨j5, e6, h⟩ := lz_o h
    have hj7 : j5 = out → ∀ (H : Heap) (locs : List Loc), gWd G LM ad (gA LM ad) s.heap I J H locs → ∀ (ls : Array Slot), lv_has ls 2 [(0, .ref (ad 0))] → W p l e (gRm 2) s m args below meth c H locs 0 0 Q (F0 m 26 ls []) := by
      intro h H locs hW ls hl
      replace h := jn0 e6 h
      refine lv_aload_n hx hb dX7_nextToken_26 rfl (lv_at hl 0 rfl) ?_
      refine lv_dup hx hb dX7_nextToken_27 rfl ?_
      refine g_get K hW (t := 0) (ci := 6) (k := 7) (v := .int (I 0 7)) kLM_0 rfl rfl i_X7 (by decide) q_1084 rfl rfl dX7_nextToken_28 ?_
      refine lv_iconst (v := (1 : Int32)) hx hb dX7_nextToken_31 (by decide) ?_
      refine lv_iadd hx hb dX7_nextToken_32 ?_
      refine g_putI K hW (ci := 6) (k := 7) kLM_0 rfl rfl i_X7 tyX7_ok nmX7 (by decide) q_1084 rfl rfl rfl rfl dX7_nextToken_33 (fun H locs hW => ?_)
      obtain ⟨I8, e9, h⟩ := lz_o h
      replace hW := gWd_nI e9 hW
      refine lv_goto (tgt := 0) hx hb dX7_nextToken_36 (by decide) ?_
      exact ih I8 J _ h hn _ _ hW _ (lv_sub hl [0] rfl) hx1
    refine lv_icmp_eq (tgt := 26) hx hb dX7_nextToken_10 (by decide) (fun c10 => ?_) (fun c10 => ?_)
    · replace h := gi_t h c10
      exact hj7 h _ _ hW _ (lv_sub hl [0] rfl)
    · replace h := gi_f h c10
      refine lv_aload_n hx hb dX7_nextToken_13 rfl (lv_at hl 0 rfl) ?_
      refine lv_aload_n hx hb dX7_nextToken_14 rfl (lv_at hl 0 rfl) ?_
      refine g_get K hW (t := 0) (ci := 6) (k := 7) (v := .int (I 0 7)) kLM_0 rfl rfl i_X7 (by decide) q_1084 rfl rfl dX7_nextToken_15 ?_
      obtain ⟨u11, e12, h⟩ := bd_o h hn
      refine g_callVi (rest := []) K hW hl (kX7_byteAt (l := l) (G := G) (ad := ad) hok (I 0 7) I J u11 e12) kLM_0 rfl (gG_V q_1205 q_1207 q_55 q_139 q_1208) nm_X7_byteAt ⟨Nat.le_of_ble_eq_true rfl, Nat.le_of_ble_eq_true rfl⟩ rfl rfl (Nat.le_of_ble_eq_true rfl) ⟨Nat.zero_le _, Nat.zero_le _⟩ dX7_nextToken_18 (fun z13 H locs hW => ?_)
      refine lv_bipush (v := (10 : Int32)) hx hb dX7_nextToken_21 (by decide) ?_
      refine lv_icmp_ne (tgt := 39) hx hb dX7_nextToken_23 (by decide) (fun c14 => ?_) (fun c14 => ?_)
      · replace h := gi_f h c14
        exact hx1 I h _ _ hW _ (lv_sub hl [0] rfl)
      · replace h := gi_t h c14
        exact hj7 h _ _ hW _ (lv_sub hl [0] rfl)
noncomputable def fX7_nextToken_168b  (rec : gI → gJ → Option ((gI × gJ))) (I : gI) (J : gJ) : Option ((gI × gJ)) :=
  bd (fX7_byteAt (I 0 7) I) (fun (u63 : Int32) => gi ((fX7_isLetterByte u63) = 0)
 (some (I, J))
 (lz (fun (u68 : Int64) => lz (wJ J 0 11 u68) (fun (J72 : gJ) => lz (wI I 0 7 ((I 0 7) + (1 : Int32))) (fun (I74 : gI) => rec I74 J72))) (fun j69 => gi ((lg_cmp (jlshr (J 0 11) (48 : Int32)) (0 : Int64)) = 0)
 (bd (fX7_byteAt (I 0 7) I) (fun (u77 : Int32) => j69 ((jlshl (J 0 11) (8 : Int32)) ||| (u77).toInt64)))
 (j69 (1152921504606846976 : Int64)))))
noncomputable def fX7_nextToken_168  : Nat → gI → gJ → Option ((gI × gJ))
  | 0 => fun _ _ => none
  | n + 1 => fX7_nextToken_168b  (fX7_nextToken_168  n)
set_option maxHeartbeats 4000000 in
set_option maxRecDepth 100000 in
theorem tX7_nextToken_168 {l : Launch} {G : gG} {ad : Nat → Nat} {p : Program} {e : Env} {s : State} {m : MethodId} {args : Array Value} {below : List Frame} {meth : Method} {c : Code} {Q : State → Prop} (hok : gInj LM ad) (K : gCx G (gA LM ad) p s m args c cX7_nextToken 2 RX7)  : ∀ (n : Nat) (I : gI) (J : gJ) (out : Option ((gI × gJ))), fX7_nextToken_168  n I J = out → out ≠ none → ∀ (H : Heap) (locs : List Loc), gWd G LM ad (gA LM ad) s.heap I J H locs → ∀ (ls : Array Slot), lv_has ls 2 [(0, .ref (ad 0))] → (∀ (I61 : gI) (J62 : gJ), some (I61, J62) = out → ∀ (H : Heap) (locs : List Loc), gWd G LM ad (gA LM ad) s.heap I61 J62 H locs → ∀ (ls : Array Slot), lv_has ls 2 [] → W p l e (gRm 2) s m args below meth c H locs 0 0 Q (F0 m 310 ls [])) → W p l e (gRm 2) s m args below meth c H locs 0 0 Q (F0 m 168 ls []) := by
  have hx := K.1; have hb := K.2.1; have hown := K.2.2.2.1; have hts := K.2.2.2.2.1
  intro n
  induction n with
  | zero => intro I J out h hn; exact absurd h.symm hn
  | succ n ih =>
    intro I J out h hn H locs hW ls hl hx1
    replace h : fX7_nextToken_168b  (fX7_nextToken_168  n) I J = out := h
    unfold fX7_nextToken_168b at h
    refine lv_aload_n hx hb dX7_nextToken_168 rfl (lv_at hl 0 rfl) ?_
    refine lv_aload_n hx hb dX7_nextToken_169 rfl (lv_at hl 0 rfl) ?_
    refine g_get K hW (t := 0) (ci := 6) (k := 7) (v := .int (I 0 7)) kLM_0 rfl rfl i_X7 (by decide) q_1084 rfl rfl dX7_nextToken_170 ?_
    obtain ⟨u63, e64, h⟩ := bd_o h hn
    refine g_callVi (rest := []) K hW hl (kX7_byteAt (l := l) (G := G) (ad := ad) hok (I 0 7) I J u63 e64) kLM_0 rfl (gG_V q_1205 q_1207 q_55 q_139 q_1208) nm_X7_byteAt ⟨Nat.le_of_ble_eq_true rfl, Nat.le_of_ble_eq_true rfl⟩ rfl rfl (Nat.le_of_ble_eq_true rfl) ⟨Nat.zero_le _, Nat.zero_le _⟩ dX7_nextToken_173 (fun z65 H locs hW => ?_)
    refine g_callSi (rest := []) K hW hl (kX7_isLetterByte (l := l) (G := G) (ad := ad) hok u63 I J (fX7_isLetterByte u63) rfl) q_1213 q_1214 q_139 q_1215 nm_X7_isLetterByte ⟨Nat.le_of_ble_eq_true rfl, Nat.le_of_ble_eq_true rfl⟩ rfl rfl (Nat.le_of_ble_eq_true rfl) ⟨Nat.zero_le _, Nat.zero_le _⟩ dX7_nextToken_176 (fun z66 H locs hW => ?_)
    refine lv_if_eq (tgt := 310) hx hb dX7_nextToken_179 (by decide) (fun c67 => ?_) (fun c67 => ?_)
    · replace h := gi_t h c67
      exact hx1 I J h _ _ hW _ (lv_sub hl [] rfl)
    · replace h := gi_f h c67
      refine lv_aload_n hx hb dX7_nextToken_182 rfl (lv_at hl 0 rfl) ?_
      refine lv_aload_n hx hb dX7_nextToken_183 rfl (lv_at hl 0 rfl) ?_
      refine g_get K hW (t := 1) (ci := 6) (k := 11) (v := .long (J 0 11)) kLM_0 rfl rfl i_X7 (by decide) q_1088 rfl rfl dX7_nextToken_184 ?_
      refine lv_bipush (v := (48 : Int32)) hx hb dX7_nextToken_187 (by decide) ?_
      refine g_lshr hx hb dX7_nextToken_189 ?_
      refine lv_lconst (v := (0 : Int64)) hx hb dX7_nextToken_190 rfl ?_
      refine W.lcmp hx hb dX7_nextToken_191 ?_
      obtain ⟨j69, e70, h⟩ := lz_o h
      have hj71 : ∀ (u68 : Int64), j69 u68 = out → ∀ (H : Heap) (locs : List Loc), gWd G LM ad (gA LM ad) s.heap I J H locs → ∀ (ls : Array Slot), lv_has ls 2 [(0, .ref (ad 0))] → W p l e (gRm 2) s m args below meth c H locs 0 0 Q (F0 m 218 ls [.long u68, .ref (ad 0)]) := by
        intro u68 h H locs hW ls hl
        replace h := jn1 e70 h
        refine g_putJ K hW (ci := 6) (k := 11) kLM_0 rfl rfl i_X7 tyX7_ok nmX7 (by decide) q_1088 rfl rfl rfl rfl dX7_nextToken_218 (fun H locs hW => ?_)
        obtain ⟨J72, e73, h⟩ := lz_o h
        replace hW := gWd_nJ e73 hW
        refine lv_aload_n hx hb dX7_nextToken_221 rfl (lv_at hl 0 rfl) ?_
        refine lv_dup hx hb dX7_nextToken_222 rfl ?_
        refine g_get K hW (t := 0) (ci := 6) (k := 7) (v := .int (I 0 7)) kLM_0 rfl rfl i_X7 (by decide) q_1084 rfl rfl dX7_nextToken_223 ?_
        refine lv_iconst (v := (1 : Int32)) hx hb dX7_nextToken_226 (by decide) ?_
        refine lv_iadd hx hb dX7_nextToken_227 ?_
        refine g_putI K hW (ci := 6) (k := 7) kLM_0 rfl rfl i_X7 tyX7_ok nmX7 (by decide) q_1084 rfl rfl rfl rfl dX7_nextToken_228 (fun H locs hW => ?_)
        obtain ⟨I74, e75, h⟩ := lz_o h
        replace hW := gWd_nI e75 hW
        refine lv_goto (tgt := 168) hx hb dX7_nextToken_231 (by decide) ?_
        exact ih I74 J72 _ h hn _ _ hW _ (lv_sub hl [0] rfl) hx1
      refine lv_if_eq (tgt := 201) hx hb dX7_nextToken_192 (by decide) (fun c76 => ?_) (fun c76 => ?_)
      · replace h := gi_t h c76
        refine lv_aload_n hx hb dX7_nextToken_201 rfl (lv_at hl 0 rfl) ?_
        refine g_get K hW (t := 1) (ci := 6) (k := 11) (v := .long (J 0 11)) kLM_0 rfl rfl i_X7 (by decide) q_1088 rfl rfl dX7_nextToken_202 ?_
        refine lv_bipush (v := (8 : Int32)) hx hb dX7_nextToken_205 (by decide) ?_
        refine g_lshl hx hb dX7_nextToken_207 ?_
        refine lv_aload_n hx hb dX7_nextToken_208 rfl (lv_at hl 0 rfl) ?_
        refine lv_aload_n hx hb dX7_nextToken_209 rfl (lv_at hl 0 rfl) ?_
        refine g_get K hW (t := 0) (ci := 6) (k := 7) (v := .int (I 0 7)) kLM_0 rfl rfl i_X7 (by decide) q_1084 rfl rfl dX7_nextToken_210 ?_
        obtain ⟨u77, e78, h⟩ := bd_o h hn
        refine g_callVi (rest := [.long (jlshl (J 0 11) (8 : Int32)), .ref (ad 0)]) K hW hl (kX7_byteAt (l := l) (G := G) (ad := ad) hok (I 0 7) I J u77 e78) kLM_0 rfl (gG_V q_1205 q_1207 q_55 q_139 q_1208) nm_X7_byteAt ⟨Nat.le_of_ble_eq_true rfl, Nat.le_of_ble_eq_true rfl⟩ rfl rfl (Nat.le_of_ble_eq_true rfl) ⟨Nat.zero_le _, Nat.zero_le _⟩ dX7_nextToken_213 (fun z79 H locs hW => ?_)
        refine lv_i2l hx hb dX7_nextToken_216 rfl ?_
        refine lv_lor hx hb dX7_nextToken_217 ?_
        exact hj71 ((jlshl (J 0 11) (8 : Int32)) ||| (u77).toInt64) h _ _ hW _ (lv_sub hl [0] rfl)
      · replace h := gi_f h c76
        refine lv_ldc2 (v := (1152921504606846976 : Int64)) hx hb hown (hts _ q_1216) dX7_nextToken_195 ?_
        refine lv_goto (tgt := 218) hx hb dX7_nextToken_198 (by decide) ?_
        exact hj71 (1152921504606846976 : Int64) h _ _ hW _ (lv_sub hl [0] rfl)
noncomputable def fX7_nextToken_85b  (rec : gI → Option ((gI))) (I : gI) : Option ((gI)) :=
  bd (fX7_byteAt (I 0 7) I) (fun (u90 : Int32) => gi ((fX7_isFigure u90) = 0)
 (some I)
 (lz (fun (u95 : Int32) => lz (wI I 0 10 u95) (fun (I99 : gI) => lz (wI I99 0 7 ((I99 0 7) + (1 : Int32))) (fun (I101 : gI) => rec I101))) (fun j96 => gi ((I 0 10) ≤ (99999 : Int32))
 (bd (fX7_byteAt (I 0 7) I) (fun (u104 : Int32) => j96 ((((10 : Int32) * (I 0 10)) + u104) - (48 : Int32))))
 (j96 (I 0 10)))))
noncomputable def fX7_nextToken_85  : Nat → gI → Option ((gI))
  | 0 => fun _ => none
  | n + 1 => fX7_nextToken_85b  (fX7_nextToken_85  n)
set_option maxHeartbeats 4000000 in
set_option maxRecDepth 100000 in
theorem tX7_nextToken_85 {l : Launch} {G : gG} {ad : Nat → Nat} {p : Program} {e : Env} {s : State} {m : MethodId} {args : Array Value} {below : List Frame} {meth : Method} {c : Code} {Q : State → Prop} (hok : gInj LM ad) (K : gCx G (gA LM ad) p s m args c cX7_nextToken 2 RX7)  : ∀ (n : Nat) (I : gI) (J : gJ) (out : Option ((gI))), fX7_nextToken_85  n I = out → out ≠ none → ∀ (H : Heap) (locs : List Loc), gWd G LM ad (gA LM ad) s.heap I J H locs → ∀ (ls : Array Slot), lv_has ls 2 [(0, .ref (ad 0))] → (∀ (I89 : gI), some I89 = out → ∀ (H : Heap) (locs : List Loc), gWd G LM ad (gA LM ad) s.heap I89 J H locs → ∀ (ls : Array Slot), lv_has ls 2 [] → W p l e (gRm 2) s m args below meth c H locs 0 0 Q (F0 m 310 ls [])) → W p l e (gRm 2) s m args below meth c H locs 0 0 Q (F0 m 85 ls []) := by
  have hx := K.1; have hb := K.2.1; have hown := K.2.2.2.1; have hts := K.2.2.2.2.1
  intro n
  induction n with
  | zero => intro I J out h hn; exact absurd h.symm hn
  | succ n ih =>
    intro I J out h hn H locs hW ls hl hx1
    replace h : fX7_nextToken_85b  (fX7_nextToken_85  n) I = out := h
    unfold fX7_nextToken_85b at h
    refine lv_aload_n hx hb dX7_nextToken_85 rfl (lv_at hl 0 rfl) ?_
    refine lv_aload_n hx hb dX7_nextToken_86 rfl (lv_at hl 0 rfl) ?_
    refine g_get K hW (t := 0) (ci := 6) (k := 7) (v := .int (I 0 7)) kLM_0 rfl rfl i_X7 (by decide) q_1084 rfl rfl dX7_nextToken_87 ?_
    obtain ⟨u90, e91, h⟩ := bd_o h hn
    refine g_callVi (rest := []) K hW hl (kX7_byteAt (l := l) (G := G) (ad := ad) hok (I 0 7) I J u90 e91) kLM_0 rfl (gG_V q_1205 q_1207 q_55 q_139 q_1208) nm_X7_byteAt ⟨Nat.le_of_ble_eq_true rfl, Nat.le_of_ble_eq_true rfl⟩ rfl rfl (Nat.le_of_ble_eq_true rfl) ⟨Nat.zero_le _, Nat.zero_le _⟩ dX7_nextToken_90 (fun z92 H locs hW => ?_)
    refine g_callSi (rest := []) K hW hl (kX7_isFigure (l := l) (G := G) (ad := ad) hok u90 I J (fX7_isFigure u90) rfl) q_1209 q_1210 q_139 q_1211 nm_X7_isFigure ⟨Nat.le_of_ble_eq_true rfl, Nat.le_of_ble_eq_true rfl⟩ rfl rfl (Nat.le_of_ble_eq_true rfl) ⟨Nat.zero_le _, Nat.zero_le _⟩ dX7_nextToken_93 (fun z93 H locs hW => ?_)
    refine lv_if_eq (tgt := 310) hx hb dX7_nextToken_96 (by decide) (fun c94 => ?_) (fun c94 => ?_)
    · replace h := gi_t h c94
      exact hx1 I h _ _ hW _ (lv_sub hl [] rfl)
    · replace h := gi_f h c94
      refine lv_aload_n hx hb dX7_nextToken_99 rfl (lv_at hl 0 rfl) ?_
      refine lv_aload_n hx hb dX7_nextToken_100 rfl (lv_at hl 0 rfl) ?_
      refine g_get K hW (t := 0) (ci := 6) (k := 10) (v := .int (I 0 10)) kLM_0 rfl rfl i_X7 (by decide) q_1087 rfl rfl dX7_nextToken_101 ?_
      refine lv_ldc (v := (99999 : Int32)) hx hb hown (hts _ q_1212) dX7_nextToken_104 ?_
      obtain ⟨j96, e97, h⟩ := lz_o h
      have hj98 : ∀ (u95 : Int32), j96 u95 = out → ∀ (H : Heap) (locs : List Loc), gWd G LM ad (gA LM ad) s.heap I J H locs → ∀ (ls : Array Slot), lv_has ls 2 [(0, .ref (ad 0))] → W p l e (gRm 2) s m args below meth c H locs 0 0 Q (F0 m 135 ls [.int u95, .ref (ad 0)]) := by
        intro u95 h H locs hW ls hl
        replace h := jn1 e97 h
        refine g_putI K hW (ci := 6) (k := 10) kLM_0 rfl rfl i_X7 tyX7_ok nmX7 (by decide) q_1087 rfl rfl rfl rfl dX7_nextToken_135 (fun H locs hW => ?_)
        obtain ⟨I99, e100, h⟩ := lz_o h
        replace hW := gWd_nI e100 hW
        refine lv_aload_n hx hb dX7_nextToken_138 rfl (lv_at hl 0 rfl) ?_
        refine lv_dup hx hb dX7_nextToken_139 rfl ?_
        refine g_get K hW (t := 0) (ci := 6) (k := 7) (v := .int (I99 0 7)) kLM_0 rfl rfl i_X7 (by decide) q_1084 rfl rfl dX7_nextToken_140 ?_
        refine lv_iconst (v := (1 : Int32)) hx hb dX7_nextToken_143 (by decide) ?_
        refine lv_iadd hx hb dX7_nextToken_144 ?_
        refine g_putI K hW (ci := 6) (k := 7) kLM_0 rfl rfl i_X7 tyX7_ok nmX7 (by decide) q_1084 rfl rfl rfl rfl dX7_nextToken_145 (fun H locs hW => ?_)
        obtain ⟨I101, e102, h⟩ := lz_o h
        replace hW := gWd_nI e102 hW
        refine lv_goto (tgt := 85) hx hb dX7_nextToken_148 (by decide) ?_
        exact ih I101 J _ h hn _ _ hW _ (lv_sub hl [0] rfl) hx1
      refine lv_icmp_le (tgt := 116) hx hb dX7_nextToken_106 (by decide) (fun c103 => ?_) (fun c103 => ?_)
      · replace h := gi_t h c103
        refine lv_bipush (v := (10 : Int32)) hx hb dX7_nextToken_116 (by decide) ?_
        refine lv_aload_n hx hb dX7_nextToken_118 rfl (lv_at hl 0 rfl) ?_
        refine g_get K hW (t := 0) (ci := 6) (k := 10) (v := .int (I 0 10)) kLM_0 rfl rfl i_X7 (by decide) q_1087 rfl rfl dX7_nextToken_119 ?_
        refine lv_imul hx hb dX7_nextToken_122 ?_
        refine lv_aload_n hx hb dX7_nextToken_123 rfl (lv_at hl 0 rfl) ?_
        refine lv_aload_n hx hb dX7_nextToken_124 rfl (lv_at hl 0 rfl) ?_
        refine g_get K hW (t := 0) (ci := 6) (k := 7) (v := .int (I 0 7)) kLM_0 rfl rfl i_X7 (by decide) q_1084 rfl rfl dX7_nextToken_125 ?_
        obtain ⟨u104, e105, h⟩ := bd_o h hn
        refine g_callVi (rest := [.int ((10 : Int32) * (I 0 10)), .ref (ad 0)]) K hW hl (kX7_byteAt (l := l) (G := G) (ad := ad) hok (I 0 7) I J u104 e105) kLM_0 rfl (gG_V q_1205 q_1207 q_55 q_139 q_1208) nm_X7_byteAt ⟨Nat.le_of_ble_eq_true rfl, Nat.le_of_ble_eq_true rfl⟩ rfl rfl (Nat.le_of_ble_eq_true rfl) ⟨Nat.zero_le _, Nat.zero_le _⟩ dX7_nextToken_128 (fun z106 H locs hW => ?_)
        refine lv_iadd hx hb dX7_nextToken_131 ?_
        refine lv_bipush (v := (48 : Int32)) hx hb dX7_nextToken_132 (by decide) ?_
        refine lv_isub hx hb dX7_nextToken_134 ?_
        exact hj98 ((((10 : Int32) * (I 0 10)) + u104) - (48 : Int32)) h _ _ hW _ (lv_sub hl [0] rfl)
      · replace h := gi_f h c103
        refine lv_aload_n hx hb dX7_nextToken_109 rfl (lv_at hl 0 rfl) ?_
        refine g_get K hW (t := 0) (ci := 6) (k := 10) (v := .int (I 0 10)) kLM_0 rfl rfl i_X7 (by decide) q_1087 rfl rfl dX7_nextToken_110 ?_
        refine lv_goto (tgt := 135) hx hb dX7_nextToken_113 (by decide) ?_
        exact hj98 (I 0 10) h _ _ hW _ (lv_sub hl [0] rfl)
noncomputable def fX7_nextToken   (I : gI) (J : gJ) : Option (gI × gJ) :=
  bd (fX7_nextToken_0 FU I) (fun (I17 : gI) => lz (wI I17 0 8 (I17 0 7)) (fun (I19 : gI) => bd (fX7_byteAt (I19 0 7) I19) (fun (u21 : Int32) => gi (0 ≤ u21)
 (gi ((fX7_isFigure u21) = 0)
 (gi ((fX7_isLetterByte u21) = 0)
 (lz (fun (u30 : Int32) => lz (wI I19 0 9 u30) (fun (I34 : gI) => lz (wI I34 0 7 ((I34 0 7) + (1 : Int32))) (fun (I36 : gI) => lz (bd (fX7_byteAt (I36 0 7) I36) (fun (u41 : Int32) => gi (u41 = (61 : Int32))
 (lz (fun (u45 : Int32) => lz (wI I36 0 9 u45) (fun (I49 : gI) => lz (wI I49 0 7 ((I49 0 7) + (1 : Int32))) (fun (I51 : gI) => some (I51, J)))) (fun j46 => gi (u21 = (60 : Int32))
 (j46 (4 : Int32))
 (j46 (5 : Int32))))
 (some (I36, J)))) (fun j38 => gi (u21 = (60 : Int32))
 (j38)
 (gi (u21 = (62 : Int32))
 (j38)
 (some (I36, J))))))) (fun j31 => gi ((fX7_isSign u21) = 0)
 (j31 (3 : Int32))
 (j31 u21)))
 (lz (wI I19 0 9 (2 : Int32)) (fun (I57 : gI) => lz (wJ J 0 11 (0 : Int64)) (fun (J59 : gJ) => bd (fX7_nextToken_168 FU I57 J59) (pr (fun (I82 : gI) (J83 : gJ) => some (I82, J83)))))))
 (lz (wI I19 0 9 (1 : Int32)) (fun (I85 : gI) => lz (wI I85 0 10 (0 : Int32)) (fun (I87 : gI) => bd (fX7_nextToken_85 FU I87) (fun (I109 : gI) => some (I109, J))))))
 (lz (wI I19 0 9 (0 : Int32)) (fun (I111 : gI) => some (I111, J))))))
set_option maxHeartbeats 4000000 in
set_option maxRecDepth 100000 in
theorem kX7_nextToken {l : Launch} {G : gG} {ad : Nat → Nat} (hok : gInj LM ad)     (I : gI) (J : gJ) (I' : gI) (J' : gJ) (h : fX7_nextToken I J = some (I', J')) : gMv l yX7_nextToken cX7_nextToken 2 none 2 G LM ad [.ref (ad 0)] I J I' J' := by
  refine gMv_of (lst := [(0, .ref (ad 0))]) (by decide) hok (Nat.le_of_ble_eq_true rfl) rfl ?_
  intro p e s m args below meth c Q ls K hW hl hfin
  have hn : (some (I', J') : Option (gI × gJ)) ≠ none := Option.some_ne_none _
  have hx := K.1; have hb := K.2.1; have hown := K.2.2.2.1; have hts := K.2.2.2.2.1
  unfold fX7_nextToken at h
  obtain ⟨r15, e16, h⟩ := bd_o h hn
  refine tX7_nextToken_0 hok K FU I J (some r15) e16 (Option.some_ne_none _) _ _ hW _ (lv_sub hl [0] rfl) ?_
  · intro I17 q18 H locs hW ls hl
    replace q18 := Option.some.inj q18
    subst q18
    refine lv_aload_n hx hb dX7_nextToken_39 rfl (lv_at hl 0 rfl) ?_
    refine lv_aload_n hx hb dX7_nextToken_40 rfl (lv_at hl 0 rfl) ?_
    refine g_get K hW (t := 0) (ci := 6) (k := 7) (v := .int (I17 0 7)) kLM_0 rfl rfl i_X7 (by decide) q_1084 rfl rfl dX7_nextToken_41 ?_
    refine g_putI K hW (ci := 6) (k := 8) kLM_0 rfl rfl i_X7 tyX7_ok nmX7 (by decide) q_1085 rfl rfl rfl rfl dX7_nextToken_44 (fun H locs hW => ?_)
    obtain ⟨I19, e20, h⟩ := lz_o h
    replace hW := gWd_nI e20 hW
    refine lv_aload_n hx hb dX7_nextToken_47 rfl (lv_at hl 0 rfl) ?_
    refine lv_aload_n hx hb dX7_nextToken_48 rfl (lv_at hl 0 rfl) ?_
    refine g_get K hW (t := 0) (ci := 6) (k := 7) (v := .int (I19 0 7)) kLM_0 rfl rfl i_X7 (by decide) q_1084 rfl rfl dX7_nextToken_49 ?_
    obtain ⟨u21, e22, h⟩ := bd_o h hn
    refine g_callVi (rest := []) K hW hl (kX7_byteAt (l := l) (G := G) (ad := ad) hok (I19 0 7) I19 J u21 e22) kLM_0 rfl (gG_V q_1205 q_1207 q_55 q_139 q_1208) nm_X7_byteAt ⟨Nat.le_of_ble_eq_true rfl, Nat.le_of_ble_eq_true rfl⟩ rfl rfl (Nat.le_of_ble_eq_true rfl) ⟨Nat.zero_le _, Nat.zero_le _⟩ dX7_nextToken_52 (fun z23 H locs hW => ?_)
    refine lv_istore_n (lv' := [(1, .int u21), (0, .ref (ad 0))]) hx hb dX7_nextToken_55 rfl hl (by decide) rfl (fun ls hl => ?_)
    refine lv_iload_n hx hb dX7_nextToken_56 rfl (lv_at hl 0 rfl) ?_
    refine lv_if_ge (tgt := 68) hx hb dX7_nextToken_57 (by decide) (fun c24 => ?_) (fun c24 => ?_)
    · replace h := gi_t h c24
      refine lv_iload_n hx hb dX7_nextToken_68 rfl (lv_at hl 0 rfl) ?_
      refine g_callSi (rest := []) K hW hl (kX7_isFigure (l := l) (G := G) (ad := ad) hok u21 I19 J (fX7_isFigure u21) rfl) q_1209 q_1210 q_139 q_1211 nm_X7_isFigure ⟨Nat.le_of_ble_eq_true rfl, Nat.le_of_ble_eq_true rfl⟩ rfl rfl (Nat.le_of_ble_eq_true rfl) ⟨Nat.zero_le _, Nat.zero_le _⟩ dX7_nextToken_69 (fun z25 H locs hW => ?_)
      refine lv_if_eq (tgt := 151) hx hb dX7_nextToken_72 (by decide) (fun c26 => ?_) (fun c26 => ?_)
      · replace h := gi_t h c26
        refine lv_iload_n hx hb dX7_nextToken_151 rfl (lv_at hl 0 rfl) ?_
        refine g_callSi (rest := []) K hW hl (kX7_isLetterByte (l := l) (G := G) (ad := ad) hok u21 I19 J (fX7_isLetterByte u21) rfl) q_1213 q_1214 q_139 q_1215 nm_X7_isLetterByte ⟨Nat.le_of_ble_eq_true rfl, Nat.le_of_ble_eq_true rfl⟩ rfl rfl (Nat.le_of_ble_eq_true rfl) ⟨Nat.zero_le _, Nat.zero_le _⟩ dX7_nextToken_152 (fun z27 H locs hW => ?_)
        refine lv_if_eq (tgt := 234) hx hb dX7_nextToken_155 (by decide) (fun c28 => ?_) (fun c28 => ?_)
        · replace h := gi_t h c28
          refine lv_aload_n hx hb dX7_nextToken_234 rfl (lv_at hl 1 rfl) ?_
          refine lv_iload_n hx hb dX7_nextToken_235 rfl (lv_at hl 0 rfl) ?_
          refine g_callSi (rest := [.ref (ad 0)]) K hW hl (kX7_isSign (l := l) (G := G) (ad := ad) hok u21 I19 J (fX7_isSign u21) rfl) q_1217 q_1218 q_139 q_1219 nm_X7_isSign ⟨Nat.le_of_ble_eq_true rfl, Nat.le_of_ble_eq_true rfl⟩ rfl rfl (Nat.le_of_ble_eq_true rfl) ⟨Nat.zero_le _, Nat.zero_le _⟩ dX7_nextToken_236 (fun z29 H locs hW => ?_)
          obtain ⟨j31, e32, h⟩ := lz_o h
          have hj33 : ∀ (u30 : Int32), j31 u30 = (some (I', J')) → ∀ (H : Heap) (locs : List Loc), gWd G LM ad (gA LM ad) s.heap I19 J H locs → ∀ (ls : Array Slot), lv_has ls 2 [(0, .ref (ad 0)), (1, .int u21)] → W p l e (gRm 2) s m args below meth c H locs 0 0 Q (F0 m 247 ls [.int u30, .ref (ad 0)]) := by
            intro u30 h H locs hW ls hl
            replace h := jn1 e32 h
            refine g_putI K hW (ci := 6) (k := 9) kLM_0 rfl rfl i_X7 tyX7_ok nmX7 (by decide) q_1086 rfl rfl rfl rfl dX7_nextToken_247 (fun H locs hW => ?_)
            obtain ⟨I34, e35, h⟩ := lz_o h
            replace hW := gWd_nI e35 hW
            refine lv_aload_n hx hb dX7_nextToken_250 rfl (lv_at hl 0 rfl) ?_
            refine lv_dup hx hb dX7_nextToken_251 rfl ?_
            refine g_get K hW (t := 0) (ci := 6) (k := 7) (v := .int (I34 0 7)) kLM_0 rfl rfl i_X7 (by decide) q_1084 rfl rfl dX7_nextToken_252 ?_
            refine lv_iconst (v := (1 : Int32)) hx hb dX7_nextToken_255 (by decide) ?_
            refine lv_iadd hx hb dX7_nextToken_256 ?_
            refine g_putI K hW (ci := 6) (k := 7) kLM_0 rfl rfl i_X7 tyX7_ok nmX7 (by decide) q_1084 rfl rfl rfl rfl dX7_nextToken_257 (fun H locs hW => ?_)
            obtain ⟨I36, e37, h⟩ := lz_o h
            replace hW := gWd_nI e37 hW
            refine lv_iload_n hx hb dX7_nextToken_260 rfl (lv_at hl 1 rfl) ?_
            refine lv_bipush (v := (60 : Int32)) hx hb dX7_nextToken_261 (by decide) ?_
            obtain ⟨j38, e39, h⟩ := lz_o h
            have hj40 : j38 = (some (I', J')) → ∀ (H : Heap) (locs : List Loc), gWd G LM ad (gA LM ad) s.heap I36 J H locs → ∀ (ls : Array Slot), lv_has ls 2 [(0, .ref (ad 0)), (1, .int u21)] → W p l e (gRm 2) s m args below meth c H locs 0 0 Q (F0 m 272 ls []) := by
              intro h H locs hW ls hl
              replace h := jn0 e39 h
              refine lv_aload_n hx hb dX7_nextToken_272 rfl (lv_at hl 0 rfl) ?_
              refine lv_aload_n hx hb dX7_nextToken_273 rfl (lv_at hl 0 rfl) ?_
              refine g_get K hW (t := 0) (ci := 6) (k := 7) (v := .int (I36 0 7)) kLM_0 rfl rfl i_X7 (by decide) q_1084 rfl rfl dX7_nextToken_274 ?_
              obtain ⟨u41, e42, h⟩ := bd_o h hn
              refine g_callVi (rest := []) K hW hl (kX7_byteAt (l := l) (G := G) (ad := ad) hok (I36 0 7) I36 J u41 e42) kLM_0 rfl (gG_V q_1205 q_1207 q_55 q_139 q_1208) nm_X7_byteAt ⟨Nat.le_of_ble_eq_true rfl, Nat.le_of_ble_eq_true rfl⟩ rfl rfl (Nat.le_of_ble_eq_true rfl) ⟨Nat.zero_le _, Nat.zero_le _⟩ dX7_nextToken_277 (fun z43 H locs hW => ?_)
              refine lv_bipush (v := (61 : Int32)) hx hb dX7_nextToken_280 (by decide) ?_
              refine lv_icmp_ne (tgt := 310) hx hb dX7_nextToken_282 (by decide) (fun c44 => ?_) (fun c44 => ?_)
              · replace h := gi_f h c44
                obtain ⟨a1, a2⟩ := so2 h
                replace hW := gWd_nI a1 hW
                replace hW := gWd_nJ a2 hW
                exact hfin _ _ _ _ hW dX7_nextToken_310
              · replace h := gi_t h c44
                refine lv_aload_n hx hb dX7_nextToken_285 rfl (lv_at hl 0 rfl) ?_
                refine lv_iload_n hx hb dX7_nextToken_286 rfl (lv_at hl 1 rfl) ?_
                refine lv_bipush (v := (60 : Int32)) hx hb dX7_nextToken_287 (by decide) ?_
                obtain ⟨j46, e47, h⟩ := lz_o h
                have hj48 : ∀ (u45 : Int32), j46 u45 = (some (I', J')) → ∀ (H : Heap) (locs : List Loc), gWd G LM ad (gA LM ad) s.heap I36 J H locs → ∀ (ls : Array Slot), lv_has ls 2 [(0, .ref (ad 0))] → W p l e (gRm 2) s m args below meth c H locs 0 0 Q (F0 m 297 ls [.int u45, .ref (ad 0)]) := by
                  intro u45 h H locs hW ls hl
                  replace h := jn1 e47 h
                  refine g_putI K hW (ci := 6) (k := 9) kLM_0 rfl rfl i_X7 tyX7_ok nmX7 (by decide) q_1086 rfl rfl rfl rfl dX7_nextToken_297 (fun H locs hW => ?_)
                  obtain ⟨I49, e50, h⟩ := lz_o h
                  replace hW := gWd_nI e50 hW
                  refine lv_aload_n hx hb dX7_nextToken_300 rfl (lv_at hl 0 rfl) ?_
                  refine lv_dup hx hb dX7_nextToken_301 rfl ?_
                  refine g_get K hW (t := 0) (ci := 6) (k := 7) (v := .int (I49 0 7)) kLM_0 rfl rfl i_X7 (by decide) q_1084 rfl rfl dX7_nextToken_302 ?_
                  refine lv_iconst (v := (1 : Int32)) hx hb dX7_nextToken_305 (by decide) ?_
                  refine lv_iadd hx hb dX7_nextToken_306 ?_
                  refine g_putI K hW (ci := 6) (k := 7) kLM_0 rfl rfl i_X7 tyX7_ok nmX7 (by decide) q_1084 rfl rfl rfl rfl dX7_nextToken_307 (fun H locs hW => ?_)
                  obtain ⟨I51, e52, h⟩ := lz_o h
                  replace hW := gWd_nI e52 hW
                  obtain ⟨a1, a2⟩ := so2 h
                  replace hW := gWd_nI a1 hW
                  replace hW := gWd_nJ a2 hW
                  exact hfin _ _ _ _ hW dX7_nextToken_310
                refine lv_icmp_ne (tgt := 296) hx hb dX7_nextToken_289 (by decide) (fun c53 => ?_) (fun c53 => ?_)
                · replace h := gi_f h c53
                  refine lv_iconst (v := (5 : Int32)) hx hb dX7_nextToken_296 (by decide) ?_
                  exact hj48 (5 : Int32) h _ _ hW _ (lv_sub hl [0] rfl)
                · replace h := gi_t h c53
                  refine lv_iconst (v := (4 : Int32)) hx hb dX7_nextToken_292 (by decide) ?_
                  refine lv_goto (tgt := 297) hx hb dX7_nextToken_293 (by decide) ?_
                  exact hj48 (4 : Int32) h _ _ hW _ (lv_sub hl [0] rfl)
            refine lv_icmp_eq (tgt := 272) hx hb dX7_nextToken_263 (by decide) (fun c54 => ?_) (fun c54 => ?_)
            · replace h := gi_t h c54
              exact hj40 h _ _ hW _ (lv_sub hl [0, 1] rfl)
            · replace h := gi_f h c54
              refine lv_iload_n hx hb dX7_nextToken_266 rfl (lv_at hl 1 rfl) ?_
              refine lv_bipush (v := (62 : Int32)) hx hb dX7_nextToken_267 (by decide) ?_
              refine lv_icmp_ne (tgt := 310) hx hb dX7_nextToken_269 (by decide) (fun c55 => ?_) (fun c55 => ?_)
              · replace h := gi_f h c55
                obtain ⟨a1, a2⟩ := so2 h
                replace hW := gWd_nI a1 hW
                replace hW := gWd_nJ a2 hW
                exact hfin _ _ _ _ hW dX7_nextToken_310
              · replace h := gi_t h c55
                exact hj40 h _ _ hW _ (lv_sub hl [0, 1] rfl)
          refine lv_if_eq (tgt := 246) hx hb dX7_nextToken_239 (by decide) (fun c56 => ?_) (fun c56 => ?_)
          · replace h := gi_t h c56
            refine lv_iconst (v := (3 : Int32)) hx hb dX7_nextToken_246 (by decide) ?_
            exact hj33 (3 : Int32) h _ _ hW _ (lv_sub hl [1, 0] rfl)
          · replace h := gi_f h c56
            refine lv_iload_n hx hb dX7_nextToken_242 rfl (lv_at hl 0 rfl) ?_
            refine lv_goto (tgt := 247) hx hb dX7_nextToken_243 (by decide) ?_
            exact hj33 u21 h _ _ hW _ (lv_sub hl [1, 0] rfl)
        · replace h := gi_f h c28
          refine lv_aload_n hx hb dX7_nextToken_158 rfl (lv_at hl 1 rfl) ?_
          refine lv_iconst (v := (2 : Int32)) hx hb dX7_nextToken_159 (by decide) ?_
          refine g_putI K hW (ci := 6) (k := 9) kLM_0 rfl rfl i_X7 tyX7_ok nmX7 (by decide) q_1086 rfl rfl rfl rfl dX7_nextToken_160 (fun H locs hW => ?_)
          obtain ⟨I57, e58, h⟩ := lz_o h
          replace hW := gWd_nI e58 hW
          refine lv_aload_n hx hb dX7_nextToken_163 rfl (lv_at hl 1 rfl) ?_
          refine lv_lconst (v := (0 : Int64)) hx hb dX7_nextToken_164 rfl ?_
          refine g_putJ K hW (ci := 6) (k := 11) kLM_0 rfl rfl i_X7 tyX7_ok nmX7 (by decide) q_1088 rfl rfl rfl rfl dX7_nextToken_165 (fun H locs hW => ?_)
          obtain ⟨J59, e60, h⟩ := lz_o h
          replace hW := gWd_nJ e60 hW
          obtain ⟨r80, e81, h⟩ := bd_o h hn
          refine tX7_nextToken_168 hok K FU I57 J59 (some r80) e81 (Option.some_ne_none _) _ _ hW _ (lv_sub hl [1] rfl) ?_
          · intro I82 J83 q84 H locs hW ls hl
            replace q84 := Option.some.inj q84
            subst q84
            replace h := pr_o h
            obtain ⟨a1, a2⟩ := so2 h
            replace hW := gWd_nI a1 hW
            replace hW := gWd_nJ a2 hW
            exact hfin _ _ _ _ hW dX7_nextToken_310
      · replace h := gi_f h c26
        refine lv_aload_n hx hb dX7_nextToken_75 rfl (lv_at hl 1 rfl) ?_
        refine lv_iconst (v := (1 : Int32)) hx hb dX7_nextToken_76 (by decide) ?_
        refine g_putI K hW (ci := 6) (k := 9) kLM_0 rfl rfl i_X7 tyX7_ok nmX7 (by decide) q_1086 rfl rfl rfl rfl dX7_nextToken_77 (fun H locs hW => ?_)
        obtain ⟨I85, e86, h⟩ := lz_o h
        replace hW := gWd_nI e86 hW
        refine lv_aload_n hx hb dX7_nextToken_80 rfl (lv_at hl 1 rfl) ?_
        refine lv_iconst (v := (0 : Int32)) hx hb dX7_nextToken_81 (by decide) ?_
        refine g_putI K hW (ci := 6) (k := 10) kLM_0 rfl rfl i_X7 tyX7_ok nmX7 (by decide) q_1087 rfl rfl rfl rfl dX7_nextToken_82 (fun H locs hW => ?_)
        obtain ⟨I87, e88, h⟩ := lz_o h
        replace hW := gWd_nI e88 hW
        obtain ⟨r107, e108, h⟩ := bd_o h hn
        refine tX7_nextToken_85 hok K FU I87 J (some r107) e108 (Option.some_ne_none _) _ _ hW _ (lv_sub hl [1] rfl) ?_
        · intro I109 q110 H locs hW ls hl
          replace q110 := Option.some.inj q110
          subst q110
          obtain ⟨a1, a2⟩ := so2 h
          replace hW := gWd_nI a1 hW
          replace hW := gWd_nJ a2 hW
          exact hfin _ _ _ _ hW dX7_nextToken_310
    · replace h := gi_f h c24
      refine lv_aload_n hx hb dX7_nextToken_60 rfl (lv_at hl 1 rfl) ?_
      refine lv_iconst (v := (0 : Int32)) hx hb dX7_nextToken_61 (by decide) ?_
      refine g_putI K hW (ci := 6) (k := 9) kLM_0 rfl rfl i_X7 tyX7_ok nmX7 (by decide) q_1086 rfl rfl rfl rfl dX7_nextToken_62 (fun H locs hW => ?_)
      obtain ⟨I111, e112, h⟩ := lz_o h
      replace hW := gWd_nI e112 hW
      refine lv_goto (tgt := 310) hx hb dX7_nextToken_65 (by decide) ?_
      obtain ⟨a1, a2⟩ := so2 h
      replace hW := gWd_nI a1 hW
      replace hW := gWd_nJ a2 hW
      exact hfin _ _ _ _ hW dX7_nextToken_310
noncomputable def fX7_w2  (x0 : Int32) (x1 : Int32)  : Int64 :=
  ((jlshl (x0).toInt64 (8 : Int32)) ||| (x1).toInt64)
set_option maxHeartbeats 4000000 in
set_option maxRecDepth 100000 in
theorem kX7_w2 {l : Launch} {G : gG} {ad : Nat → Nat} (hok : gInj LM ad)    (x0 : Int32) (x1 : Int32) (I : gI) (J : gJ) (r : Int64) (h : fX7_w2 x0 x1 = r) : gMl l yX7_w2 cX7_w2 2 (some .long) 1 G LM ad [.int x0, .int x1] I J r I J := by
  refine gMl_of (lst := [(0, .int x0), (1, .int x1)]) (by decide) hok (Nat.le_of_ble_eq_true rfl) rfl ?_
  intro p e s m args below meth c Q ls K hW hl hfin
  have hx := K.1; have hb := K.2.1; have hown := K.2.2.2.1; have hts := K.2.2.2.2.1
  unfold fX7_w2 at h
  refine lv_iload_n hx hb dX7_w2_0 rfl (lv_at hl 0 rfl) ?_
  refine lv_i2l hx hb dX7_w2_1 rfl ?_
  refine lv_bipush (v := (8 : Int32)) hx hb dX7_w2_2 (by decide) ?_
  refine g_lshl hx hb dX7_w2_4 ?_
  refine lv_iload_n hx hb dX7_w2_5 rfl (lv_at hl 1 rfl) ?_
  refine lv_i2l hx hb dX7_w2_6 rfl ?_
  refine lv_lor hx hb dX7_w2_7 ?_
  obtain a1 := h.symm
  exact g_nml a1 (hfin _ _ _ _ hW dX7_w2_8)
theorem nm_X7_w2 : gNm yX7_w2 2 := by decide +kernel
noncomputable def fX7_w3  (x0 : Int32) (x1 : Int32) (x2 : Int32)  : Int64 :=
  ((jlshl (fX7_w2 x0 x1) (8 : Int32)) ||| (x2).toInt64)
set_option maxHeartbeats 4000000 in
set_option maxRecDepth 100000 in
theorem kX7_w3 {l : Launch} {G : gG} {ad : Nat → Nat} (hok : gInj LM ad)    (x0 : Int32) (x1 : Int32) (x2 : Int32) (I : gI) (J : gJ) (r : Int64) (h : fX7_w3 x0 x1 x2 = r) : gMl l yX7_w3 cX7_w3 3 (some .long) 2 G LM ad [.int x0, .int x1, .int x2] I J r I J := by
  refine gMl_of (lst := [(0, .int x0), (1, .int x1), (2, .int x2)]) (by decide) hok (Nat.le_of_ble_eq_true rfl) rfl ?_
  intro p e s m args below meth c Q ls K hW hl hfin
  have hx := K.1; have hb := K.2.1; have hown := K.2.2.2.1; have hts := K.2.2.2.2.1
  unfold fX7_w3 at h
  refine lv_iload_n hx hb dX7_w3_0 rfl (lv_at hl 0 rfl) ?_
  refine lv_iload_n hx hb dX7_w3_1 rfl (lv_at hl 1 rfl) ?_
  refine g_callSl (rest := []) K hW hl (kX7_w2 (l := l) (G := G) (ad := ad) hok x0 x1 I J (fX7_w2 x0 x1) rfl) q_1234 q_1235 q_139 q_1236 nm_X7_w2 ⟨Nat.le_of_ble_eq_true rfl, Nat.le_of_ble_eq_true rfl⟩ rfl rfl (Nat.le_of_ble_eq_true rfl) ⟨Nat.zero_le _, Nat.zero_le _⟩ dX7_w3_2 (fun H locs hW => ?_)
  refine lv_bipush (v := (8 : Int32)) hx hb dX7_w3_5 (by decide) ?_
  refine g_lshl hx hb dX7_w3_7 ?_
  refine lv_iload_n hx hb dX7_w3_8 rfl (lv_at hl 2 rfl) ?_
  refine lv_i2l hx hb dX7_w3_9 rfl ?_
  refine lv_lor hx hb dX7_w3_10 ?_
  obtain a1 := h.symm
  exact g_nml a1 (hfin _ _ _ _ hW dX7_w3_11)
theorem nm_X7_w3 : gNm yX7_w3 3 := by decide +kernel
noncomputable def fX7_w4  (x0 : Int32) (x1 : Int32) (x2 : Int32) (x3 : Int32)  : Int64 :=
  ((jlshl (fX7_w3 x0 x1 x2) (8 : Int32)) ||| (x3).toInt64)
set_option maxHeartbeats 4000000 in
set_option maxRecDepth 100000 in
theorem kX7_w4 {l : Launch} {G : gG} {ad : Nat → Nat} (hok : gInj LM ad)    (x0 : Int32) (x1 : Int32) (x2 : Int32) (x3 : Int32) (I : gI) (J : gJ) (r : Int64) (h : fX7_w4 x0 x1 x2 x3 = r) : gMl l yX7_w4 cX7_w4 4 (some .long) 3 G LM ad [.int x0, .int x1, .int x2, .int x3] I J r I J := by
  refine gMl_of (lst := [(0, .int x0), (1, .int x1), (2, .int x2), (3, .int x3)]) (by decide) hok (Nat.le_of_ble_eq_true rfl) rfl ?_
  intro p e s m args below meth c Q ls K hW hl hfin
  have hx := K.1; have hb := K.2.1; have hown := K.2.2.2.1; have hts := K.2.2.2.2.1
  unfold fX7_w4 at h
  refine lv_iload_n hx hb dX7_w4_0 rfl (lv_at hl 0 rfl) ?_
  refine lv_iload_n hx hb dX7_w4_1 rfl (lv_at hl 1 rfl) ?_
  refine lv_iload_n hx hb dX7_w4_2 rfl (lv_at hl 2 rfl) ?_
  refine g_callSl (rest := []) K hW hl (kX7_w3 (l := l) (G := G) (ad := ad) hok x0 x1 x2 I J (fX7_w3 x0 x1 x2) rfl) q_1231 q_1232 q_139 q_1233 nm_X7_w3 ⟨Nat.le_of_ble_eq_true rfl, Nat.le_of_ble_eq_true rfl⟩ rfl rfl (Nat.le_of_ble_eq_true rfl) ⟨Nat.zero_le _, Nat.zero_le _⟩ dX7_w4_3 (fun H locs hW => ?_)
  refine lv_bipush (v := (8 : Int32)) hx hb dX7_w4_6 (by decide) ?_
  refine g_lshl hx hb dX7_w4_8 ?_
  refine lv_iload_n hx hb dX7_w4_9 rfl (lv_at hl 3 rfl) ?_
  refine lv_i2l hx hb dX7_w4_10 rfl ?_
  refine lv_lor hx hb dX7_w4_11 ?_
  obtain a1 := h.symm
  exact g_nml a1 (hfin _ _ _ _ hW dX7_w4_12)
theorem nm_X7_w4 : gNm yX7_w4 4 := by decide +kernel
noncomputable def fX7_w5  (x0 : Int32) (x1 : Int32) (x2 : Int32) (x3 : Int32) (x4 : Int32)  : Int64 :=
  ((jlshl (fX7_w4 x0 x1 x2 x3) (8 : Int32)) ||| (x4).toInt64)
set_option maxHeartbeats 4000000 in
set_option maxRecDepth 100000 in
theorem kX7_w5 {l : Launch} {G : gG} {ad : Nat → Nat} (hok : gInj LM ad)    (x0 : Int32) (x1 : Int32) (x2 : Int32) (x3 : Int32) (x4 : Int32) (I : gI) (J : gJ) (r : Int64) (h : fX7_w5 x0 x1 x2 x3 x4 = r) : gMl l yX7_w5 cX7_w5 5 (some .long) 4 G LM ad [.int x0, .int x1, .int x2, .int x3, .int x4] I J r I J := by
  refine gMl_of (lst := [(0, .int x0), (1, .int x1), (2, .int x2), (3, .int x3), (4, .int x4)]) (by decide) hok (Nat.le_of_ble_eq_true rfl) rfl ?_
  intro p e s m args below meth c Q ls K hW hl hfin
  have hx := K.1; have hb := K.2.1; have hown := K.2.2.2.1; have hts := K.2.2.2.2.1
  unfold fX7_w5 at h
  refine lv_iload_n hx hb dX7_w5_0 rfl (lv_at hl 0 rfl) ?_
  refine lv_iload_n hx hb dX7_w5_1 rfl (lv_at hl 1 rfl) ?_
  refine lv_iload_n hx hb dX7_w5_2 rfl (lv_at hl 2 rfl) ?_
  refine lv_iload_n hx hb dX7_w5_3 rfl (lv_at hl 3 rfl) ?_
  refine g_callSl (rest := []) K hW hl (kX7_w4 (l := l) (G := G) (ad := ad) hok x0 x1 x2 x3 I J (fX7_w4 x0 x1 x2 x3) rfl) q_1228 q_1229 q_139 q_1230 nm_X7_w4 ⟨Nat.le_of_ble_eq_true rfl, Nat.le_of_ble_eq_true rfl⟩ rfl rfl (Nat.le_of_ble_eq_true rfl) ⟨Nat.zero_le _, Nat.zero_le _⟩ dX7_w5_4 (fun H locs hW => ?_)
  refine lv_bipush (v := (8 : Int32)) hx hb dX7_w5_7 (by decide) ?_
  refine g_lshl hx hb dX7_w5_9 ?_
  refine lv_iload hx hb dX7_w5_10 (lv_at hl 4 rfl) ?_
  refine lv_i2l hx hb dX7_w5_12 rfl ?_
  refine lv_lor hx hb dX7_w5_13 ?_
  obtain a1 := h.symm
  exact g_nml a1 (hfin _ _ _ _ hW dX7_w5_14)
noncomputable def fX7_isWord  (x1 : Int64) (I : gI) (J : gJ) : Int32 :=
  gi ((I 0 9) = (2 : Int32))
 (gi ((lg_cmp (J 0 11) x1) = 0)
 ((1 : Int32))
 ((0 : Int32)))
 ((0 : Int32))
set_option maxHeartbeats 4000000 in
set_option maxRecDepth 100000 in
theorem kX7_isWord {l : Launch} {G : gG} {ad : Nat → Nat} (hok : gInj LM ad)    (x1 : Int64) (I : gI) (J : gJ) (r : Int32) (h : fX7_isWord x1 I J = r) : gMi l yX7_isWord cX7_isWord 3 (some .boolean) 1 G LM ad [.ref (ad 0), .long x1] I J r (r = 0 ∨ r = 1) I J := by
  refine gMz_of (lst := [(0, .ref (ad 0)), (1, .long x1)]) (by decide) hok (Nat.le_of_ble_eq_true rfl) rfl ?_
  intro p e s m args below meth c Q ls K hW hl hfin
  have hx := K.1; have hb := K.2.1; have hown := K.2.2.2.1; have hts := K.2.2.2.2.1
  unfold fX7_isWord at h
  refine lv_aload_n hx hb dX7_isWord_0 rfl (lv_at hl 0 rfl) ?_
  refine g_get K hW (t := 0) (ci := 6) (k := 9) (v := .int (I 0 9)) kLM_0 rfl rfl i_X7 (by decide) q_1086 rfl rfl dX7_isWord_1 ?_
  refine lv_iconst (v := (2 : Int32)) hx hb dX7_isWord_4 (by decide) ?_
  refine lv_icmp_ne (tgt := 21) hx hb dX7_isWord_5 (by decide) (fun c1 => ?_) (fun c1 => ?_)
  · replace h := gi_f h c1
    refine lv_iconst (v := (0 : Int32)) hx hb dX7_isWord_21 (by decide) ?_
    obtain a1 := h.symm
    exact g_nmi a1 (hfin _ _ _ _ (a1 ▸ (Or.inl rfl)) hW dX7_isWord_22)
  · replace h := gi_t h c1
    refine lv_aload_n hx hb dX7_isWord_8 rfl (lv_at hl 0 rfl) ?_
    refine g_get K hW (t := 1) (ci := 6) (k := 11) (v := .long (J 0 11)) kLM_0 rfl rfl i_X7 (by decide) q_1088 rfl rfl dX7_isWord_9 ?_
    refine lv_lload_n hx hb dX7_isWord_12 rfl (lv_at hl 1 rfl) ?_
    refine W.lcmp hx hb dX7_isWord_13 ?_
    refine lv_if_ne (tgt := 21) hx hb dX7_isWord_14 (by decide) (fun c2 => ?_) (fun c2 => ?_)
    · replace h := gi_f h c2
      refine lv_iconst (v := (0 : Int32)) hx hb dX7_isWord_21 (by decide) ?_
      obtain a1 := h.symm
      exact g_nmi a1 (hfin _ _ _ _ (a1 ▸ (Or.inl rfl)) hW dX7_isWord_22)
    · replace h := gi_t h c2
      refine lv_iconst (v := (1 : Int32)) hx hb dX7_isWord_17 (by decide) ?_
      refine lv_goto (tgt := 22) hx hb dX7_isWord_18 (by decide) ?_
      obtain a1 := h.symm
      exact g_nmi a1 (hfin _ _ _ _ (a1 ▸ (Or.inr rfl)) hW dX7_isWord_22)
theorem kLM_3 : gAt LM 3 1 2724 := ⟨by decide, by decide +kernel⟩
theorem rLM_0_2 : LM.2.2 0 2 = some 3 := by decide +kernel
noncomputable def fX7_emit  (x1 : Int32) (x2 : Int32) (I : gI) : Option (gI) :=
  gd (vp_in (((I 0 12) + (73 : Int32)) + ((2 : Int32) * (I 0 13))) 2724) (lz (wI I 3 ((((I 0 12) + (73 : Int32)) + ((2 : Int32) * (I 0 13)))).toNatClampNeg x1) (fun (I3 : gI) => gd (vp_in ((((I3 0 12) + (73 : Int32)) + ((2 : Int32) * (I3 0 13))) + (1 : Int32)) 2724) (lz (wI I3 3 (((((I3 0 12) + (73 : Int32)) + ((2 : Int32) * (I3 0 13))) + (1 : Int32))).toNatClampNeg x2) (fun (I6 : gI) => lz (wI I6 0 13 ((I6 0 13) + (1 : Int32))) (fun (I7 : gI) => some I7)))))
set_option maxHeartbeats 4000000 in
set_option maxRecDepth 100000 in
theorem kX7_emit {l : Launch} {G : gG} {ad : Nat → Nat} (hok : gInj LM ad)    (x1 : Int32) (x2 : Int32) (I : gI) (J : gJ) (I' : gI) (h : fX7_emit x1 x2 I = some I') : gMv l yX7_emit cX7_emit 3 none 1 G LM ad [.ref (ad 0), .int x1, .int x2] I J I' J := by
  refine gMv_of (lst := [(0, .ref (ad 0)), (1, .int x1), (2, .int x2)]) (by decide) hok (Nat.le_of_ble_eq_true rfl) rfl ?_
  intro p e s m args below meth c Q ls K hW hl hfin
  have hn : (some I' : Option (gI)) ≠ none := Option.some_ne_none _
  have hx := K.1; have hb := K.2.1; have hown := K.2.2.2.1; have hts := K.2.2.2.2.1
  unfold fX7_emit at h
  refine lv_aload_n hx hb dX7_emit_0 rfl (lv_at hl 0 rfl) ?_
  refine g_get K hW (t := 2) (ci := 6) (k := 2) (v := .ref (ad 3)) kLM_0 rfl rfl i_X7 (by decide) q_1079 rfl (gfv2 rLM_0_2) dX7_emit_1 ?_
  refine lv_aload_n hx hb dX7_emit_4 rfl (lv_at hl 0 rfl) ?_
  refine g_get K hW (t := 0) (ci := 6) (k := 12) (v := .int (I 0 12)) kLM_0 rfl rfl i_X7 (by decide) q_1089 rfl rfl dX7_emit_5 ?_
  refine lv_bipush (v := (73 : Int32)) hx hb dX7_emit_8 (by decide) ?_
  refine lv_iadd hx hb dX7_emit_10 ?_
  refine lv_iconst (v := (2 : Int32)) hx hb dX7_emit_11 (by decide) ?_
  refine lv_aload_n hx hb dX7_emit_12 rfl (lv_at hl 0 rfl) ?_
  refine g_get K hW (t := 0) (ci := 6) (k := 13) (v := .int (I 0 13)) kLM_0 rfl rfl i_X7 (by decide) q_1090 rfl rfl dX7_emit_13 ?_
  refine lv_imul hx hb dX7_emit_16 ?_
  refine lv_iadd hx hb dX7_emit_17 ?_
  refine lv_iload_n hx hb dX7_emit_18 rfl (lv_at hl 1 rfl) ?_
  obtain ⟨g1, h⟩ := gd_o h hn
  refine g_iast K hW kLM_3 g1 rfl dX7_emit_19 (fun H locs hW => ?_)
  obtain ⟨I3, e2, h⟩ := lz_o h
  replace hW := gWd_nI e2 hW
  refine lv_aload_n hx hb dX7_emit_20 rfl (lv_at hl 0 rfl) ?_
  refine g_get K hW (t := 2) (ci := 6) (k := 2) (v := .ref (ad 3)) kLM_0 rfl rfl i_X7 (by decide) q_1079 rfl (gfv2 rLM_0_2) dX7_emit_21 ?_
  refine lv_aload_n hx hb dX7_emit_24 rfl (lv_at hl 0 rfl) ?_
  refine g_get K hW (t := 0) (ci := 6) (k := 12) (v := .int (I3 0 12)) kLM_0 rfl rfl i_X7 (by decide) q_1089 rfl rfl dX7_emit_25 ?_
  refine lv_bipush (v := (73 : Int32)) hx hb dX7_emit_28 (by decide) ?_
  refine lv_iadd hx hb dX7_emit_30 ?_
  refine lv_iconst (v := (2 : Int32)) hx hb dX7_emit_31 (by decide) ?_
  refine lv_aload_n hx hb dX7_emit_32 rfl (lv_at hl 0 rfl) ?_
  refine g_get K hW (t := 0) (ci := 6) (k := 13) (v := .int (I3 0 13)) kLM_0 rfl rfl i_X7 (by decide) q_1090 rfl rfl dX7_emit_33 ?_
  refine lv_imul hx hb dX7_emit_36 ?_
  refine lv_iadd hx hb dX7_emit_37 ?_
  refine lv_iconst (v := (1 : Int32)) hx hb dX7_emit_38 (by decide) ?_
  refine lv_iadd hx hb dX7_emit_39 ?_
  refine lv_iload_n hx hb dX7_emit_40 rfl (lv_at hl 2 rfl) ?_
  obtain ⟨g4, h⟩ := gd_o h hn
  refine g_iast K hW kLM_3 g4 rfl dX7_emit_41 (fun H locs hW => ?_)
  obtain ⟨I6, e5, h⟩ := lz_o h
  replace hW := gWd_nI e5 hW
  refine lv_aload_n hx hb dX7_emit_42 rfl (lv_at hl 0 rfl) ?_
  refine lv_dup hx hb dX7_emit_43 rfl ?_
  refine g_get K hW (t := 0) (ci := 6) (k := 13) (v := .int (I6 0 13)) kLM_0 rfl rfl i_X7 (by decide) q_1090 rfl rfl dX7_emit_44 ?_
  refine lv_iconst (v := (1 : Int32)) hx hb dX7_emit_47 (by decide) ?_
  refine lv_iadd hx hb dX7_emit_48 ?_
  refine g_putI K hW (ci := 6) (k := 13) kLM_0 rfl rfl i_X7 tyX7_ok nmX7 (by decide) q_1090 rfl rfl rfl rfl dX7_emit_49 (fun H locs hW => ?_)
  obtain ⟨I7, e8, h⟩ := lz_o h
  replace hW := gWd_nI e8 hW
  obtain a1 := so1 h
  replace hW := gWd_nI a1 hW
  exact hfin _ _ _ _ hW dX7_emit_52
theorem nm_X7_w5 : gNm yX7_w5 5 := by decide +kernel
noncomputable def fX7_nameOf   (I : gI) (J : gJ) : Int32 :=
  gi ((I 0 9) = (2 : Int32))
 (gi ((lg_cmp (J 0 11) (fX7_w3 (100 : Int32) (97 : Int32) (121 : Int32))) = 0)
 ((0 : Int32))
 (lz ((fX7_w5 (98 : Int32) (117 : Int32) (121 : Int32) (101 : Int32) (114 : Int32))) (fun (u5 : Int64) => gi ((lg_cmp (J 0 11) u5) = 0)
 ((1 : Int32))
 (gi ((lg_cmp (J 0 11) (fX7_w4 (115 : Int32) (111 : Int32) (114 : Int32) (116 : Int32))) = 0)
 ((2 : Int32))
 (gi ((lg_cmp (J 0 11) (fX7_w4 (108 : Int32) (111 : Int32) (110 : Int32) (103 : Int32))) = 0)
 ((3 : Int32))
 (gi ((lg_cmp (J 0 11) (fX7_w3 (111 : Int32) (119 : Int32) (110 : Int32))) = 0)
 ((4 : Int32))
 (gi ((lg_cmp (J 0 11) (fX7_w4 (102 : Int32) (114 : Int32) (101 : Int32) (101 : Int32))) = 0)
 ((5 : Int32))
 (lz ((fX7_w5 (119 : Int32) (97 : Int32) (110 : Int32) (116 : Int32) (115 : Int32))) (fun (u17 : Int64) => gi ((lg_cmp (J 0 11) u17) = 0)
 ((6 : Int32))
 (gi ((lg_cmp (J 0 11) (fX7_w3 (104 : Int32) (97 : Int32) (115 : Int32))) = 0)
 ((7 : Int32))
 ((-1 : Int32))))))))))))
 ((-1 : Int32))
set_option maxHeartbeats 4000000 in
set_option maxRecDepth 100000 in
theorem kX7_nameOf {l : Launch} {G : gG} {ad : Nat → Nat} (hok : gInj LM ad)     (I : gI) (J : gJ) (r : Int32) (h : fX7_nameOf I J = r) : gMi l yX7_nameOf cX7_nameOf 1 (some .int) 5 G LM ad [.ref (ad 0)] I J r True I J := by
  refine gMi_of (lst := [(0, .ref (ad 0))]) (by decide) hok (Nat.le_of_ble_eq_true rfl) rfl ?_
  intro p e s m args below meth c Q ls K hW hl hfin
  have hx := K.1; have hb := K.2.1; have hown := K.2.2.2.1; have hts := K.2.2.2.2.1
  unfold fX7_nameOf at h
  refine lv_aload_n hx hb dX7_nameOf_0 rfl (lv_at hl 0 rfl) ?_
  refine g_get K hW (t := 0) (ci := 6) (k := 9) (v := .int (I 0 9)) kLM_0 rfl rfl i_X7 (by decide) q_1086 rfl rfl dX7_nameOf_1 ?_
  refine lv_iconst (v := (2 : Int32)) hx hb dX7_nameOf_4 (by decide) ?_
  refine lv_icmp_eq (tgt := 10) hx hb dX7_nameOf_5 (by decide) (fun c1 => ?_) (fun c1 => ?_)
  · replace h := gi_t h c1
    refine lv_aload_n hx hb dX7_nameOf_10 rfl (lv_at hl 0 rfl) ?_
    refine g_get K hW (t := 1) (ci := 6) (k := 11) (v := .long (J 0 11)) kLM_0 rfl rfl i_X7 (by decide) q_1088 rfl rfl dX7_nameOf_11 ?_
    refine lv_bipush (v := (100 : Int32)) hx hb dX7_nameOf_14 (by decide) ?_
    refine lv_bipush (v := (97 : Int32)) hx hb dX7_nameOf_16 (by decide) ?_
    refine lv_bipush (v := (121 : Int32)) hx hb dX7_nameOf_18 (by decide) ?_
    refine g_callSl (rest := [.long (J 0 11)]) K hW hl (kX7_w3 (l := l) (G := G) (ad := ad) hok (100 : Int32) (97 : Int32) (121 : Int32) I J (fX7_w3 (100 : Int32) (97 : Int32) (121 : Int32)) rfl) q_1231 q_1232 q_139 q_1233 nm_X7_w3 ⟨Nat.le_of_ble_eq_true rfl, Nat.le_of_ble_eq_true rfl⟩ rfl rfl (Nat.le_of_ble_eq_true rfl) ⟨Nat.zero_le _, Nat.zero_le _⟩ dX7_nameOf_20 (fun H locs hW => ?_)
    refine W.lcmp hx hb dX7_nameOf_23 ?_
    refine lv_if_ne (tgt := 29) hx hb dX7_nameOf_24 (by decide) (fun c3 => ?_) (fun c3 => ?_)
    · replace h := gi_f h c3
      refine lv_aload_n hx hb dX7_nameOf_29 rfl (lv_at hl 0 rfl) ?_
      refine g_get K hW (t := 1) (ci := 6) (k := 11) (v := .long (J 0 11)) kLM_0 rfl rfl i_X7 (by decide) q_1088 rfl rfl dX7_nameOf_30 ?_
      refine lv_bipush (v := (98 : Int32)) hx hb dX7_nameOf_33 (by decide) ?_
      refine lv_bipush (v := (117 : Int32)) hx hb dX7_nameOf_35 (by decide) ?_
      refine lv_bipush (v := (121 : Int32)) hx hb dX7_nameOf_37 (by decide) ?_
      refine lv_bipush (v := (101 : Int32)) hx hb dX7_nameOf_39 (by decide) ?_
      refine lv_bipush (v := (114 : Int32)) hx hb dX7_nameOf_41 (by decide) ?_
      refine g_callSl (rest := [.long (J 0 11)]) K hW hl (kX7_w5 (l := l) (G := G) (ad := ad) hok (98 : Int32) (117 : Int32) (121 : Int32) (101 : Int32) (114 : Int32) I J (fX7_w5 (98 : Int32) (117 : Int32) (121 : Int32) (101 : Int32) (114 : Int32)) rfl) q_1241 q_1242 q_139 q_1243 nm_X7_w5 ⟨Nat.le_of_ble_eq_true rfl, Nat.le_of_ble_eq_true rfl⟩ rfl rfl (Nat.le_of_ble_eq_true rfl) ⟨Nat.zero_le _, Nat.zero_le _⟩ dX7_nameOf_43 (fun H locs hW => ?_)
      obtain ⟨u5, e6, h⟩ := lz_o h
      refine g_nml e6 ?_
      refine W.lcmp hx hb dX7_nameOf_46 ?_
      refine lv_if_ne (tgt := 52) hx hb dX7_nameOf_47 (by decide) (fun c7 => ?_) (fun c7 => ?_)
      · replace h := gi_f h c7
        refine lv_aload_n hx hb dX7_nameOf_52 rfl (lv_at hl 0 rfl) ?_
        refine g_get K hW (t := 1) (ci := 6) (k := 11) (v := .long (J 0 11)) kLM_0 rfl rfl i_X7 (by decide) q_1088 rfl rfl dX7_nameOf_53 ?_
        refine lv_bipush (v := (115 : Int32)) hx hb dX7_nameOf_56 (by decide) ?_
        refine lv_bipush (v := (111 : Int32)) hx hb dX7_nameOf_58 (by decide) ?_
        refine lv_bipush (v := (114 : Int32)) hx hb dX7_nameOf_60 (by decide) ?_
        refine lv_bipush (v := (116 : Int32)) hx hb dX7_nameOf_62 (by decide) ?_
        refine g_callSl (rest := [.long (J 0 11)]) K hW hl (kX7_w4 (l := l) (G := G) (ad := ad) hok (115 : Int32) (111 : Int32) (114 : Int32) (116 : Int32) I J (fX7_w4 (115 : Int32) (111 : Int32) (114 : Int32) (116 : Int32)) rfl) q_1228 q_1229 q_139 q_1230 nm_X7_w4 ⟨Nat.le_of_ble_eq_true rfl, Nat.le_of_ble_eq_true rfl⟩ rfl rfl (Nat.le_of_ble_eq_true rfl) ⟨Nat.zero_le _, Nat.zero_le _⟩ dX7_nameOf_64 (fun H locs hW => ?_)
        refine W.lcmp hx hb dX7_nameOf_67 ?_
        refine lv_if_ne (tgt := 73) hx hb dX7_nameOf_68 (by decide) (fun c9 => ?_) (fun c9 => ?_)
        · replace h := gi_f h c9
          refine lv_aload_n hx hb dX7_nameOf_73 rfl (lv_at hl 0 rfl) ?_
          refine g_get K hW (t := 1) (ci := 6) (k := 11) (v := .long (J 0 11)) kLM_0 rfl rfl i_X7 (by decide) q_1088 rfl rfl dX7_nameOf_74 ?_
          refine lv_bipush (v := (108 : Int32)) hx hb dX7_nameOf_77 (by decide) ?_
          refine lv_bipush (v := (111 : Int32)) hx hb dX7_nameOf_79 (by decide) ?_
          refine lv_bipush (v := (110 : Int32)) hx hb dX7_nameOf_81 (by decide) ?_
          refine lv_bipush (v := (103 : Int32)) hx hb dX7_nameOf_83 (by decide) ?_
          refine g_callSl (rest := [.long (J 0 11)]) K hW hl (kX7_w4 (l := l) (G := G) (ad := ad) hok (108 : Int32) (111 : Int32) (110 : Int32) (103 : Int32) I J (fX7_w4 (108 : Int32) (111 : Int32) (110 : Int32) (103 : Int32)) rfl) q_1228 q_1229 q_139 q_1230 nm_X7_w4 ⟨Nat.le_of_ble_eq_true rfl, Nat.le_of_ble_eq_true rfl⟩ rfl rfl (Nat.le_of_ble_eq_true rfl) ⟨Nat.zero_le _, Nat.zero_le _⟩ dX7_nameOf_85 (fun H locs hW => ?_)
          refine W.lcmp hx hb dX7_nameOf_88 ?_
          refine lv_if_ne (tgt := 94) hx hb dX7_nameOf_89 (by decide) (fun c11 => ?_) (fun c11 => ?_)
          · replace h := gi_f h c11
            refine lv_aload_n hx hb dX7_nameOf_94 rfl (lv_at hl 0 rfl) ?_
            refine g_get K hW (t := 1) (ci := 6) (k := 11) (v := .long (J 0 11)) kLM_0 rfl rfl i_X7 (by decide) q_1088 rfl rfl dX7_nameOf_95 ?_
            refine lv_bipush (v := (111 : Int32)) hx hb dX7_nameOf_98 (by decide) ?_
            refine lv_bipush (v := (119 : Int32)) hx hb dX7_nameOf_100 (by decide) ?_
            refine lv_bipush (v := (110 : Int32)) hx hb dX7_nameOf_102 (by decide) ?_
            refine g_callSl (rest := [.long (J 0 11)]) K hW hl (kX7_w3 (l := l) (G := G) (ad := ad) hok (111 : Int32) (119 : Int32) (110 : Int32) I J (fX7_w3 (111 : Int32) (119 : Int32) (110 : Int32)) rfl) q_1231 q_1232 q_139 q_1233 nm_X7_w3 ⟨Nat.le_of_ble_eq_true rfl, Nat.le_of_ble_eq_true rfl⟩ rfl rfl (Nat.le_of_ble_eq_true rfl) ⟨Nat.zero_le _, Nat.zero_le _⟩ dX7_nameOf_104 (fun H locs hW => ?_)
            refine W.lcmp hx hb dX7_nameOf_107 ?_
            refine lv_if_ne (tgt := 113) hx hb dX7_nameOf_108 (by decide) (fun c13 => ?_) (fun c13 => ?_)
            · replace h := gi_f h c13
              refine lv_aload_n hx hb dX7_nameOf_113 rfl (lv_at hl 0 rfl) ?_
              refine g_get K hW (t := 1) (ci := 6) (k := 11) (v := .long (J 0 11)) kLM_0 rfl rfl i_X7 (by decide) q_1088 rfl rfl dX7_nameOf_114 ?_
              refine lv_bipush (v := (102 : Int32)) hx hb dX7_nameOf_117 (by decide) ?_
              refine lv_bipush (v := (114 : Int32)) hx hb dX7_nameOf_119 (by decide) ?_
              refine lv_bipush (v := (101 : Int32)) hx hb dX7_nameOf_121 (by decide) ?_
              refine lv_bipush (v := (101 : Int32)) hx hb dX7_nameOf_123 (by decide) ?_
              refine g_callSl (rest := [.long (J 0 11)]) K hW hl (kX7_w4 (l := l) (G := G) (ad := ad) hok (102 : Int32) (114 : Int32) (101 : Int32) (101 : Int32) I J (fX7_w4 (102 : Int32) (114 : Int32) (101 : Int32) (101 : Int32)) rfl) q_1228 q_1229 q_139 q_1230 nm_X7_w4 ⟨Nat.le_of_ble_eq_true rfl, Nat.le_of_ble_eq_true rfl⟩ rfl rfl (Nat.le_of_ble_eq_true rfl) ⟨Nat.zero_le _, Nat.zero_le _⟩ dX7_nameOf_125 (fun H locs hW => ?_)
              refine W.lcmp hx hb dX7_nameOf_128 ?_
              refine lv_if_ne (tgt := 134) hx hb dX7_nameOf_129 (by decide) (fun c15 => ?_) (fun c15 => ?_)
              · replace h := gi_f h c15
                refine lv_aload_n hx hb dX7_nameOf_134 rfl (lv_at hl 0 rfl) ?_
                refine g_get K hW (t := 1) (ci := 6) (k := 11) (v := .long (J 0 11)) kLM_0 rfl rfl i_X7 (by decide) q_1088 rfl rfl dX7_nameOf_135 ?_
                refine lv_bipush (v := (119 : Int32)) hx hb dX7_nameOf_138 (by decide) ?_
                refine lv_bipush (v := (97 : Int32)) hx hb dX7_nameOf_140 (by decide) ?_
                refine lv_bipush (v := (110 : Int32)) hx hb dX7_nameOf_142 (by decide) ?_
                refine lv_bipush (v := (116 : Int32)) hx hb dX7_nameOf_144 (by decide) ?_
                refine lv_bipush (v := (115 : Int32)) hx hb dX7_nameOf_146 (by decide) ?_
                refine g_callSl (rest := [.long (J 0 11)]) K hW hl (kX7_w5 (l := l) (G := G) (ad := ad) hok (119 : Int32) (97 : Int32) (110 : Int32) (116 : Int32) (115 : Int32) I J (fX7_w5 (119 : Int32) (97 : Int32) (110 : Int32) (116 : Int32) (115 : Int32)) rfl) q_1241 q_1242 q_139 q_1243 nm_X7_w5 ⟨Nat.le_of_ble_eq_true rfl, Nat.le_of_ble_eq_true rfl⟩ rfl rfl (Nat.le_of_ble_eq_true rfl) ⟨Nat.zero_le _, Nat.zero_le _⟩ dX7_nameOf_148 (fun H locs hW => ?_)
                obtain ⟨u17, e18, h⟩ := lz_o h
                refine g_nml e18 ?_
                refine W.lcmp hx hb dX7_nameOf_151 ?_
                refine lv_if_ne (tgt := 160) hx hb dX7_nameOf_152 (by decide) (fun c19 => ?_) (fun c19 => ?_)
                · replace h := gi_f h c19
                  refine lv_aload_n hx hb dX7_nameOf_160 rfl (lv_at hl 0 rfl) ?_
                  refine g_get K hW (t := 1) (ci := 6) (k := 11) (v := .long (J 0 11)) kLM_0 rfl rfl i_X7 (by decide) q_1088 rfl rfl dX7_nameOf_161 ?_
                  refine lv_bipush (v := (104 : Int32)) hx hb dX7_nameOf_164 (by decide) ?_
                  refine lv_bipush (v := (97 : Int32)) hx hb dX7_nameOf_166 (by decide) ?_
                  refine lv_bipush (v := (115 : Int32)) hx hb dX7_nameOf_168 (by decide) ?_
                  refine g_callSl (rest := [.long (J 0 11)]) K hW hl (kX7_w3 (l := l) (G := G) (ad := ad) hok (104 : Int32) (97 : Int32) (115 : Int32) I J (fX7_w3 (104 : Int32) (97 : Int32) (115 : Int32)) rfl) q_1231 q_1232 q_139 q_1233 nm_X7_w3 ⟨Nat.le_of_ble_eq_true rfl, Nat.le_of_ble_eq_true rfl⟩ rfl rfl (Nat.le_of_ble_eq_true rfl) ⟨Nat.zero_le _, Nat.zero_le _⟩ dX7_nameOf_170 (fun H locs hW => ?_)
                  refine W.lcmp hx hb dX7_nameOf_173 ?_
                  refine lv_if_ne (tgt := 182) hx hb dX7_nameOf_174 (by decide) (fun c21 => ?_) (fun c21 => ?_)
                  · replace h := gi_f h c21
                    refine lv_iconst (v := (-1 : Int32)) hx hb dX7_nameOf_182 (by decide) ?_
                    obtain a1 := h.symm
                    exact g_nmi a1 (hfin _ _ _ _ hW dX7_nameOf_183)
                  · replace h := gi_t h c21
                    refine lv_bipush (v := (7 : Int32)) hx hb dX7_nameOf_177 (by decide) ?_
                    refine lv_goto (tgt := 183) hx hb dX7_nameOf_179 (by decide) ?_
                    obtain a1 := h.symm
                    exact g_nmi a1 (hfin _ _ _ _ hW dX7_nameOf_183)
                · replace h := gi_t h c19
                  refine lv_bipush (v := (6 : Int32)) hx hb dX7_nameOf_155 (by decide) ?_
                  refine lv_goto (tgt := 183) hx hb dX7_nameOf_157 (by decide) ?_
                  obtain a1 := h.symm
                  exact g_nmi a1 (hfin _ _ _ _ hW dX7_nameOf_183)
              · replace h := gi_t h c15
                refine lv_iconst (v := (5 : Int32)) hx hb dX7_nameOf_132 (by decide) ?_
                obtain a1 := h.symm
                exact g_nmi a1 (hfin _ _ _ _ hW dX7_nameOf_133)
            · replace h := gi_t h c13
              refine lv_iconst (v := (4 : Int32)) hx hb dX7_nameOf_111 (by decide) ?_
              obtain a1 := h.symm
              exact g_nmi a1 (hfin _ _ _ _ hW dX7_nameOf_112)
          · replace h := gi_t h c11
            refine lv_iconst (v := (3 : Int32)) hx hb dX7_nameOf_92 (by decide) ?_
            obtain a1 := h.symm
            exact g_nmi a1 (hfin _ _ _ _ hW dX7_nameOf_93)
        · replace h := gi_t h c9
          refine lv_iconst (v := (2 : Int32)) hx hb dX7_nameOf_71 (by decide) ?_
          obtain a1 := h.symm
          exact g_nmi a1 (hfin _ _ _ _ hW dX7_nameOf_72)
      · replace h := gi_t h c7
        refine lv_iconst (v := (1 : Int32)) hx hb dX7_nameOf_50 (by decide) ?_
        obtain a1 := h.symm
        exact g_nmi a1 (hfin _ _ _ _ hW dX7_nameOf_51)
    · replace h := gi_t h c3
      refine lv_iconst (v := (0 : Int32)) hx hb dX7_nameOf_27 (by decide) ?_
      obtain a1 := h.symm
      exact g_nmi a1 (hfin _ _ _ _ hW dX7_nameOf_28)
  · replace h := gi_f h c1
    refine lv_iconst (v := (-1 : Int32)) hx hb dX7_nameOf_8 (by decide) ?_
    obtain a1 := h.symm
    exact g_nmi a1 (hfin _ _ _ _ hW dX7_nameOf_9)
noncomputable def fX7_isOf  (x1 : Int32) (I : gI) : Int32 :=
  lz ((1 : Int32)) (fun j1 => gi (x1 < (6 : Int32))
 (j1)
 (gi (x1 = (6 : Int32))
 (gi ((I 0 14) = 0)
 (j1)
 ((0 : Int32)))
 (gi ((I 0 14) = (1 : Int32))
 (j1)
 ((0 : Int32)))))
set_option maxHeartbeats 4000000 in
set_option maxRecDepth 100000 in
theorem kX7_isOf {l : Launch} {G : gG} {ad : Nat → Nat} (hok : gInj LM ad)    (x1 : Int32) (I : gI) (J : gJ) (r : Int32) (h : fX7_isOf x1 I = r) : gMi l yX7_isOf cX7_isOf 2 (some .boolean) 1 G LM ad [.ref (ad 0), .int x1] I J r (r = 0 ∨ r = 1) I J := by
  refine gMz_of (lst := [(0, .ref (ad 0)), (1, .int x1)]) (by decide) hok (Nat.le_of_ble_eq_true rfl) rfl ?_
  intro p e s m args below meth c Q ls K hW hl hfin
  have hx := K.1; have hb := K.2.1; have hown := K.2.2.2.1; have hts := K.2.2.2.2.1
  unfold fX7_isOf at h
  refine lv_iload_n hx hb dX7_isOf_0 rfl (lv_at hl 1 rfl) ?_
  refine lv_bipush (v := (6 : Int32)) hx hb dX7_isOf_1 (by decide) ?_
  obtain ⟨j1, e2, h⟩ := lz_o h
  have hj3 : j1 = (r) → ∀ (H : Heap) (locs : List Loc), gWd G LM ad (gA LM ad) s.heap I J H locs → ∀ (ls : Array Slot), lv_has ls 2 [] → W p l e (gRm 1) s m args below meth c H locs 0 0 Q (F0 m 30 ls []) := by
    intro h H locs hW ls hl
    replace h := jn0 e2 h
    refine lv_iconst (v := (1 : Int32)) hx hb dX7_isOf_30 (by decide) ?_
    refine lv_goto (tgt := 35) hx hb dX7_isOf_31 (by decide) ?_
    obtain a1 := h.symm
    exact g_nmi a1 (hfin _ _ _ _ (a1 ▸ (Or.inr rfl)) hW dX7_isOf_35)
  refine lv_icmp_lt (tgt := 30) hx hb dX7_isOf_3 (by decide) (fun c4 => ?_) (fun c4 => ?_)
  · replace h := gi_t h c4
    exact hj3 h _ _ hW _ (lv_sub hl [] rfl)
  · replace h := gi_f h c4
    refine lv_iload_n hx hb dX7_isOf_6 rfl (lv_at hl 1 rfl) ?_
    refine lv_bipush (v := (6 : Int32)) hx hb dX7_isOf_7 (by decide) ?_
    refine lv_icmp_ne (tgt := 22) hx hb dX7_isOf_9 (by decide) (fun c5 => ?_) (fun c5 => ?_)
    · replace h := gi_f h c5
      refine lv_aload_n hx hb dX7_isOf_22 rfl (lv_at hl 0 rfl) ?_
      refine g_get K hW (t := 0) (ci := 6) (k := 14) (v := .int (I 0 14)) kLM_0 rfl rfl i_X7 (by decide) q_1091 rfl rfl dX7_isOf_23 ?_
      refine lv_iconst (v := (1 : Int32)) hx hb dX7_isOf_26 (by decide) ?_
      refine lv_icmp_ne (tgt := 34) hx hb dX7_isOf_27 (by decide) (fun c6 => ?_) (fun c6 => ?_)
      · replace h := gi_f h c6
        refine lv_iconst (v := (0 : Int32)) hx hb dX7_isOf_34 (by decide) ?_
        obtain a1 := h.symm
        exact g_nmi a1 (hfin _ _ _ _ (a1 ▸ (Or.inl rfl)) hW dX7_isOf_35)
      · replace h := gi_t h c6
        exact hj3 h _ _ hW _ (lv_sub hl [] rfl)
    · replace h := gi_t h c5
      refine lv_aload_n hx hb dX7_isOf_12 rfl (lv_at hl 0 rfl) ?_
      refine g_get K hW (t := 0) (ci := 6) (k := 14) (v := .int (I 0 14)) kLM_0 rfl rfl i_X7 (by decide) q_1091 rfl rfl dX7_isOf_13 ?_
      refine lv_if_ne (tgt := 34) hx hb dX7_isOf_16 (by decide) (fun c7 => ?_) (fun c7 => ?_)
      · replace h := gi_f h c7
        refine lv_iconst (v := (0 : Int32)) hx hb dX7_isOf_34 (by decide) ?_
        obtain a1 := h.symm
        exact g_nmi a1 (hfin _ _ _ _ (a1 ▸ (Or.inl rfl)) hW dX7_isOf_35)
      · replace h := gi_t h c7
        refine lv_goto (tgt := 30) hx hb dX7_isOf_19 (by decide) ?_
        exact hj3 h _ _ hW _ (lv_sub hl [] rfl)
noncomputable def fX7_rank  (x0 : Int32)  : Int32 :=
  gi (x0 < (40 : Int32))
 (gi (x0 = (22 : Int32))
 ((1 : Int32))
 (gi (x0 = (21 : Int32))
 ((2 : Int32))
 (gi (x0 = (20 : Int32))
 ((3 : Int32))
 (gi (x0 < (10 : Int32))
 (gi (x0 < (8 : Int32))
 (gi (x0 < (6 : Int32))
 ((7 : Int32))
 ((5 : Int32)))
 ((6 : Int32)))
 ((4 : Int32))))))
 ((0 : Int32))
set_option maxHeartbeats 4000000 in
set_option maxRecDepth 100000 in
theorem kX7_rank {l : Launch} {G : gG} {ad : Nat → Nat} (hok : gInj LM ad)    (x0 : Int32) (I : gI) (J : gJ) (r : Int32) (h : fX7_rank x0 = r) : gMi l yX7_rank cX7_rank 1 (some .int) 1 G LM ad [.int x0] I J r True I J := by
  refine gMi_of (lst := [(0, .int x0)]) (by decide) hok (Nat.le_of_ble_eq_true rfl) rfl ?_
  intro p e s m args below meth c Q ls K hW hl hfin
  have hx := K.1; have hb := K.2.1; have hown := K.2.2.2.1; have hts := K.2.2.2.2.1
  unfold fX7_rank at h
  refine lv_iload_n hx hb dX7_rank_0 rfl (lv_at hl 0 rfl) ?_
  refine lv_bipush (v := (40 : Int32)) hx hb dX7_rank_1 (by decide) ?_
  refine lv_icmp_lt (tgt := 10) hx hb dX7_rank_3 (by decide) (fun c1 => ?_) (fun c1 => ?_)
  · replace h := gi_t h c1
    refine lv_iload_n hx hb dX7_rank_10 rfl (lv_at hl 0 rfl) ?_
    refine lv_bipush (v := (22 : Int32)) hx hb dX7_rank_11 (by decide) ?_
    refine lv_icmp_ne (tgt := 20) hx hb dX7_rank_13 (by decide) (fun c2 => ?_) (fun c2 => ?_)
    · replace h := gi_f h c2
      refine lv_iload_n hx hb dX7_rank_20 rfl (lv_at hl 0 rfl) ?_
      refine lv_bipush (v := (21 : Int32)) hx hb dX7_rank_21 (by decide) ?_
      refine lv_icmp_ne (tgt := 30) hx hb dX7_rank_23 (by decide) (fun c3 => ?_) (fun c3 => ?_)
      · replace h := gi_f h c3
        refine lv_iload_n hx hb dX7_rank_30 rfl (lv_at hl 0 rfl) ?_
        refine lv_bipush (v := (20 : Int32)) hx hb dX7_rank_31 (by decide) ?_
        refine lv_icmp_ne (tgt := 40) hx hb dX7_rank_33 (by decide) (fun c4 => ?_) (fun c4 => ?_)
        · replace h := gi_f h c4
          refine lv_iload_n hx hb dX7_rank_40 rfl (lv_at hl 0 rfl) ?_
          refine lv_bipush (v := (10 : Int32)) hx hb dX7_rank_41 (by decide) ?_
          refine lv_icmp_lt (tgt := 50) hx hb dX7_rank_43 (by decide) (fun c5 => ?_) (fun c5 => ?_)
          · replace h := gi_t h c5
            refine lv_iload_n hx hb dX7_rank_50 rfl (lv_at hl 0 rfl) ?_
            refine lv_bipush (v := (8 : Int32)) hx hb dX7_rank_51 (by decide) ?_
            refine lv_icmp_lt (tgt := 61) hx hb dX7_rank_53 (by decide) (fun c6 => ?_) (fun c6 => ?_)
            · replace h := gi_t h c6
              refine lv_iload_n hx hb dX7_rank_61 rfl (lv_at hl 0 rfl) ?_
              refine lv_bipush (v := (6 : Int32)) hx hb dX7_rank_62 (by decide) ?_
              refine lv_icmp_lt (tgt := 71) hx hb dX7_rank_64 (by decide) (fun c7 => ?_) (fun c7 => ?_)
              · replace h := gi_t h c7
                refine lv_bipush (v := (7 : Int32)) hx hb dX7_rank_71 (by decide) ?_
                obtain a1 := h.symm
                exact g_nmi a1 (hfin _ _ _ _ hW dX7_rank_73)
              · replace h := gi_f h c7
                refine lv_iconst (v := (5 : Int32)) hx hb dX7_rank_67 (by decide) ?_
                refine lv_goto (tgt := 73) hx hb dX7_rank_68 (by decide) ?_
                obtain a1 := h.symm
                exact g_nmi a1 (hfin _ _ _ _ hW dX7_rank_73)
            · replace h := gi_f h c6
              refine lv_bipush (v := (6 : Int32)) hx hb dX7_rank_56 (by decide) ?_
              refine lv_goto (tgt := 73) hx hb dX7_rank_58 (by decide) ?_
              obtain a1 := h.symm
              exact g_nmi a1 (hfin _ _ _ _ hW dX7_rank_73)
          · replace h := gi_f h c5
            refine lv_iconst (v := (4 : Int32)) hx hb dX7_rank_46 (by decide) ?_
            refine lv_goto (tgt := 73) hx hb dX7_rank_47 (by decide) ?_
            obtain a1 := h.symm
            exact g_nmi a1 (hfin _ _ _ _ hW dX7_rank_73)
        · replace h := gi_t h c4
          refine lv_iconst (v := (3 : Int32)) hx hb dX7_rank_36 (by decide) ?_
          refine lv_goto (tgt := 73) hx hb dX7_rank_37 (by decide) ?_
          obtain a1 := h.symm
          exact g_nmi a1 (hfin _ _ _ _ hW dX7_rank_73)
      · replace h := gi_t h c3
        refine lv_iconst (v := (2 : Int32)) hx hb dX7_rank_26 (by decide) ?_
        refine lv_goto (tgt := 73) hx hb dX7_rank_27 (by decide) ?_
        obtain a1 := h.symm
        exact g_nmi a1 (hfin _ _ _ _ hW dX7_rank_73)
    · replace h := gi_t h c2
      refine lv_iconst (v := (1 : Int32)) hx hb dX7_rank_16 (by decide) ?_
      refine lv_goto (tgt := 73) hx hb dX7_rank_17 (by decide) ?_
      obtain a1 := h.symm
      exact g_nmi a1 (hfin _ _ _ _ hW dX7_rank_73)
  · replace h := gi_f h c1
    refine lv_iconst (v := (0 : Int32)) hx hb dX7_rank_6 (by decide) ?_
    refine lv_goto (tgt := 73) hx hb dX7_rank_7 (by decide) ?_
    obtain a1 := h.symm
    exact g_nmi a1 (hfin _ _ _ _ hW dX7_rank_73)
theorem kLM_5 : gAt LM 5 1 160 := ⟨by decide, by decide +kernel⟩
theorem rLM_0_15 : LM.2.2 0 15 = some 5 := by decide +kernel
theorem nm_X7_rank : gNm yX7_rank 1 := by decide +kernel
theorem nm_X7_emit : gNm yX7_emit 2 := by decide +kernel
noncomputable def fX7_settle_0b  (rec : Int32 → gI → Option ((gI))) (u1 : Int32) (I : gI) : Option ((gI)) :=
  gi ((I 0 16) ≤ 0)
 (some I)
 (gd (vp_in ((I 0 16) - (1 : Int32)) 160) (gi ((fX7_rank (I 5 (((I 0 16) - (1 : Int32))).toNatClampNeg)) < u1)
 (some I)
 (lz (wI I 0 16 ((I 0 16) - (1 : Int32))) (fun (I7 : gI) => gd (vp_in (I7 0 16) 160) (bd (fX7_emit (I7 5 ((I7 0 16)).toNatClampNeg) (0 : Int32) I7) (fun (I10 : gI) => gd (vp_in (I10 0 16) 160) (lz (lz (wI I10 0 17 ((I10 0 17) - (1 : Int32))) (fun (I18 : gI) => rec u1 I18)) (fun j15 => gi ((fX7_rank (I10 5 ((I10 0 16)).toNatClampNeg)) = (7 : Int32))
 (j15)
 (gi ((I10 5 ((I10 0 16)).toNatClampNeg) = (20 : Int32))
 (j15)
 (rec u1 I10))))))))))
noncomputable def fX7_settle_0  : Nat → Int32 → gI → Option ((gI))
  | 0 => fun _ _ => none
  | n + 1 => fX7_settle_0b  (fX7_settle_0  n)
set_option maxHeartbeats 4000000 in
set_option maxRecDepth 100000 in
theorem tX7_settle_0 {l : Launch} {G : gG} {ad : Nat → Nat} {p : Program} {e : Env} {s : State} {m : MethodId} {args : Array Value} {below : List Frame} {meth : Method} {c : Code} {Q : State → Prop} (hok : gInj LM ad) (K : gCx G (gA LM ad) p s m args c cX7_settle 2 RX7)  : ∀ (n : Nat) (u1 : Int32) (I : gI) (J : gJ) (out : Option ((gI))), fX7_settle_0  n u1 I = out → out ≠ none → ∀ (H : Heap) (locs : List Loc), gWd G LM ad (gA LM ad) s.heap I J H locs → ∀ (ls : Array Slot), lv_has ls 2 [(0, .ref (ad 0)), (1, .int u1)] → (∀ (I2 : gI), some I2 = out → ∀ (H : Heap) (locs : List Loc), gWd G LM ad (gA LM ad) s.heap I2 J H locs → ∀ (ls : Array Slot), lv_has ls 2 [] → W p l e (gRm 2) s m args below meth c H locs 0 0 Q (F0 m 93 ls [])) → W p l e (gRm 2) s m args below meth c H locs 0 0 Q (F0 m 0 ls []) := by
  have hx := K.1; have hb := K.2.1; have hown := K.2.2.2.1; have hts := K.2.2.2.2.1
  intro n
  induction n with
  | zero => intro u1 I J out h hn; exact absurd h.symm hn
  | succ n ih =>
    intro u1 I J out h hn H locs hW ls hl hx1
    replace h : fX7_settle_0b  (fX7_settle_0  n) u1 I = out := h
    unfold fX7_settle_0b at h
    refine lv_aload_n hx hb dX7_settle_0 rfl (lv_at hl 0 rfl) ?_
    refine g_get K hW (t := 0) (ci := 6) (k := 16) (v := .int (I 0 16)) kLM_0 rfl rfl i_X7 (by decide) q_1093 rfl rfl dX7_settle_1 ?_
    refine lv_if_le (tgt := 93) hx hb dX7_settle_4 (by decide) (fun c3 => ?_) (fun c3 => ?_)
    · replace h := gi_t h c3
      exact hx1 I h _ _ hW _ (lv_sub hl [] rfl)
    · replace h := gi_f h c3
      refine lv_aload_n hx hb dX7_settle_7 rfl (lv_at hl 0 rfl) ?_
      refine g_get K hW (t := 2) (ci := 6) (k := 15) (v := .ref (ad 5)) kLM_0 rfl rfl i_X7 (by decide) q_1092 rfl (gfv2 rLM_0_15) dX7_settle_8 ?_
      refine lv_aload_n hx hb dX7_settle_11 rfl (lv_at hl 0 rfl) ?_
      refine g_get K hW (t := 0) (ci := 6) (k := 16) (v := .int (I 0 16)) kLM_0 rfl rfl i_X7 (by decide) q_1093 rfl rfl dX7_settle_12 ?_
      refine lv_iconst (v := (1 : Int32)) hx hb dX7_settle_15 (by decide) ?_
      refine lv_isub hx hb dX7_settle_16 ?_
      obtain ⟨g4, h⟩ := gd_o h hn
      refine g_iald K hW kLM_5 g4 rfl dX7_settle_17 ?_
      refine g_callSi (rest := []) K hW hl (kX7_rank (l := l) (G := G) (ad := ad) hok (I 5 (((I 0 16) - (1 : Int32))).toNatClampNeg) I J (fX7_rank (I 5 (((I 0 16) - (1 : Int32))).toNatClampNeg)) rfl) q_1291 q_1292 q_139 q_1293 nm_X7_rank ⟨Nat.le_of_ble_eq_true rfl, Nat.le_of_ble_eq_true rfl⟩ rfl rfl (Nat.le_of_ble_eq_true rfl) ⟨Nat.zero_le _, Nat.zero_le _⟩ dX7_settle_18 (fun z5 H locs hW => ?_)
      refine lv_iload_n hx hb dX7_settle_21 rfl (lv_at hl 1 rfl) ?_
      refine lv_icmp_lt (tgt := 93) hx hb dX7_settle_22 (by decide) (fun c6 => ?_) (fun c6 => ?_)
      · replace h := gi_t h c6
        exact hx1 I h _ _ hW _ (lv_sub hl [] rfl)
      · replace h := gi_f h c6
        refine lv_aload_n hx hb dX7_settle_25 rfl (lv_at hl 0 rfl) ?_
        refine lv_dup hx hb dX7_settle_26 rfl ?_
        refine g_get K hW (t := 0) (ci := 6) (k := 16) (v := .int (I 0 16)) kLM_0 rfl rfl i_X7 (by decide) q_1093 rfl rfl dX7_settle_27 ?_
        refine lv_iconst (v := (1 : Int32)) hx hb dX7_settle_30 (by decide) ?_
        refine lv_isub hx hb dX7_settle_31 ?_
        refine g_putI K hW (ci := 6) (k := 16) kLM_0 rfl rfl i_X7 tyX7_ok nmX7 (by decide) q_1093 rfl rfl rfl rfl dX7_settle_32 (fun H locs hW => ?_)
        obtain ⟨I7, e8, h⟩ := lz_o h
        replace hW := gWd_nI e8 hW
        refine lv_aload_n hx hb dX7_settle_35 rfl (lv_at hl 0 rfl) ?_
        refine lv_aload_n hx hb dX7_settle_36 rfl (lv_at hl 0 rfl) ?_
        refine g_get K hW (t := 2) (ci := 6) (k := 15) (v := .ref (ad 5)) kLM_0 rfl rfl i_X7 (by decide) q_1092 rfl (gfv2 rLM_0_15) dX7_settle_37 ?_
        refine lv_aload_n hx hb dX7_settle_40 rfl (lv_at hl 0 rfl) ?_
        refine g_get K hW (t := 0) (ci := 6) (k := 16) (v := .int (I7 0 16)) kLM_0 rfl rfl i_X7 (by decide) q_1093 rfl rfl dX7_settle_41 ?_
        obtain ⟨g9, h⟩ := gd_o h hn
        refine g_iald K hW kLM_5 g9 rfl dX7_settle_44 ?_
        refine lv_iconst (v := (0 : Int32)) hx hb dX7_settle_45 (by decide) ?_
        obtain ⟨I10, e11, h⟩ := bd_o h hn
        refine g_callVv (rest := []) K hW hl (kX7_emit (l := l) (G := G) (ad := ad) hok (I7 5 ((I7 0 16)).toNatClampNeg) (0 : Int32) I7 J I10 e11) kLM_0 rfl (gG_V q_1302 q_1304 q_72 q_139 q_1305) nm_X7_emit ⟨Nat.le_of_ble_eq_true rfl, Nat.le_of_ble_eq_true rfl⟩ rfl rfl (Nat.le_of_ble_eq_true rfl) ⟨Nat.zero_le _, Nat.zero_le _⟩ dX7_settle_46 (fun H locs hW => ?_)
        refine lv_aload_n hx hb dX7_settle_49 rfl (lv_at hl 0 rfl) ?_
        refine g_get K hW (t := 2) (ci := 6) (k := 15) (v := .ref (ad 5)) kLM_0 rfl rfl i_X7 (by decide) q_1092 rfl (gfv2 rLM_0_15) dX7_settle_50 ?_
        refine lv_aload_n hx hb dX7_settle_53 rfl (lv_at hl 0 rfl) ?_
        refine g_get K hW (t := 0) (ci := 6) (k := 16) (v := .int (I10 0 16)) kLM_0 rfl rfl i_X7 (by decide) q_1093 rfl rfl dX7_settle_54 ?_
        obtain ⟨g13, h⟩ := gd_o h hn
        refine g_iald K hW kLM_5 g13 rfl dX7_settle_57 ?_
        refine g_callSi (rest := []) K hW hl (kX7_rank (l := l) (G := G) (ad := ad) hok (I10 5 ((I10 0 16)).toNatClampNeg) I10 J (fX7_rank (I10 5 ((I10 0 16)).toNatClampNeg)) rfl) q_1291 q_1292 q_139 q_1293 nm_X7_rank ⟨Nat.le_of_ble_eq_true rfl, Nat.le_of_ble_eq_true rfl⟩ rfl rfl (Nat.le_of_ble_eq_true rfl) ⟨Nat.zero_le _, Nat.zero_le _⟩ dX7_settle_58 (fun z14 H locs hW => ?_)
        refine lv_bipush (v := (7 : Int32)) hx hb dX7_settle_61 (by decide) ?_
        obtain ⟨j15, e16, h⟩ := lz_o h
        have hj17 : j15 = out → ∀ (H : Heap) (locs : List Loc), gWd G LM ad (gA LM ad) s.heap I10 J H locs → ∀ (ls : Array Slot), lv_has ls 2 [(0, .ref (ad 0)), (1, .int u1)] → W p l e (gRm 2) s m args below meth c H locs 0 0 Q (F0 m 80 ls []) := by
          intro h H locs hW ls hl
          replace h := jn0 e16 h
          refine lv_aload_n hx hb dX7_settle_80 rfl (lv_at hl 0 rfl) ?_
          refine lv_dup hx hb dX7_settle_81 rfl ?_
          refine g_get K hW (t := 0) (ci := 6) (k := 17) (v := .int (I10 0 17)) kLM_0 rfl rfl i_X7 (by decide) q_1094 rfl rfl dX7_settle_82 ?_
          refine lv_iconst (v := (1 : Int32)) hx hb dX7_settle_85 (by decide) ?_
          refine lv_isub hx hb dX7_settle_86 ?_
          refine g_putI K hW (ci := 6) (k := 17) kLM_0 rfl rfl i_X7 tyX7_ok nmX7 (by decide) q_1094 rfl rfl rfl rfl dX7_settle_87 (fun H locs hW => ?_)
          obtain ⟨I18, e19, h⟩ := lz_o h
          replace hW := gWd_nI e19 hW
          refine lv_goto (tgt := 0) hx hb dX7_settle_90 (by decide) ?_
          exact ih u1 I18 J _ h hn _ _ hW _ (lv_sub hl [0, 1] rfl) hx1
        refine lv_icmp_eq (tgt := 80) hx hb dX7_settle_63 (by decide) (fun c20 => ?_) (fun c20 => ?_)
        · replace h := gi_t h c20
          exact hj17 h _ _ hW _ (lv_sub hl [0, 1] rfl)
        · replace h := gi_f h c20
          refine lv_aload_n hx hb dX7_settle_66 rfl (lv_at hl 0 rfl) ?_
          refine g_get K hW (t := 2) (ci := 6) (k := 15) (v := .ref (ad 5)) kLM_0 rfl rfl i_X7 (by decide) q_1092 rfl (gfv2 rLM_0_15) dX7_settle_67 ?_
          refine lv_aload_n hx hb dX7_settle_70 rfl (lv_at hl 0 rfl) ?_
          refine g_get K hW (t := 0) (ci := 6) (k := 16) (v := .int (I10 0 16)) kLM_0 rfl rfl i_X7 (by decide) q_1093 rfl rfl dX7_settle_71 ?_
          refine g_iald K hW kLM_5 g13 rfl dX7_settle_74 ?_
          refine lv_bipush (v := (20 : Int32)) hx hb dX7_settle_75 (by decide) ?_
          refine lv_icmp_ne (tgt := 0) hx hb dX7_settle_77 (by decide) (fun c21 => ?_) (fun c21 => ?_)
          · replace h := gi_f h c21
            exact ih u1 I10 J _ h hn _ _ hW _ (lv_sub hl [0, 1] rfl) hx1
          · replace h := gi_t h c21
            exact hj17 h _ _ hW _ (lv_sub hl [0, 1] rfl)
noncomputable def fX7_settle  (x1 : Int32) (I : gI) : Option (gI) :=
  bd (fX7_settle_0 FU x1 I) (fun (I24 : gI) => some I24)
set_option maxHeartbeats 4000000 in
set_option maxRecDepth 100000 in
theorem kX7_settle {l : Launch} {G : gG} {ad : Nat → Nat} (hok : gInj LM ad)    (x1 : Int32) (I : gI) (J : gJ) (I' : gI) (h : fX7_settle x1 I = some I') : gMv l yX7_settle cX7_settle 2 none 2 G LM ad [.ref (ad 0), .int x1] I J I' J := by
  refine gMv_of (lst := [(0, .ref (ad 0)), (1, .int x1)]) (by decide) hok (Nat.le_of_ble_eq_true rfl) rfl ?_
  intro p e s m args below meth c Q ls K hW hl hfin
  have hn : (some I' : Option (gI)) ≠ none := Option.some_ne_none _
  have hx := K.1; have hb := K.2.1; have hown := K.2.2.2.1; have hts := K.2.2.2.2.1
  unfold fX7_settle at h
  obtain ⟨r22, e23, h⟩ := bd_o h hn
  refine tX7_settle_0 hok K FU x1 I J (some r22) e23 (Option.some_ne_none _) _ _ hW _ (lv_sub hl [0, 1] rfl) ?_
  · intro I24 q25 H locs hW ls hl
    replace q25 := Option.some.inj q25
    subst q25
    obtain a1 := so1 h
    replace hW := gWd_nI a1 hW
    exact hfin _ _ _ _ hW dX7_settle_93
noncomputable def fX7_openAt_7b  (rec : Int32 → gI → Option ((Int32))) (u3 : Int32) (I : gI) : Option ((Int32)) :=
  gi (u3 < 0)
 (some u3)
 (gd (vp_in u3 160) (gi ((40 : Int32) ≤ (I 5 (u3).toNatClampNeg))
 (some u3)
 (lz ((u3 + (-1 : Int32))) (fun (u8 : Int32) => rec u8 I))))
noncomputable def fX7_openAt_7  : Nat → Int32 → gI → Option ((Int32))
  | 0 => fun _ _ => none
  | n + 1 => fX7_openAt_7b  (fX7_openAt_7  n)
set_option maxHeartbeats 4000000 in
set_option maxRecDepth 100000 in
theorem tX7_openAt_7 {l : Launch} {G : gG} {ad : Nat → Nat} {p : Program} {e : Env} {s : State} {m : MethodId} {args : Array Value} {below : List Frame} {meth : Method} {c : Code} {Q : State → Prop} (hok : gInj LM ad) (K : gCx G (gA LM ad) p s m args c cX7_openAt 2 RX7)  : ∀ (n : Nat) (u3 : Int32) (I : gI) (J : gJ) (out : Option ((Int32))), fX7_openAt_7  n u3 I = out → out ≠ none → ∀ (H : Heap) (locs : List Loc), gWd G LM ad (gA LM ad) s.heap I J H locs → ∀ (ls : Array Slot), lv_has ls 2 [(0, .ref (ad 0)), (1, .int u3)] → (∀ (y4 : Int32), some y4 = out → ∀ (H : Heap) (locs : List Loc), gWd G LM ad (gA LM ad) s.heap I J H locs → ∀ (ls : Array Slot), lv_has ls 2 [(1, .int y4)] → W p l e (gRm 1) s m args below meth c H locs 0 0 Q (F0 m 28 ls [])) → W p l e (gRm 1) s m args below meth c H locs 0 0 Q (F0 m 7 ls []) := by
  have hx := K.1; have hb := K.2.1; have hown := K.2.2.2.1; have hts := K.2.2.2.2.1
  intro n
  induction n with
  | zero => intro u3 I J out h hn; exact absurd h.symm hn
  | succ n ih =>
    intro u3 I J out h hn H locs hW ls hl hx1
    replace h : fX7_openAt_7b  (fX7_openAt_7  n) u3 I = out := h
    unfold fX7_openAt_7b at h
    refine lv_iload_n hx hb dX7_openAt_7 rfl (lv_at hl 1 rfl) ?_
    refine lv_if_lt (tgt := 28) hx hb dX7_openAt_8 (by decide) (fun c5 => ?_) (fun c5 => ?_)
    · replace h := gi_t h c5
      exact hx1 u3 h _ _ hW _ (lv_sub hl [1] rfl)
    · replace h := gi_f h c5
      refine lv_aload_n hx hb dX7_openAt_11 rfl (lv_at hl 0 rfl) ?_
      refine g_get K hW (t := 2) (ci := 6) (k := 15) (v := .ref (ad 5)) kLM_0 rfl rfl i_X7 (by decide) q_1092 rfl (gfv2 rLM_0_15) dX7_openAt_12 ?_
      refine lv_iload_n hx hb dX7_openAt_15 rfl (lv_at hl 1 rfl) ?_
      obtain ⟨g6, h⟩ := gd_o h hn
      refine g_iald K hW kLM_5 g6 rfl dX7_openAt_16 ?_
      refine lv_bipush (v := (40 : Int32)) hx hb dX7_openAt_17 (by decide) ?_
      refine lv_icmp_ge (tgt := 28) hx hb dX7_openAt_19 (by decide) (fun c7 => ?_) (fun c7 => ?_)
      · replace h := gi_t h c7
        exact hx1 u3 h _ _ hW _ (lv_sub hl [1] rfl)
      · replace h := gi_f h c7
        obtain ⟨u8, e9, h⟩ := lz_o h
        refine lv_iinc (v := u8) (lv' := [(1, .int u8), (0, .ref (ad 0))]) hx hb dX7_openAt_22 hl (k := 1) rfl (by rw [e9]; rfl) (by decide) rfl (fun ls hl => ?_)
        refine lv_goto (tgt := 7) hx hb dX7_openAt_25 (by decide) ?_
        exact ih u8 I J _ h hn _ _ hW _ (lv_sub hl [1, 0] rfl) hx1
noncomputable def fX7_openAt   (I : gI) : Option (Int32) :=
  lz (((I 0 16) - (1 : Int32))) (fun (u1 : Int32) => bd (fX7_openAt_7 FU u1 I) (fun (u12 : Int32) => some u12))
set_option maxHeartbeats 4000000 in
set_option maxRecDepth 100000 in
theorem kX7_openAt {l : Launch} {G : gG} {ad : Nat → Nat} (hok : gInj LM ad)     (I : gI) (J : gJ) (r : Int32) (h : fX7_openAt I = some r) : gMi l yX7_openAt cX7_openAt 2 (some .int) 1 G LM ad [.ref (ad 0)] I J r True I J := by
  refine gMi_of (lst := [(0, .ref (ad 0))]) (by decide) hok (Nat.le_of_ble_eq_true rfl) rfl ?_
  intro p e s m args below meth c Q ls K hW hl hfin
  have hn : (some r : Option (Int32)) ≠ none := Option.some_ne_none _
  have hx := K.1; have hb := K.2.1; have hown := K.2.2.2.1; have hts := K.2.2.2.2.1
  unfold fX7_openAt at h
  refine lv_aload_n hx hb dX7_openAt_0 rfl (lv_at hl 0 rfl) ?_
  refine g_get K hW (t := 0) (ci := 6) (k := 16) (v := .int (I 0 16)) kLM_0 rfl rfl i_X7 (by decide) q_1093 rfl rfl dX7_openAt_1 ?_
  refine lv_iconst (v := (1 : Int32)) hx hb dX7_openAt_4 (by decide) ?_
  refine lv_isub hx hb dX7_openAt_5 ?_
  obtain ⟨u1, e2, h⟩ := lz_o h
  refine g_nmi e2 ?_
  refine lv_istore_n (lv' := [(1, .int u1), (0, .ref (ad 0))]) hx hb dX7_openAt_6 rfl hl (by decide) rfl (fun ls hl => ?_)
  obtain ⟨r10, e11, h⟩ := bd_o h hn
  refine tX7_openAt_7 hok K FU u1 I J (some r10) e11 (Option.some_ne_none _) _ _ hW _ (lv_sub hl [1, 0] rfl) ?_
  · intro u12 q13 H locs hW ls hl
    replace q13 := Option.some.inj q13
    subst q13
    refine lv_iload_n hx hb dX7_openAt_28 rfl (lv_at hl 0 rfl) ?_
    obtain a1 := so1 h
    exact g_nmi a1 (hfin _ _ _ _ hW dX7_openAt_29)
theorem nm_X7_openAt : gNm yX7_openAt 0 := by decide +kernel
noncomputable def fX7_openNow   (I : gI) : Option (Int32) :=
  bd (fX7_openAt I) (fun (u1 : Int32) => gi (0 ≤ u1)
 (bd (fX7_openAt I) (fun (u5 : Int32) => gd (vp_in u5 160) (some (I 5 (u5).toNatClampNeg))))
 (some (-1 : Int32)))
set_option maxHeartbeats 4000000 in
set_option maxRecDepth 100000 in
theorem kX7_openNow {l : Launch} {G : gG} {ad : Nat → Nat} (hok : gInj LM ad)     (I : gI) (J : gJ) (r : Int32) (h : fX7_openNow I = some r) : gMi l yX7_openNow cX7_openNow 1 (some .int) 2 G LM ad [.ref (ad 0)] I J r True I J := by
  refine gMi_of (lst := [(0, .ref (ad 0))]) (by decide) hok (Nat.le_of_ble_eq_true rfl) rfl ?_
  intro p e s m args below meth c Q ls K hW hl hfin
  have hn : (some r : Option (Int32)) ≠ none := Option.some_ne_none _
  have hx := K.1; have hb := K.2.1; have hown := K.2.2.2.1; have hts := K.2.2.2.2.1
  unfold fX7_openNow at h
  refine lv_aload_n hx hb dX7_openNow_0 rfl (lv_at hl 0 rfl) ?_
  obtain ⟨u1, e2, h⟩ := bd_o h hn
  refine g_callVi (rest := []) K hW hl (kX7_openAt (l := l) (G := G) (ad := ad) hok I J u1 e2) kLM_0 rfl (gG_V q_1283 q_1285 q_68 q_139 q_1286) nm_X7_openAt ⟨Nat.le_of_ble_eq_true rfl, Nat.le_of_ble_eq_true rfl⟩ rfl rfl (Nat.le_of_ble_eq_true rfl) ⟨Nat.zero_le _, Nat.zero_le _⟩ dX7_openNow_1 (fun z3 H locs hW => ?_)
  refine lv_if_ge (tgt := 11) hx hb dX7_openNow_4 (by decide) (fun c4 => ?_) (fun c4 => ?_)
  · replace h := gi_t h c4
    refine lv_aload_n hx hb dX7_openNow_11 rfl (lv_at hl 0 rfl) ?_
    refine g_get K hW (t := 2) (ci := 6) (k := 15) (v := .ref (ad 5)) kLM_0 rfl rfl i_X7 (by decide) q_1092 rfl (gfv2 rLM_0_15) dX7_openNow_12 ?_
    refine lv_aload_n hx hb dX7_openNow_15 rfl (lv_at hl 0 rfl) ?_
    obtain ⟨u5, e6, h⟩ := bd_o h hn
    refine g_callVi (rest := [.ref (ad 5)]) K hW hl (kX7_openAt (l := l) (G := G) (ad := ad) hok I J u5 e6) kLM_0 rfl (gG_V q_1283 q_1285 q_68 q_139 q_1286) nm_X7_openAt ⟨Nat.le_of_ble_eq_true rfl, Nat.le_of_ble_eq_true rfl⟩ rfl rfl (Nat.le_of_ble_eq_true rfl) ⟨Nat.zero_le _, Nat.zero_le _⟩ dX7_openNow_16 (fun z7 H locs hW => ?_)
    obtain ⟨g8, h⟩ := gd_o h hn
    refine g_iald K hW kLM_5 g8 rfl dX7_openNow_19 ?_
    obtain a1 := so1 h
    exact g_nmi a1 (hfin _ _ _ _ hW dX7_openNow_20)
  · replace h := gi_f h c4
    refine lv_iconst (v := (-1 : Int32)) hx hb dX7_openNow_7 (by decide) ?_
    refine lv_goto (tgt := 20) hx hb dX7_openNow_8 (by decide) ?_
    obtain a1 := so1 h
    exact g_nmi a1 (hfin _ _ _ _ hW dX7_openNow_20)
noncomputable def fX7_isCompared_7b  (rec : Int32 → gI → Option ((Int32))) (u3 : Int32) (I : gI) : Option ((Int32)) :=
  gi (u3 < 0)
 (some u3)
 (gd (vp_in u3 160) (gi ((fX7_rank (I 5 (u3).toNatClampNeg)) ≤ (4 : Int32))
 (some u3)
 (lz ((u3 + (-1 : Int32))) (fun (u9 : Int32) => rec u9 I))))
noncomputable def fX7_isCompared_7  : Nat → Int32 → gI → Option ((Int32))
  | 0 => fun _ _ => none
  | n + 1 => fX7_isCompared_7b  (fX7_isCompared_7  n)
set_option maxHeartbeats 4000000 in
set_option maxRecDepth 100000 in
theorem tX7_isCompared_7 {l : Launch} {G : gG} {ad : Nat → Nat} {p : Program} {e : Env} {s : State} {m : MethodId} {args : Array Value} {below : List Frame} {meth : Method} {c : Code} {Q : State → Prop} (hok : gInj LM ad) (K : gCx G (gA LM ad) p s m args c cX7_isCompared 2 RX7)  : ∀ (n : Nat) (u3 : Int32) (I : gI) (J : gJ) (out : Option ((Int32))), fX7_isCompared_7  n u3 I = out → out ≠ none → ∀ (H : Heap) (locs : List Loc), gWd G LM ad (gA LM ad) s.heap I J H locs → ∀ (ls : Array Slot), lv_has ls 2 [(0, .ref (ad 0)), (1, .int u3)] → (∀ (y4 : Int32), some y4 = out → ∀ (H : Heap) (locs : List Loc), gWd G LM ad (gA LM ad) s.heap I J H locs → ∀ (ls : Array Slot), lv_has ls 2 [(0, .ref (ad 0)), (1, .int y4)] → W p l e (gRm 2) s m args below meth c H locs 0 0 Q (F0 m 30 ls [])) → W p l e (gRm 2) s m args below meth c H locs 0 0 Q (F0 m 7 ls []) := by
  have hx := K.1; have hb := K.2.1; have hown := K.2.2.2.1; have hts := K.2.2.2.2.1
  intro n
  induction n with
  | zero => intro u3 I J out h hn; exact absurd h.symm hn
  | succ n ih =>
    intro u3 I J out h hn H locs hW ls hl hx1
    replace h : fX7_isCompared_7b  (fX7_isCompared_7  n) u3 I = out := h
    unfold fX7_isCompared_7b at h
    refine lv_iload_n hx hb dX7_isCompared_7 rfl (lv_at hl 1 rfl) ?_
    refine lv_if_lt (tgt := 30) hx hb dX7_isCompared_8 (by decide) (fun c5 => ?_) (fun c5 => ?_)
    · replace h := gi_t h c5
      exact hx1 u3 h _ _ hW _ (lv_sub hl [0, 1] rfl)
    · replace h := gi_f h c5
      refine lv_aload_n hx hb dX7_isCompared_11 rfl (lv_at hl 0 rfl) ?_
      refine g_get K hW (t := 2) (ci := 6) (k := 15) (v := .ref (ad 5)) kLM_0 rfl rfl i_X7 (by decide) q_1092 rfl (gfv2 rLM_0_15) dX7_isCompared_12 ?_
      refine lv_iload_n hx hb dX7_isCompared_15 rfl (lv_at hl 1 rfl) ?_
      obtain ⟨g6, h⟩ := gd_o h hn
      refine g_iald K hW kLM_5 g6 rfl dX7_isCompared_16 ?_
      refine g_callSi (rest := []) K hW hl (kX7_rank (l := l) (G := G) (ad := ad) hok (I 5 (u3).toNatClampNeg) I J (fX7_rank (I 5 (u3).toNatClampNeg)) rfl) q_1291 q_1292 q_139 q_1293 nm_X7_rank ⟨Nat.le_of_ble_eq_true rfl, Nat.le_of_ble_eq_true rfl⟩ rfl rfl (Nat.le_of_ble_eq_true rfl) ⟨Nat.zero_le _, Nat.zero_le _⟩ dX7_isCompared_17 (fun z7 H locs hW => ?_)
      refine lv_iconst (v := (4 : Int32)) hx hb dX7_isCompared_20 (by decide) ?_
      refine lv_icmp_le (tgt := 30) hx hb dX7_isCompared_21 (by decide) (fun c8 => ?_) (fun c8 => ?_)
      · replace h := gi_t h c8
        exact hx1 u3 h _ _ hW _ (lv_sub hl [0, 1] rfl)
      · replace h := gi_f h c8
        obtain ⟨u9, e10, h⟩ := lz_o h
        refine lv_iinc (v := u9) (lv' := [(1, .int u9), (0, .ref (ad 0))]) hx hb dX7_isCompared_24 hl (k := 1) rfl (by rw [e10]; rfl) (by decide) rfl (fun ls hl => ?_)
        refine lv_goto (tgt := 7) hx hb dX7_isCompared_27 (by decide) ?_
        exact ih u9 I J _ h hn _ _ hW _ (lv_sub hl [1, 0] rfl) hx1
noncomputable def fX7_isCompared   (I : gI) : Option (Int32) :=
  lz (((I 0 16) - (1 : Int32))) (fun (u1 : Int32) => bd (fX7_isCompared_7 FU u1 I) (fun (u13 : Int32) => gi (u13 < 0)
 (some (0 : Int32))
 (gd (vp_in u13 160) (gi ((fX7_rank (I 5 (u13).toNatClampNeg)) = (4 : Int32))
 (some (1 : Int32))
 (some (0 : Int32))))))
set_option maxHeartbeats 4000000 in
set_option maxRecDepth 100000 in
theorem kX7_isCompared {l : Launch} {G : gG} {ad : Nat → Nat} (hok : gInj LM ad)     (I : gI) (J : gJ) (r : Int32) (h : fX7_isCompared I = some r) : gMi l yX7_isCompared cX7_isCompared 2 (some .boolean) 2 G LM ad [.ref (ad 0)] I J r (r = 0 ∨ r = 1) I J := by
  refine gMz_of (lst := [(0, .ref (ad 0))]) (by decide) hok (Nat.le_of_ble_eq_true rfl) rfl ?_
  intro p e s m args below meth c Q ls K hW hl hfin
  have hn : (some r : Option (Int32)) ≠ none := Option.some_ne_none _
  have hx := K.1; have hb := K.2.1; have hown := K.2.2.2.1; have hts := K.2.2.2.2.1
  unfold fX7_isCompared at h
  refine lv_aload_n hx hb dX7_isCompared_0 rfl (lv_at hl 0 rfl) ?_
  refine g_get K hW (t := 0) (ci := 6) (k := 16) (v := .int (I 0 16)) kLM_0 rfl rfl i_X7 (by decide) q_1093 rfl rfl dX7_isCompared_1 ?_
  refine lv_iconst (v := (1 : Int32)) hx hb dX7_isCompared_4 (by decide) ?_
  refine lv_isub hx hb dX7_isCompared_5 ?_
  obtain ⟨u1, e2, h⟩ := lz_o h
  refine g_nmi e2 ?_
  refine lv_istore_n (lv' := [(1, .int u1), (0, .ref (ad 0))]) hx hb dX7_isCompared_6 rfl hl (by decide) rfl (fun ls hl => ?_)
  obtain ⟨r11, e12, h⟩ := bd_o h hn
  refine tX7_isCompared_7 hok K FU u1 I J (some r11) e12 (Option.some_ne_none _) _ _ hW _ (lv_sub hl [1, 0] rfl) ?_
  · intro u13 q14 H locs hW ls hl
    replace q14 := Option.some.inj q14
    subst q14
    refine lv_iload_n hx hb dX7_isCompared_30 rfl (lv_at hl 1 rfl) ?_
    refine lv_if_lt (tgt := 51) hx hb dX7_isCompared_31 (by decide) (fun c15 => ?_) (fun c15 => ?_)
    · replace h := gi_t h c15
      refine lv_iconst (v := (0 : Int32)) hx hb dX7_isCompared_51 (by decide) ?_
      obtain a1 := so1 h
      exact g_nmi a1 (hfin _ _ _ _ (a1 ▸ (Or.inl rfl)) hW dX7_isCompared_52)
    · replace h := gi_f h c15
      refine lv_aload_n hx hb dX7_isCompared_34 rfl (lv_at hl 0 rfl) ?_
      refine g_get K hW (t := 2) (ci := 6) (k := 15) (v := .ref (ad 5)) kLM_0 rfl rfl i_X7 (by decide) q_1092 rfl (gfv2 rLM_0_15) dX7_isCompared_35 ?_
      refine lv_iload_n hx hb dX7_isCompared_38 rfl (lv_at hl 1 rfl) ?_
      obtain ⟨g16, h⟩ := gd_o h hn
      refine g_iald K hW kLM_5 g16 rfl dX7_isCompared_39 ?_
      refine g_callSi (rest := []) K hW hl (kX7_rank (l := l) (G := G) (ad := ad) hok (I 5 (u13).toNatClampNeg) I J (fX7_rank (I 5 (u13).toNatClampNeg)) rfl) q_1291 q_1292 q_139 q_1293 nm_X7_rank ⟨Nat.le_of_ble_eq_true rfl, Nat.le_of_ble_eq_true rfl⟩ rfl rfl (Nat.le_of_ble_eq_true rfl) ⟨Nat.zero_le _, Nat.zero_le _⟩ dX7_isCompared_40 (fun z17 H locs hW => ?_)
      refine lv_iconst (v := (4 : Int32)) hx hb dX7_isCompared_43 (by decide) ?_
      refine lv_icmp_ne (tgt := 51) hx hb dX7_isCompared_44 (by decide) (fun c18 => ?_) (fun c18 => ?_)
      · replace h := gi_f h c18
        refine lv_iconst (v := (0 : Int32)) hx hb dX7_isCompared_51 (by decide) ?_
        obtain a1 := so1 h
        exact g_nmi a1 (hfin _ _ _ _ (a1 ▸ (Or.inl rfl)) hW dX7_isCompared_52)
      · replace h := gi_t h c18
        refine lv_iconst (v := (1 : Int32)) hx hb dX7_isCompared_47 (by decide) ?_
        refine lv_goto (tgt := 52) hx hb dX7_isCompared_48 (by decide) ?_
        obtain a1 := so1 h
        exact g_nmi a1 (hfin _ _ _ _ (a1 ▸ (Or.inr rfl)) hW dX7_isCompared_52)
theorem nm_X7_openNow : gNm yX7_openNow 0 := by decide +kernel
noncomputable def fX7_isAskAhead   (I : gI) : Option (Int32) :=
  bd (fX7_openNow I) (fun (u1 : Int32) => gi (u1 = (41 : Int32))
 (gd (vp_in ((I 0 16) - (1 : Int32)) 160) (lz (some (1 : Int32)) (fun j6 => gi ((40 : Int32) ≤ (I 5 (((I 0 16) - (1 : Int32))).toNatClampNeg))
 (j6)
 (lz ((fX7_isIn (fX7_rank (I 5 (((I 0 16) - (1 : Int32))).toNatClampNeg)) (1 : Int32) (3 : Int32))) (fun (u12 : Int32) => gi (u12 = 0)
 (some (0 : Int32))
 (j6))))))
 (some (0 : Int32)))
set_option maxHeartbeats 4000000 in
set_option maxRecDepth 100000 in
theorem kX7_isAskAhead {l : Launch} {G : gG} {ad : Nat → Nat} (hok : gInj LM ad)     (I : gI) (J : gJ) (r : Int32) (h : fX7_isAskAhead I = some r) : gMi l yX7_isAskAhead cX7_isAskAhead 1 (some .boolean) 3 G LM ad [.ref (ad 0)] I J r (r = 0 ∨ r = 1) I J := by
  refine gMz_of (lst := [(0, .ref (ad 0))]) (by decide) hok (Nat.le_of_ble_eq_true rfl) rfl ?_
  intro p e s m args below meth c Q ls K hW hl hfin
  have hn : (some r : Option (Int32)) ≠ none := Option.some_ne_none _
  have hx := K.1; have hb := K.2.1; have hown := K.2.2.2.1; have hts := K.2.2.2.2.1
  unfold fX7_isAskAhead at h
  refine lv_aload_n hx hb dX7_isAskAhead_0 rfl (lv_at hl 0 rfl) ?_
  obtain ⟨u1, e2, h⟩ := bd_o h hn
  refine g_callVi (rest := []) K hW hl (kX7_openNow (l := l) (G := G) (ad := ad) hok I J u1 e2) kLM_0 rfl (gG_V q_1279 q_1281 q_67 q_139 q_1282) nm_X7_openNow ⟨Nat.le_of_ble_eq_true rfl, Nat.le_of_ble_eq_true rfl⟩ rfl rfl (Nat.le_of_ble_eq_true rfl) ⟨Nat.zero_le _, Nat.zero_le _⟩ dX7_isAskAhead_1 (fun z3 H locs hW => ?_)
  refine lv_bipush (v := (41 : Int32)) hx hb dX7_isAskAhead_4 (by decide) ?_
  refine lv_icmp_ne (tgt := 51) hx hb dX7_isAskAhead_6 (by decide) (fun c4 => ?_) (fun c4 => ?_)
  · replace h := gi_f h c4
    refine lv_iconst (v := (0 : Int32)) hx hb dX7_isAskAhead_51 (by decide) ?_
    obtain a1 := so1 h
    exact g_nmi a1 (hfin _ _ _ _ (a1 ▸ (Or.inl rfl)) hW dX7_isAskAhead_52)
  · replace h := gi_t h c4
    refine lv_aload_n hx hb dX7_isAskAhead_9 rfl (lv_at hl 0 rfl) ?_
    refine g_get K hW (t := 2) (ci := 6) (k := 15) (v := .ref (ad 5)) kLM_0 rfl rfl i_X7 (by decide) q_1092 rfl (gfv2 rLM_0_15) dX7_isAskAhead_10 ?_
    refine lv_aload_n hx hb dX7_isAskAhead_13 rfl (lv_at hl 0 rfl) ?_
    refine g_get K hW (t := 0) (ci := 6) (k := 16) (v := .int (I 0 16)) kLM_0 rfl rfl i_X7 (by decide) q_1093 rfl rfl dX7_isAskAhead_14 ?_
    refine lv_iconst (v := (1 : Int32)) hx hb dX7_isAskAhead_17 (by decide) ?_
    refine lv_isub hx hb dX7_isAskAhead_18 ?_
    obtain ⟨g5, h⟩ := gd_o h hn
    refine g_iald K hW kLM_5 g5 rfl dX7_isAskAhead_19 ?_
    refine lv_bipush (v := (40 : Int32)) hx hb dX7_isAskAhead_20 (by decide) ?_
    obtain ⟨j6, e7, h⟩ := lz_o h
    have hj8 : j6 = (some r) → ∀ (H : Heap) (locs : List Loc), gWd G LM ad (gA LM ad) s.heap I J H locs → ∀ (ls : Array Slot), lv_has ls 1 [] → W p l e (gRm 3) s m args below meth c H locs 0 0 Q (F0 m 47 ls []) := by
      intro h H locs hW ls hl
      replace h := jn0 e7 h
      refine lv_iconst (v := (1 : Int32)) hx hb dX7_isAskAhead_47 (by decide) ?_
      refine lv_goto (tgt := 52) hx hb dX7_isAskAhead_48 (by decide) ?_
      obtain a1 := so1 h
      exact g_nmi a1 (hfin _ _ _ _ (a1 ▸ (Or.inr rfl)) hW dX7_isAskAhead_52)
    refine lv_icmp_ge (tgt := 47) hx hb dX7_isAskAhead_22 (by decide) (fun c9 => ?_) (fun c9 => ?_)
    · replace h := gi_t h c9
      exact hj8 h _ _ hW _ (lv_sub hl [] rfl)
    · replace h := gi_f h c9
      refine lv_aload_n hx hb dX7_isAskAhead_25 rfl (lv_at hl 0 rfl) ?_
      refine g_get K hW (t := 2) (ci := 6) (k := 15) (v := .ref (ad 5)) kLM_0 rfl rfl i_X7 (by decide) q_1092 rfl (gfv2 rLM_0_15) dX7_isAskAhead_26 ?_
      refine lv_aload_n hx hb dX7_isAskAhead_29 rfl (lv_at hl 0 rfl) ?_
      refine g_get K hW (t := 0) (ci := 6) (k := 16) (v := .int (I 0 16)) kLM_0 rfl rfl i_X7 (by decide) q_1093 rfl rfl dX7_isAskAhead_30 ?_
      refine lv_iconst (v := (1 : Int32)) hx hb dX7_isAskAhead_33 (by decide) ?_
      refine lv_isub hx hb dX7_isAskAhead_34 ?_
      refine g_iald K hW kLM_5 g5 rfl dX7_isAskAhead_35 ?_
      refine g_callSi (rest := []) K hW hl (kX7_rank (l := l) (G := G) (ad := ad) hok (I 5 (((I 0 16) - (1 : Int32))).toNatClampNeg) I J (fX7_rank (I 5 (((I 0 16) - (1 : Int32))).toNatClampNeg)) rfl) q_1291 q_1292 q_139 q_1293 nm_X7_rank ⟨Nat.le_of_ble_eq_true rfl, Nat.le_of_ble_eq_true rfl⟩ rfl rfl (Nat.le_of_ble_eq_true rfl) ⟨Nat.zero_le _, Nat.zero_le _⟩ dX7_isAskAhead_36 (fun z10 H locs hW => ?_)
      refine lv_iconst (v := (1 : Int32)) hx hb dX7_isAskAhead_39 (by decide) ?_
      refine lv_iconst (v := (3 : Int32)) hx hb dX7_isAskAhead_40 (by decide) ?_
      refine g_callSi (rest := []) K hW hl (kX7_isIn (l := l) (G := G) (ad := ad) hok (fX7_rank (I 5 (((I 0 16) - (1 : Int32))).toNatClampNeg)) (1 : Int32) (3 : Int32) I J (fX7_isIn (fX7_rank (I 5 (((I 0 16) - (1 : Int32))).toNatClampNeg)) (1 : Int32) (3 : Int32)) rfl) q_1171 q_1172 q_139 q_1173 nm_X7_isIn ⟨Nat.le_of_ble_eq_true rfl, Nat.le_of_ble_eq_true rfl⟩ rfl rfl (Nat.le_of_ble_eq_true rfl) ⟨Nat.zero_le _, Nat.zero_le _⟩ dX7_isAskAhead_41 (fun z11 H locs hW => ?_)
      obtain ⟨u12, e13, h⟩ := lz_o h
      refine g_nmi e13 ?_
      refine lv_if_eq (tgt := 51) hx hb dX7_isAskAhead_44 (by decide) (fun c14 => ?_) (fun c14 => ?_)
      · replace h := gi_t h c14
        refine lv_iconst (v := (0 : Int32)) hx hb dX7_isAskAhead_51 (by decide) ?_
        obtain a1 := so1 h
        exact g_nmi a1 (hfin _ _ _ _ (a1 ▸ (Or.inl rfl)) hW dX7_isAskAhead_52)
      · replace h := gi_f h c14
        exact hj8 h _ _ hW _ (lv_sub hl [] rfl)
theorem nm_X7_nextToken : gNm yX7_nextToken 0 := by decide +kernel
noncomputable def fX7_opened  (x1 : Int32) (I : gI) (J : gJ) : Option (Int32 × gI × gJ) :=
  gi ((I 0 17) = (8 : Int32))
 (some ((3 : Int32), I, J))
 (lz (wI I 0 17 ((I 0 17) + (1 : Int32))) (fun (I2 : gI) => gd (vp_in (I2 0 16) 160) (lz (wI I2 5 ((I2 0 16)).toNatClampNeg x1) (fun (I6 : gI) => lz (wI I6 0 16 ((I6 0 16) + (1 : Int32))) (fun (I7 : gI) => bd (fX7_nextToken I7 J) (pr (fun (I9 : gI) (J10 : gJ) => some ((0 : Int32), I9, J10))))))))
set_option maxHeartbeats 4000000 in
set_option maxRecDepth 100000 in
theorem kX7_opened {l : Launch} {G : gG} {ad : Nat → Nat} (hok : gInj LM ad)    (x1 : Int32) (I : gI) (J : gJ) (r : Int32) (I' : gI) (J' : gJ) (h : fX7_opened x1 I J = some (r, I', J')) : gMi l yX7_opened cX7_opened 2 (some .int) 3 G LM ad [.ref (ad 0), .int x1] I J r True I' J' := by
  refine gMi_of (lst := [(0, .ref (ad 0)), (1, .int x1)]) (by decide) hok (Nat.le_of_ble_eq_true rfl) rfl ?_
  intro p e s m args below meth c Q ls K hW hl hfin
  have hn : (some (r, I', J') : Option (Int32 × gI × gJ)) ≠ none := Option.some_ne_none _
  have hx := K.1; have hb := K.2.1; have hown := K.2.2.2.1; have hts := K.2.2.2.2.1
  unfold fX7_opened at h
  refine lv_aload_n hx hb dX7_opened_0 rfl (lv_at hl 0 rfl) ?_
  refine g_get K hW (t := 0) (ci := 6) (k := 17) (v := .int (I 0 17)) kLM_0 rfl rfl i_X7 (by decide) q_1094 rfl rfl dX7_opened_1 ?_
  refine lv_bipush (v := (8 : Int32)) hx hb dX7_opened_4 (by decide) ?_
  refine lv_icmp_ne (tgt := 11) hx hb dX7_opened_6 (by decide) (fun c1 => ?_) (fun c1 => ?_)
  · replace h := gi_f h c1
    refine lv_aload_n hx hb dX7_opened_11 rfl (lv_at hl 0 rfl) ?_
    refine lv_dup hx hb dX7_opened_12 rfl ?_
    refine g_get K hW (t := 0) (ci := 6) (k := 17) (v := .int (I 0 17)) kLM_0 rfl rfl i_X7 (by decide) q_1094 rfl rfl dX7_opened_13 ?_
    refine lv_iconst (v := (1 : Int32)) hx hb dX7_opened_16 (by decide) ?_
    refine lv_iadd hx hb dX7_opened_17 ?_
    refine g_putI K hW (ci := 6) (k := 17) kLM_0 rfl rfl i_X7 tyX7_ok nmX7 (by decide) q_1094 rfl rfl rfl rfl dX7_opened_18 (fun H locs hW => ?_)
    obtain ⟨I2, e3, h⟩ := lz_o h
    replace hW := gWd_nI e3 hW
    refine lv_aload_n hx hb dX7_opened_21 rfl (lv_at hl 0 rfl) ?_
    refine g_get K hW (t := 2) (ci := 6) (k := 15) (v := .ref (ad 5)) kLM_0 rfl rfl i_X7 (by decide) q_1092 rfl (gfv2 rLM_0_15) dX7_opened_22 ?_
    refine lv_aload_n hx hb dX7_opened_25 rfl (lv_at hl 0 rfl) ?_
    refine g_get K hW (t := 0) (ci := 6) (k := 16) (v := .int (I2 0 16)) kLM_0 rfl rfl i_X7 (by decide) q_1093 rfl rfl dX7_opened_26 ?_
    refine lv_iload_n hx hb dX7_opened_29 rfl (lv_at hl 1 rfl) ?_
    obtain ⟨g4, h⟩ := gd_o h hn
    refine g_iast K hW kLM_5 g4 rfl dX7_opened_30 (fun H locs hW => ?_)
    obtain ⟨I6, e5, h⟩ := lz_o h
    replace hW := gWd_nI e5 hW
    refine lv_aload_n hx hb dX7_opened_31 rfl (lv_at hl 0 rfl) ?_
    refine lv_dup hx hb dX7_opened_32 rfl ?_
    refine g_get K hW (t := 0) (ci := 6) (k := 16) (v := .int (I6 0 16)) kLM_0 rfl rfl i_X7 (by decide) q_1093 rfl rfl dX7_opened_33 ?_
    refine lv_iconst (v := (1 : Int32)) hx hb dX7_opened_36 (by decide) ?_
    refine lv_iadd hx hb dX7_opened_37 ?_
    refine g_putI K hW (ci := 6) (k := 16) kLM_0 rfl rfl i_X7 tyX7_ok nmX7 (by decide) q_1093 rfl rfl rfl rfl dX7_opened_38 (fun H locs hW => ?_)
    obtain ⟨I7, e8, h⟩ := lz_o h
    replace hW := gWd_nI e8 hW
    refine lv_aload_n hx hb dX7_opened_41 rfl (lv_at hl 0 rfl) ?_
    obtain ⟨⟨I9, J10⟩, e11, h⟩ := bd_o h hn
    replace h := pr_o h
    refine g_callVv (rest := []) K hW hl (kX7_nextToken (l := l) (G := G) (ad := ad) hok I7 J I9 J10 e11) kLM_0 rfl (gG_V q_1201 q_1203 q_54 q_139 q_1204) nm_X7_nextToken ⟨Nat.le_of_ble_eq_true rfl, Nat.le_of_ble_eq_true rfl⟩ rfl rfl (Nat.le_of_ble_eq_true rfl) ⟨Nat.zero_le _, Nat.zero_le _⟩ dX7_opened_42 (fun H locs hW => ?_)
    refine lv_iconst (v := (0 : Int32)) hx hb dX7_opened_45 (by decide) ?_
    obtain ⟨a1, a2, a3⟩ := so3 h
    replace hW := gWd_nI a2 hW
    replace hW := gWd_nJ a3 hW
    exact g_nmi a1 (hfin _ _ _ _ hW dX7_opened_46)
  · replace h := gi_t h c1
    refine lv_iconst (v := (3 : Int32)) hx hb dX7_opened_9 (by decide) ?_
    obtain ⟨a1, a2, a3⟩ := so3 h
    replace hW := gWd_nI a2 hW
    replace hW := gWd_nJ a3 hW
    exact g_nmi a1 (hfin _ _ _ _ hW dX7_opened_10)
