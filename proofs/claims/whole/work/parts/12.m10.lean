-- 12.m10: the reference: areServed stab crowdAt crowd layDawns dawns month value byLeft byRight layGames ends take runOf best said
noncomputable def fX7_areServed_2b  (rec : Int32 → Int32 → gI → Option ((Unit) ⊕ (Unit))) (u1 : Int32) (u2 : Int32) (I : gI) : Option ((Unit) ⊕ (Unit)) :=
  gi ((I 1 0) ≤ u2)
 (some (Sum.inr ()))
 (bd (fX7_slicesOf u2 I) (fun (u4 : Int32) => gi ((u4 &&& u1) = 0)
 (some (Sum.inl ()))
 (lz ((u2 + (1 : Int32))) (fun (u8 : Int32) => rec u1 u8 I))))
noncomputable def fX7_areServed_2  : Nat → Int32 → Int32 → gI → Option ((Unit) ⊕ (Unit))
  | 0 => fun _ _ _ => none
  | n + 1 => fX7_areServed_2b  (fX7_areServed_2  n)
set_option maxHeartbeats 4000000 in
set_option maxRecDepth 100000 in
theorem tX7_areServed_2 {l : Launch} {G : gG} {ad : Nat → Nat} {p : Program} {e : Env} {s : State} {m : MethodId} {args : Array Value} {below : List Frame} {meth : Method} {c : Code} {Q : State → Prop} (hok : gInj LM ad) (K : gCx G (gA LM ad) p s m args c cX7_areServed 3 RX7)  : ∀ (n : Nat) (u1 : Int32) (u2 : Int32) (I : gI) (J : gJ) (out : Option ((Unit) ⊕ (Unit))), fX7_areServed_2  n u1 u2 I = out → out ≠ none → ∀ (H : Heap) (locs : List Loc), gWd G LM ad (gA LM ad) s.heap I J H locs → ∀ (ls : Array Slot), lv_has ls 3 [(0, .ref (ad 0)), (1, .int u1), (2, .int u2)] → (some (Sum.inl ()) = out → ∀ (H : Heap) (locs : List Loc), gWd G LM ad (gA LM ad) s.heap I J H locs → ∀ (ls : Array Slot), lv_has ls 3 [] → W p l e (gRm 3) s m args below meth c H locs 0 0 Q (F0 m 22 ls [])) → (some (Sum.inr ()) = out → ∀ (H : Heap) (locs : List Loc), gWd G LM ad (gA LM ad) s.heap I J H locs → ∀ (ls : Array Slot), lv_has ls 3 [] → W p l e (gRm 3) s m args below meth c H locs 0 0 Q (F0 m 30 ls [])) → W p l e (gRm 3) s m args below meth c H locs 0 0 Q (F0 m 2 ls []) := by
  have hx := K.1; have hb := K.2.1; have hown := K.2.2.2.1; have hts := K.2.2.2.2.1
  intro n
  induction n with
  | zero => intro u1 u2 I J out h hn; exact absurd h.symm hn
  | succ n ih =>
    intro u1 u2 I J out h hn H locs hW ls hl hx1 hx2
    replace h : fX7_areServed_2b  (fX7_areServed_2  n) u1 u2 I = out := h
    unfold fX7_areServed_2b at h
    refine lv_iload_n hx hb dX7_areServed_2 rfl (lv_at hl 2 rfl) ?_
    refine lv_aload_n hx hb dX7_areServed_3 rfl (lv_at hl 0 rfl) ?_
    refine g_get K hW (t := 2) (ci := 6) (k := 0) (v := .ref (ad 1)) kLM_0 rfl rfl i_X7 (by decide) q_1077 rfl (gfv2 rLM_0_0) dX7_areServed_4 ?_
    refine lv_iconst (v := (0 : Int32)) hx hb dX7_areServed_7 (by decide) ?_
    refine g_iald K hW kLM_1 in_0_1592 tn_0 dX7_areServed_8 ?_
    refine lv_icmp_ge (tgt := 30) hx hb dX7_areServed_9 (by decide) (fun c3 => ?_) (fun c3 => ?_)
    · replace h := gi_t h c3
      exact hx2 h _ _ hW _ (lv_sub hl [] rfl)
    · replace h := gi_f h c3
      refine lv_aload_n hx hb dX7_areServed_12 rfl (lv_at hl 0 rfl) ?_
      refine lv_iload_n hx hb dX7_areServed_13 rfl (lv_at hl 2 rfl) ?_
      obtain ⟨u4, e5, h⟩ := bd_o h hn
      refine g_callVi (rest := []) K hW hl (kX7_slicesOf (l := l) (G := G) (ad := ad) hok u2 I J u4 e5) kLM_0 rfl (gG_V q_1358 q_1360 q_82 q_139 q_1361) nm_X7_slicesOf ⟨Nat.le_of_ble_eq_true rfl, Nat.le_of_ble_eq_true rfl⟩ rfl rfl (Nat.le_of_ble_eq_true rfl) ⟨Nat.zero_le _, Nat.zero_le _⟩ dX7_areServed_14 (fun z6 H locs hW => ?_)
      refine lv_iload_n hx hb dX7_areServed_17 rfl (lv_at hl 1 rfl) ?_
      refine lv_iand hx hb dX7_areServed_18 ?_
      refine lv_if_ne (tgt := 24) hx hb dX7_areServed_19 (by decide) (fun c7 => ?_) (fun c7 => ?_)
      · replace h := gi_f h c7
        obtain ⟨u8, e9, h⟩ := lz_o h
        refine lv_iinc (v := u8) (lv' := [(2, .int u8), (0, .ref (ad 0)), (1, .int u1)]) hx hb dX7_areServed_24 hl (k := 2) rfl (by rw [e9]; rfl) (by decide) rfl (fun ls hl => ?_)
        refine lv_goto (tgt := 2) hx hb dX7_areServed_27 (by decide) ?_
        exact ih u1 u8 I J _ h hn _ _ hW _ (lv_sub hl [1, 2, 0] rfl) hx1 hx2
      · replace h := gi_t h c7
        exact hx1 h _ _ hW _ (lv_sub hl [] rfl)
noncomputable def fX7_areServed  (x1 : Int32) (I : gI) : Option (Int32) :=
  bd (fX7_areServed_2 FU x1 (0 : Int32) I) (sm (fun _ => some (0 : Int32)) (fun _ => some (1 : Int32)))
set_option maxHeartbeats 4000000 in
set_option maxRecDepth 100000 in
theorem kX7_areServed {l : Launch} {G : gG} {ad : Nat → Nat} (hok : gInj LM ad)    (x1 : Int32) (I : gI) (J : gJ) (r : Int32) (h : fX7_areServed x1 I = some r) : gMi l yX7_areServed cX7_areServed 3 (some .boolean) 3 G LM ad [.ref (ad 0), .int x1] I J r (r = 0 ∨ r = 1) I J := by
  refine gMz_of (lst := [(0, .ref (ad 0)), (1, .int x1)]) (by decide) hok (Nat.le_of_ble_eq_true rfl) rfl ?_
  intro p e s m args below meth c Q ls K hW hl hfin
  have hn : (some r : Option (Int32)) ≠ none := Option.some_ne_none _
  have hx := K.1; have hb := K.2.1; have hown := K.2.2.2.1; have hts := K.2.2.2.2.1
  unfold fX7_areServed at h
  refine lv_iconst (v := (0 : Int32)) hx hb dX7_areServed_0 (by decide) ?_
  refine lv_istore_n (lv' := [(2, .int (0 : Int32)), (0, .ref (ad 0)), (1, .int x1)]) hx hb dX7_areServed_1 rfl hl (by decide) rfl (fun ls hl => ?_)
  obtain ⟨r10, e11, h⟩ := bd_o h hn
  refine tX7_areServed_2 hok K FU x1 (0 : Int32) I J (some r10) e11 (Option.some_ne_none _) _ _ hW _ (lv_sub hl [1, 2, 0] rfl) ?_ ?_
  · intro q12 H locs hW ls hl
    replace q12 := Option.some.inj q12
    subst q12
    replace h := sm_l h
    refine lv_iconst (v := (0 : Int32)) hx hb dX7_areServed_22 (by decide) ?_
    obtain a1 := so1 h
    exact g_nmi a1 (hfin _ _ _ _ (a1 ▸ (Or.inl rfl)) hW dX7_areServed_23)
  · intro q13 H locs hW ls hl
    replace q13 := Option.some.inj q13
    subst q13
    replace h := sm_r h
    refine lv_iconst (v := (1 : Int32)) hx hb dX7_areServed_30 (by decide) ?_
    obtain a1 := so1 h
    exact g_nmi a1 (hfin _ _ _ _ (a1 ▸ (Or.inr rfl)) hW dX7_areServed_31)
theorem nm_X7_areServed : gNm yX7_areServed 1 := by decide +kernel
noncomputable def fX7_stab_8b  (rec : Int32 → Int32 → Int32 → gI → Option ((Int32))) (u1 : Int32) (u2 : Int32) (u3 : Int32) (I : gI) : Option ((Int32)) :=
  gi (u3 < 0)
 (some u2)
 (bd (fX7_bits u3) (fun (u6 : Int32) => bd (fX7_bits u2) (fun (u9 : Int32) => lz (fun (u12 : Int32) => lz ((u3 + (-1 : Int32))) (fun (u16 : Int32) => rec u1 u12 u16 I)) (fun j13 => gi (u9 < u6)
 (j13 u2)
 (bd (fX7_areServed u3 I) (fun (u19 : Int32) => gi (u19 = 0)
 (j13 u2)
 (j13 u3)))))))
noncomputable def fX7_stab_8  : Nat → Int32 → Int32 → Int32 → gI → Option ((Int32))
  | 0 => fun _ _ _ _ => none
  | n + 1 => fX7_stab_8b  (fX7_stab_8  n)
set_option maxHeartbeats 4000000 in
set_option maxRecDepth 100000 in
theorem tX7_stab_8 {l : Launch} {G : gG} {ad : Nat → Nat} {p : Program} {e : Env} {s : State} {m : MethodId} {args : Array Value} {below : List Frame} {meth : Method} {c : Code} {Q : State → Prop} (hok : gInj LM ad) (K : gCx G (gA LM ad) p s m args c cX7_stab 4 RX7)  : ∀ (n : Nat) (u1 : Int32) (u2 : Int32) (u3 : Int32) (I : gI) (J : gJ) (out : Option ((Int32))), fX7_stab_8  n u1 u2 u3 I = out → out ≠ none → ∀ (H : Heap) (locs : List Loc), gWd G LM ad (gA LM ad) s.heap I J H locs → ∀ (ls : Array Slot), lv_has ls 4 [(0, .ref (ad 0)), (1, .int u1), (2, .int u2), (3, .int u3)] → (∀ (y4 : Int32), some y4 = out → ∀ (H : Heap) (locs : List Loc), gWd G LM ad (gA LM ad) s.heap I J H locs → ∀ (ls : Array Slot), lv_has ls 4 [(1, .int u1), (2, .int y4)] → W p l e (gRm 4) s m args below meth c H locs 0 0 Q (F0 m 39 ls [])) → W p l e (gRm 4) s m args below meth c H locs 0 0 Q (F0 m 8 ls []) := by
  have hx := K.1; have hb := K.2.1; have hown := K.2.2.2.1; have hts := K.2.2.2.2.1
  intro n
  induction n with
  | zero => intro u1 u2 u3 I J out h hn; exact absurd h.symm hn
  | succ n ih =>
    intro u1 u2 u3 I J out h hn H locs hW ls hl hx1
    replace h : fX7_stab_8b  (fX7_stab_8  n) u1 u2 u3 I = out := h
    unfold fX7_stab_8b at h
    refine lv_iload_n hx hb dX7_stab_8 rfl (lv_at hl 3 rfl) ?_
    refine lv_if_lt (tgt := 39) hx hb dX7_stab_9 (by decide) (fun c5 => ?_) (fun c5 => ?_)
    · replace h := gi_t h c5
      exact hx1 u2 h _ _ hW _ (lv_sub hl [1, 2] rfl)
    · replace h := gi_f h c5
      refine lv_iload_n hx hb dX7_stab_12 rfl (lv_at hl 3 rfl) ?_
      obtain ⟨u6, e7, h⟩ := bd_o h hn
      refine g_callSi (rest := []) K hW hl (kX7_bits (l := l) (G := G) (ad := ad) hok u3 I J u6 e7) q_1382 q_1383 q_139 q_1384 nm_X7_bits ⟨Nat.le_of_ble_eq_true rfl, Nat.le_of_ble_eq_true rfl⟩ rfl rfl (Nat.le_of_ble_eq_true rfl) ⟨Nat.zero_le _, Nat.zero_le _⟩ dX7_stab_13 (fun z8 H locs hW => ?_)
      refine lv_iload_n hx hb dX7_stab_16 rfl (lv_at hl 2 rfl) ?_
      obtain ⟨u9, e10, h⟩ := bd_o h hn
      refine g_callSi (rest := [.int u6]) K hW hl (kX7_bits (l := l) (G := G) (ad := ad) hok u2 I J u9 e10) q_1382 q_1383 q_139 q_1384 nm_X7_bits ⟨Nat.le_of_ble_eq_true rfl, Nat.le_of_ble_eq_true rfl⟩ rfl rfl (Nat.le_of_ble_eq_true rfl) ⟨Nat.zero_le _, Nat.zero_le _⟩ dX7_stab_17 (fun z11 H locs hW => ?_)
      obtain ⟨j13, e14, h⟩ := lz_o h
      have hj15 : ∀ (u12 : Int32), j13 u12 = out → ∀ (H : Heap) (locs : List Loc), gWd G LM ad (gA LM ad) s.heap I J H locs → ∀ (ls : Array Slot), lv_has ls 4 [(0, .ref (ad 0)), (1, .int u1), (2, .int u12), (3, .int u3)] → W p l e (gRm 4) s m args below meth c H locs 0 0 Q (F0 m 33 ls []) := by
        intro u12 h H locs hW ls hl
        replace h := jn1 e14 h
        obtain ⟨u16, e17, h⟩ := lz_o h
        refine lv_iinc (v := u16) (lv' := [(3, .int u16), (0, .ref (ad 0)), (1, .int u1), (2, .int u12)]) hx hb dX7_stab_33 hl (k := 3) rfl (by rw [e17]; rfl) (by decide) rfl (fun ls hl => ?_)
        refine lv_goto (tgt := 8) hx hb dX7_stab_36 (by decide) ?_
        exact ih u1 u12 u16 I J _ h hn _ _ hW _ (lv_sub hl [1, 2, 3, 0] rfl) hx1
      refine lv_icmp_gt (tgt := 33) hx hb dX7_stab_20 (by decide) (fun c18 => ?_) (fun c18 => ?_)
      · replace h := gi_t h c18
        exact hj15 u2 h _ _ hW _ (lv_sub hl [0, 1, 2, 3] rfl)
      · replace h := gi_f h c18
        refine lv_aload_n hx hb dX7_stab_23 rfl (lv_at hl 0 rfl) ?_
        refine lv_iload_n hx hb dX7_stab_24 rfl (lv_at hl 3 rfl) ?_
        obtain ⟨u19, e20, h⟩ := bd_o h hn
        refine g_callVi (rest := []) K hW hl (kX7_areServed (l := l) (G := G) (ad := ad) hok u3 I J u19 e20) kLM_0 rfl (gG_V q_1717 q_1719 q_125 q_139 q_1720) nm_X7_areServed ⟨Nat.le_of_ble_eq_true rfl, Nat.le_of_ble_eq_true rfl⟩ rfl rfl (Nat.le_of_ble_eq_true rfl) ⟨Nat.zero_le _, Nat.zero_le _⟩ dX7_stab_25 (fun z21 H locs hW => ?_)
        refine lv_if_eq (tgt := 33) hx hb dX7_stab_28 (by decide) (fun c22 => ?_) (fun c22 => ?_)
        · replace h := gi_t h c22
          exact hj15 u2 h _ _ hW _ (lv_sub hl [0, 1, 2, 3] rfl)
        · replace h := gi_f h c22
          refine lv_iload_n hx hb dX7_stab_31 rfl (lv_at hl 3 rfl) ?_
          refine lv_istore_n (lv' := [(2, .int u3), (0, .ref (ad 0)), (1, .int u1), (3, .int u3)]) hx hb dX7_stab_32 rfl hl (by decide) rfl (fun ls hl => ?_)
          exact hj15 u3 h _ _ hW _ (lv_sub hl [1, 2, 0, 3] rfl)
noncomputable def fX7_stab  (x1 : Int32) (I : gI) : Option (Int32) :=
  bd (fX7_stab_8 FU x1 (4095 : Int32) (4095 : Int32) I) (fun (u25 : Int32) => gi (x1 = 0)
 (some u25)
 (bd (fX7_bits u25) (fun (u28 : Int32) => some u28)))
set_option maxHeartbeats 4000000 in
set_option maxRecDepth 100000 in
theorem kX7_stab {l : Launch} {G : gG} {ad : Nat → Nat} (hok : gInj LM ad)    (x1 : Int32) (I : gI) (J : gJ) (r : Int32) (h : fX7_stab x1 I = some r) : gMi l yX7_stab cX7_stab 4 (some .int) 4 G LM ad [.ref (ad 0), .int x1] I J r True I J := by
  refine gMi_of (lst := [(0, .ref (ad 0)), (1, .int x1)]) (by decide) hok (Nat.le_of_ble_eq_true rfl) rfl ?_
  intro p e s m args below meth c Q ls K hW hl hfin
  have hn : (some r : Option (Int32)) ≠ none := Option.some_ne_none _
  have hx := K.1; have hb := K.2.1; have hown := K.2.2.2.1; have hts := K.2.2.2.2.1
  unfold fX7_stab at h
  refine lv_sipush (v := (4095 : Int32)) hx hb dX7_stab_0 (by decide) ?_
  refine lv_istore_n (lv' := [(2, .int (4095 : Int32)), (0, .ref (ad 0)), (1, .int x1)]) hx hb dX7_stab_3 rfl hl (by decide) rfl (fun ls hl => ?_)
  refine lv_sipush (v := (4095 : Int32)) hx hb dX7_stab_4 (by decide) ?_
  refine lv_istore_n (lv' := [(3, .int (4095 : Int32)), (2, .int (4095 : Int32)), (0, .ref (ad 0)), (1, .int x1)]) hx hb dX7_stab_7 rfl hl (by decide) rfl (fun ls hl => ?_)
  obtain ⟨r23, e24, h⟩ := bd_o h hn
  refine tX7_stab_8 hok K FU x1 (4095 : Int32) (4095 : Int32) I J (some r23) e24 (Option.some_ne_none _) _ _ hW _ (lv_sub hl [2, 3, 1, 0] rfl) ?_
  · intro u25 q26 H locs hW ls hl
    replace q26 := Option.some.inj q26
    subst q26
    refine lv_iload_n hx hb dX7_stab_39 rfl (lv_at hl 0 rfl) ?_
    refine lv_if_eq (tgt := 50) hx hb dX7_stab_40 (by decide) (fun c27 => ?_) (fun c27 => ?_)
    · replace h := gi_t h c27
      refine lv_iload_n hx hb dX7_stab_50 rfl (lv_at hl 1 rfl) ?_
      obtain a1 := so1 h
      exact g_nmi a1 (hfin _ _ _ _ hW dX7_stab_51)
    · replace h := gi_f h c27
      refine lv_iload_n hx hb dX7_stab_43 rfl (lv_at hl 1 rfl) ?_
      obtain ⟨u28, e29, h⟩ := bd_o h hn
      refine g_callSi (rest := []) K hW hl (kX7_bits (l := l) (G := G) (ad := ad) hok u25 I J u28 e29) q_1382 q_1383 q_139 q_1384 nm_X7_bits ⟨Nat.le_of_ble_eq_true rfl, Nat.le_of_ble_eq_true rfl⟩ rfl rfl (Nat.le_of_ble_eq_true rfl) ⟨Nat.zero_le _, Nat.zero_le _⟩ dX7_stab_44 (fun z30 H locs hW => ?_)
      refine lv_goto (tgt := 51) hx hb dX7_stab_47 (by decide) ?_
      obtain a1 := so1 h
      exact g_nmi a1 (hfin _ _ _ _ hW dX7_stab_51)
noncomputable def fX7_crowdAt_4b  (rec : Int32 → Int32 → Int32 → gI → Option ((Int32))) (u1 : Int32) (u2 : Int32) (u3 : Int32) (I : gI) : Option ((Int32)) :=
  gi ((I 1 0) ≤ u3)
 (some u2)
 (bd (fX7_slicesOf u3 I) (fun (u6 : Int32) => lz (fun (u10 : Int32) => lz ((u2 + u10)) (fun (u14 : Int32) => lz ((u3 + (1 : Int32))) (fun (u16 : Int32) => rec u1 u14 u16 I))) (fun j11 => gi ((fX7_has u6 u1) = 0)
 (j11 (0 : Int32))
 (j11 (1 : Int32)))))
noncomputable def fX7_crowdAt_4  : Nat → Int32 → Int32 → Int32 → gI → Option ((Int32))
  | 0 => fun _ _ _ _ => none
  | n + 1 => fX7_crowdAt_4b  (fX7_crowdAt_4  n)
set_option maxHeartbeats 4000000 in
set_option maxRecDepth 100000 in
theorem tX7_crowdAt_4 {l : Launch} {G : gG} {ad : Nat → Nat} {p : Program} {e : Env} {s : State} {m : MethodId} {args : Array Value} {below : List Frame} {meth : Method} {c : Code} {Q : State → Prop} (hok : gInj LM ad) (K : gCx G (gA LM ad) p s m args c cX7_crowdAt 4 RX7)  : ∀ (n : Nat) (u1 : Int32) (u2 : Int32) (u3 : Int32) (I : gI) (J : gJ) (out : Option ((Int32))), fX7_crowdAt_4  n u1 u2 u3 I = out → out ≠ none → ∀ (H : Heap) (locs : List Loc), gWd G LM ad (gA LM ad) s.heap I J H locs → ∀ (ls : Array Slot), lv_has ls 4 [(0, .ref (ad 0)), (1, .int u1), (2, .int u2), (3, .int u3)] → (∀ (y4 : Int32), some y4 = out → ∀ (H : Heap) (locs : List Loc), gWd G LM ad (gA LM ad) s.heap I J H locs → ∀ (ls : Array Slot), lv_has ls 4 [(2, .int y4)] → W p l e (gRm 3) s m args below meth c H locs 0 0 Q (F0 m 40 ls [])) → W p l e (gRm 3) s m args below meth c H locs 0 0 Q (F0 m 4 ls []) := by
  have hx := K.1; have hb := K.2.1; have hown := K.2.2.2.1; have hts := K.2.2.2.2.1
  intro n
  induction n with
  | zero => intro u1 u2 u3 I J out h hn; exact absurd h.symm hn
  | succ n ih =>
    intro u1 u2 u3 I J out h hn H locs hW ls hl hx1
    replace h : fX7_crowdAt_4b  (fX7_crowdAt_4  n) u1 u2 u3 I = out := h
    unfold fX7_crowdAt_4b at h
    refine lv_iload_n hx hb dX7_crowdAt_4 rfl (lv_at hl 3 rfl) ?_
    refine lv_aload_n hx hb dX7_crowdAt_5 rfl (lv_at hl 0 rfl) ?_
    refine g_get K hW (t := 2) (ci := 6) (k := 0) (v := .ref (ad 1)) kLM_0 rfl rfl i_X7 (by decide) q_1077 rfl (gfv2 rLM_0_0) dX7_crowdAt_6 ?_
    refine lv_iconst (v := (0 : Int32)) hx hb dX7_crowdAt_9 (by decide) ?_
    refine g_iald K hW kLM_1 in_0_1592 tn_0 dX7_crowdAt_10 ?_
    refine lv_icmp_ge (tgt := 40) hx hb dX7_crowdAt_11 (by decide) (fun c5 => ?_) (fun c5 => ?_)
    · replace h := gi_t h c5
      exact hx1 u2 h _ _ hW _ (lv_sub hl [2] rfl)
    · replace h := gi_f h c5
      refine lv_iload_n hx hb dX7_crowdAt_14 rfl (lv_at hl 2 rfl) ?_
      refine lv_aload_n hx hb dX7_crowdAt_15 rfl (lv_at hl 0 rfl) ?_
      refine lv_iload_n hx hb dX7_crowdAt_16 rfl (lv_at hl 3 rfl) ?_
      obtain ⟨u6, e7, h⟩ := bd_o h hn
      refine g_callVi (rest := [.int u2]) K hW hl (kX7_slicesOf (l := l) (G := G) (ad := ad) hok u3 I J u6 e7) kLM_0 rfl (gG_V q_1358 q_1360 q_82 q_139 q_1361) nm_X7_slicesOf ⟨Nat.le_of_ble_eq_true rfl, Nat.le_of_ble_eq_true rfl⟩ rfl rfl (Nat.le_of_ble_eq_true rfl) ⟨Nat.zero_le _, Nat.zero_le _⟩ dX7_crowdAt_17 (fun z8 H locs hW => ?_)
      refine lv_iload_n hx hb dX7_crowdAt_20 rfl (lv_at hl 1 rfl) ?_
      refine g_callSi (rest := [.int u2]) K hW hl (kX7_has (l := l) (G := G) (ad := ad) hok u6 u1 I J (fX7_has u6 u1) rfl) q_1244 q_1245 q_139 q_1246 nm_X7_has ⟨Nat.le_of_ble_eq_true rfl, Nat.le_of_ble_eq_true rfl⟩ rfl rfl (Nat.le_of_ble_eq_true rfl) ⟨Nat.zero_le _, Nat.zero_le _⟩ dX7_crowdAt_21 (fun z9 H locs hW => ?_)
      obtain ⟨j11, e12, h⟩ := lz_o h
      have hj13 : ∀ (u10 : Int32), j11 u10 = out → ∀ (H : Heap) (locs : List Loc), gWd G LM ad (gA LM ad) s.heap I J H locs → ∀ (ls : Array Slot), lv_has ls 4 [(0, .ref (ad 0)), (1, .int u1), (3, .int u3)] → W p l e (gRm 3) s m args below meth c H locs 0 0 Q (F0 m 32 ls [.int u10, .int u2]) := by
        intro u10 h H locs hW ls hl
        replace h := jn1 e12 h
        refine lv_iadd hx hb dX7_crowdAt_32 ?_
        obtain ⟨u14, e15, h⟩ := lz_o h
        refine g_nmi e15 ?_
        refine lv_istore_n (lv' := [(2, .int u14), (0, .ref (ad 0)), (1, .int u1), (3, .int u3)]) hx hb dX7_crowdAt_33 rfl hl (by decide) rfl (fun ls hl => ?_)
        obtain ⟨u16, e17, h⟩ := lz_o h
        refine lv_iinc (v := u16) (lv' := [(3, .int u16), (2, .int u14), (0, .ref (ad 0)), (1, .int u1)]) hx hb dX7_crowdAt_34 hl (k := 3) rfl (by rw [e17]; rfl) (by decide) rfl (fun ls hl => ?_)
        refine lv_goto (tgt := 4) hx hb dX7_crowdAt_37 (by decide) ?_
        exact ih u1 u14 u16 I J _ h hn _ _ hW _ (lv_sub hl [2, 3, 1, 0] rfl) hx1
      refine lv_if_eq (tgt := 31) hx hb dX7_crowdAt_24 (by decide) (fun c18 => ?_) (fun c18 => ?_)
      · replace h := gi_t h c18
        refine lv_iconst (v := (0 : Int32)) hx hb dX7_crowdAt_31 (by decide) ?_
        exact hj13 (0 : Int32) h _ _ hW _ (lv_sub hl [0, 1, 3] rfl)
      · replace h := gi_f h c18
        refine lv_iconst (v := (1 : Int32)) hx hb dX7_crowdAt_27 (by decide) ?_
        refine lv_goto (tgt := 32) hx hb dX7_crowdAt_28 (by decide) ?_
        exact hj13 (1 : Int32) h _ _ hW _ (lv_sub hl [0, 1, 3] rfl)
noncomputable def fX7_crowdAt  (x1 : Int32) (I : gI) : Option (Int32) :=
  bd (fX7_crowdAt_4 FU x1 (0 : Int32) (0 : Int32) I) (fun (u21 : Int32) => some u21)
set_option maxHeartbeats 4000000 in
set_option maxRecDepth 100000 in
theorem kX7_crowdAt {l : Launch} {G : gG} {ad : Nat → Nat} (hok : gInj LM ad)    (x1 : Int32) (I : gI) (J : gJ) (r : Int32) (h : fX7_crowdAt x1 I = some r) : gMi l yX7_crowdAt cX7_crowdAt 4 (some .int) 3 G LM ad [.ref (ad 0), .int x1] I J r True I J := by
  refine gMi_of (lst := [(0, .ref (ad 0)), (1, .int x1)]) (by decide) hok (Nat.le_of_ble_eq_true rfl) rfl ?_
  intro p e s m args below meth c Q ls K hW hl hfin
  have hn : (some r : Option (Int32)) ≠ none := Option.some_ne_none _
  have hx := K.1; have hb := K.2.1; have hown := K.2.2.2.1; have hts := K.2.2.2.2.1
  unfold fX7_crowdAt at h
  refine lv_iconst (v := (0 : Int32)) hx hb dX7_crowdAt_0 (by decide) ?_
  refine lv_istore_n (lv' := [(2, .int (0 : Int32)), (0, .ref (ad 0)), (1, .int x1)]) hx hb dX7_crowdAt_1 rfl hl (by decide) rfl (fun ls hl => ?_)
  refine lv_iconst (v := (0 : Int32)) hx hb dX7_crowdAt_2 (by decide) ?_
  refine lv_istore_n (lv' := [(3, .int (0 : Int32)), (2, .int (0 : Int32)), (0, .ref (ad 0)), (1, .int x1)]) hx hb dX7_crowdAt_3 rfl hl (by decide) rfl (fun ls hl => ?_)
  obtain ⟨r19, e20, h⟩ := bd_o h hn
  refine tX7_crowdAt_4 hok K FU x1 (0 : Int32) (0 : Int32) I J (some r19) e20 (Option.some_ne_none _) _ _ hW _ (lv_sub hl [2, 3, 1, 0] rfl) ?_
  · intro u21 q22 H locs hW ls hl
    replace q22 := Option.some.inj q22
    subst q22
    refine lv_iload_n hx hb dX7_crowdAt_40 rfl (lv_at hl 0 rfl) ?_
    obtain a1 := so1 h
    exact g_nmi a1 (hfin _ _ _ _ hW dX7_crowdAt_41)
theorem nm_X7_crowdAt : gNm yX7_crowdAt 1 := by decide +kernel
noncomputable def fX7_crowd_4b  (rec : Int32 → Int32 → Int32 → gI → Option ((Int32))) (u1 : Int32) (u2 : Int32) (u3 : Int32) (I : gI) : Option ((Int32)) :=
  gi ((12 : Int32) ≤ u3)
 (some u2)
 (bd (fX7_crowdAt u3 I) (fun (u6 : Int32) => bd (fX7_crowdAt u2 I) (fun (u9 : Int32) => lz (fun (u12 : Int32) => lz ((u3 + (1 : Int32))) (fun (u16 : Int32) => rec u1 u12 u16 I)) (fun j13 => gi (u6 ≤ u9)
 (j13 u2)
 (j13 u3)))))
noncomputable def fX7_crowd_4  : Nat → Int32 → Int32 → Int32 → gI → Option ((Int32))
  | 0 => fun _ _ _ _ => none
  | n + 1 => fX7_crowd_4b  (fX7_crowd_4  n)
set_option maxHeartbeats 4000000 in
set_option maxRecDepth 100000 in
theorem tX7_crowd_4 {l : Launch} {G : gG} {ad : Nat → Nat} {p : Program} {e : Env} {s : State} {m : MethodId} {args : Array Value} {below : List Frame} {meth : Method} {c : Code} {Q : State → Prop} (hok : gInj LM ad) (K : gCx G (gA LM ad) p s m args c cX7_crowd 4 RX7)  : ∀ (n : Nat) (u1 : Int32) (u2 : Int32) (u3 : Int32) (I : gI) (J : gJ) (out : Option ((Int32))), fX7_crowd_4  n u1 u2 u3 I = out → out ≠ none → ∀ (H : Heap) (locs : List Loc), gWd G LM ad (gA LM ad) s.heap I J H locs → ∀ (ls : Array Slot), lv_has ls 4 [(0, .ref (ad 0)), (1, .int u1), (2, .int u2), (3, .int u3)] → (∀ (y4 : Int32), some y4 = out → ∀ (H : Heap) (locs : List Loc), gWd G LM ad (gA LM ad) s.heap I J H locs → ∀ (ls : Array Slot), lv_has ls 4 [(0, .ref (ad 0)), (1, .int u1), (2, .int y4)] → W p l e (gRm 4) s m args below meth c H locs 0 0 Q (F0 m 31 ls [])) → W p l e (gRm 4) s m args below meth c H locs 0 0 Q (F0 m 4 ls []) := by
  have hx := K.1; have hb := K.2.1; have hown := K.2.2.2.1; have hts := K.2.2.2.2.1
  intro n
  induction n with
  | zero => intro u1 u2 u3 I J out h hn; exact absurd h.symm hn
  | succ n ih =>
    intro u1 u2 u3 I J out h hn H locs hW ls hl hx1
    replace h : fX7_crowd_4b  (fX7_crowd_4  n) u1 u2 u3 I = out := h
    unfold fX7_crowd_4b at h
    refine lv_iload_n hx hb dX7_crowd_4 rfl (lv_at hl 3 rfl) ?_
    refine lv_bipush (v := (12 : Int32)) hx hb dX7_crowd_5 (by decide) ?_
    refine lv_icmp_ge (tgt := 31) hx hb dX7_crowd_7 (by decide) (fun c5 => ?_) (fun c5 => ?_)
    · replace h := gi_t h c5
      exact hx1 u2 h _ _ hW _ (lv_sub hl [0, 1, 2] rfl)
    · replace h := gi_f h c5
      refine lv_aload_n hx hb dX7_crowd_10 rfl (lv_at hl 0 rfl) ?_
      refine lv_iload_n hx hb dX7_crowd_11 rfl (lv_at hl 3 rfl) ?_
      obtain ⟨u6, e7, h⟩ := bd_o h hn
      refine g_callVi (rest := []) K hW hl (kX7_crowdAt (l := l) (G := G) (ad := ad) hok u3 I J u6 e7) kLM_0 rfl (gG_V q_1725 q_1727 q_126 q_139 q_1728) nm_X7_crowdAt ⟨Nat.le_of_ble_eq_true rfl, Nat.le_of_ble_eq_true rfl⟩ rfl rfl (Nat.le_of_ble_eq_true rfl) ⟨Nat.zero_le _, Nat.zero_le _⟩ dX7_crowd_12 (fun z8 H locs hW => ?_)
      refine lv_aload_n hx hb dX7_crowd_15 rfl (lv_at hl 0 rfl) ?_
      refine lv_iload_n hx hb dX7_crowd_16 rfl (lv_at hl 2 rfl) ?_
      obtain ⟨u9, e10, h⟩ := bd_o h hn
      refine g_callVi (rest := [.int u6]) K hW hl (kX7_crowdAt (l := l) (G := G) (ad := ad) hok u2 I J u9 e10) kLM_0 rfl (gG_V q_1725 q_1727 q_126 q_139 q_1728) nm_X7_crowdAt ⟨Nat.le_of_ble_eq_true rfl, Nat.le_of_ble_eq_true rfl⟩ rfl rfl (Nat.le_of_ble_eq_true rfl) ⟨Nat.zero_le _, Nat.zero_le _⟩ dX7_crowd_17 (fun z11 H locs hW => ?_)
      obtain ⟨j13, e14, h⟩ := lz_o h
      have hj15 : ∀ (u12 : Int32), j13 u12 = out → ∀ (H : Heap) (locs : List Loc), gWd G LM ad (gA LM ad) s.heap I J H locs → ∀ (ls : Array Slot), lv_has ls 4 [(0, .ref (ad 0)), (1, .int u1), (2, .int u12), (3, .int u3)] → W p l e (gRm 4) s m args below meth c H locs 0 0 Q (F0 m 25 ls []) := by
        intro u12 h H locs hW ls hl
        replace h := jn1 e14 h
        obtain ⟨u16, e17, h⟩ := lz_o h
        refine lv_iinc (v := u16) (lv' := [(3, .int u16), (0, .ref (ad 0)), (1, .int u1), (2, .int u12)]) hx hb dX7_crowd_25 hl (k := 3) rfl (by rw [e17]; rfl) (by decide) rfl (fun ls hl => ?_)
        refine lv_goto (tgt := 4) hx hb dX7_crowd_28 (by decide) ?_
        exact ih u1 u12 u16 I J _ h hn _ _ hW _ (lv_sub hl [1, 2, 3, 0] rfl) hx1
      refine lv_icmp_le (tgt := 25) hx hb dX7_crowd_20 (by decide) (fun c18 => ?_) (fun c18 => ?_)
      · replace h := gi_t h c18
        exact hj15 u2 h _ _ hW _ (lv_sub hl [0, 1, 2, 3] rfl)
      · replace h := gi_f h c18
        refine lv_iload_n hx hb dX7_crowd_23 rfl (lv_at hl 3 rfl) ?_
        refine lv_istore_n (lv' := [(2, .int u3), (0, .ref (ad 0)), (1, .int u1), (3, .int u3)]) hx hb dX7_crowd_24 rfl hl (by decide) rfl (fun ls hl => ?_)
        exact hj15 u3 h _ _ hW _ (lv_sub hl [1, 2, 0, 3] rfl)
noncomputable def fX7_crowd  (x1 : Int32) (I : gI) : Option (Int32) :=
  bd (fX7_crowd_4 FU x1 (0 : Int32) (1 : Int32) I) (fun (u21 : Int32) => gi (x1 = 0)
 (bd (fX7_crowdAt u21 I) (fun (u24 : Int32) => some u24))
 (some u21))
set_option maxHeartbeats 4000000 in
set_option maxRecDepth 100000 in
theorem kX7_crowd {l : Launch} {G : gG} {ad : Nat → Nat} (hok : gInj LM ad)    (x1 : Int32) (I : gI) (J : gJ) (r : Int32) (h : fX7_crowd x1 I = some r) : gMi l yX7_crowd cX7_crowd 4 (some .int) 4 G LM ad [.ref (ad 0), .int x1] I J r True I J := by
  refine gMi_of (lst := [(0, .ref (ad 0)), (1, .int x1)]) (by decide) hok (Nat.le_of_ble_eq_true rfl) rfl ?_
  intro p e s m args below meth c Q ls K hW hl hfin
  have hn : (some r : Option (Int32)) ≠ none := Option.some_ne_none _
  have hx := K.1; have hb := K.2.1; have hown := K.2.2.2.1; have hts := K.2.2.2.2.1
  unfold fX7_crowd at h
  refine lv_iconst (v := (0 : Int32)) hx hb dX7_crowd_0 (by decide) ?_
  refine lv_istore_n (lv' := [(2, .int (0 : Int32)), (0, .ref (ad 0)), (1, .int x1)]) hx hb dX7_crowd_1 rfl hl (by decide) rfl (fun ls hl => ?_)
  refine lv_iconst (v := (1 : Int32)) hx hb dX7_crowd_2 (by decide) ?_
  refine lv_istore_n (lv' := [(3, .int (1 : Int32)), (2, .int (0 : Int32)), (0, .ref (ad 0)), (1, .int x1)]) hx hb dX7_crowd_3 rfl hl (by decide) rfl (fun ls hl => ?_)
  obtain ⟨r19, e20, h⟩ := bd_o h hn
  refine tX7_crowd_4 hok K FU x1 (0 : Int32) (1 : Int32) I J (some r19) e20 (Option.some_ne_none _) _ _ hW _ (lv_sub hl [2, 3, 1, 0] rfl) ?_
  · intro u21 q22 H locs hW ls hl
    replace q22 := Option.some.inj q22
    subst q22
    refine lv_iload_n hx hb dX7_crowd_31 rfl (lv_at hl 1 rfl) ?_
    refine lv_if_eq (tgt := 39) hx hb dX7_crowd_32 (by decide) (fun c23 => ?_) (fun c23 => ?_)
    · replace h := gi_t h c23
      refine lv_aload_n hx hb dX7_crowd_39 rfl (lv_at hl 0 rfl) ?_
      refine lv_iload_n hx hb dX7_crowd_40 rfl (lv_at hl 2 rfl) ?_
      obtain ⟨u24, e25, h⟩ := bd_o h hn
      refine g_callVi (rest := []) K hW hl (kX7_crowdAt (l := l) (G := G) (ad := ad) hok u21 I J u24 e25) kLM_0 rfl (gG_V q_1725 q_1727 q_126 q_139 q_1728) nm_X7_crowdAt ⟨Nat.le_of_ble_eq_true rfl, Nat.le_of_ble_eq_true rfl⟩ rfl rfl (Nat.le_of_ble_eq_true rfl) ⟨Nat.zero_le _, Nat.zero_le _⟩ dX7_crowd_41 (fun z26 H locs hW => ?_)
      obtain a1 := so1 h
      exact g_nmi a1 (hfin _ _ _ _ hW dX7_crowd_44)
    · replace h := gi_f h c23
      refine lv_iload_n hx hb dX7_crowd_35 rfl (lv_at hl 2 rfl) ?_
      refine lv_goto (tgt := 44) hx hb dX7_crowd_36 (by decide) ?_
      obtain a1 := so1 h
      exact g_nmi a1 (hfin _ _ _ _ hW dX7_crowd_44)
theorem kLM_10 : gAt LM 10 1 6 := ⟨by decide, by decide +kernel⟩
theorem rLM_0_25 : LM.2.2 0 25 = some 10 := by decide +kernel
theorem kLM_11 : gAt LM 11 1 6 := ⟨by decide, by decide +kernel⟩
theorem rLM_0_26 : LM.2.2 0 26 = some 11 := by decide +kernel
noncomputable def fX7_layDawns_2b  (rec : Int32 → gI → Option ((gI))) (u1 : Int32) (I : gI) : Option ((gI)) :=
  gi ((6 : Int32) ≤ u1)
 (some I)
 (gd (vp_in u1 6) (lz (wI I 10 (u1).toNatClampNeg (0 : Int32)) (fun (I6 : gI) => lz ((u1 + (1 : Int32))) (fun (u7 : Int32) => rec u7 I6))))
noncomputable def fX7_layDawns_2  : Nat → Int32 → gI → Option ((gI))
  | 0 => fun _ _ => none
  | n + 1 => fX7_layDawns_2b  (fX7_layDawns_2  n)
set_option maxHeartbeats 4000000 in
set_option maxRecDepth 100000 in
theorem tX7_layDawns_2 {l : Launch} {G : gG} {ad : Nat → Nat} {p : Program} {e : Env} {s : State} {m : MethodId} {args : Array Value} {below : List Frame} {meth : Method} {c : Code} {Q : State → Prop} (hok : gInj LM ad) (K : gCx G (gA LM ad) p s m args c cX7_layDawns 4 RX7)  : ∀ (n : Nat) (u1 : Int32) (I : gI) (J : gJ) (out : Option ((gI))), fX7_layDawns_2  n u1 I = out → out ≠ none → ∀ (H : Heap) (locs : List Loc), gWd G LM ad (gA LM ad) s.heap I J H locs → ∀ (ls : Array Slot), lv_has ls 4 [(0, .ref (ad 0)), (1, .int u1)] → (∀ (I2 : gI), some I2 = out → ∀ (H : Heap) (locs : List Loc), gWd G LM ad (gA LM ad) s.heap I2 J H locs → ∀ (ls : Array Slot), lv_has ls 4 [(0, .ref (ad 0))] → W p l e (gRm 3) s m args below meth c H locs 0 0 Q (F0 m 21 ls [])) → W p l e (gRm 3) s m args below meth c H locs 0 0 Q (F0 m 2 ls []) := by
  have hx := K.1; have hb := K.2.1; have hown := K.2.2.2.1; have hts := K.2.2.2.2.1
  intro n
  induction n with
  | zero => intro u1 I J out h hn; exact absurd h.symm hn
  | succ n ih =>
    intro u1 I J out h hn H locs hW ls hl hx1
    replace h : fX7_layDawns_2b  (fX7_layDawns_2  n) u1 I = out := h
    unfold fX7_layDawns_2b at h
    refine lv_iload_n hx hb dX7_layDawns_2 rfl (lv_at hl 1 rfl) ?_
    refine lv_bipush (v := (6 : Int32)) hx hb dX7_layDawns_3 (by decide) ?_
    refine lv_icmp_ge (tgt := 21) hx hb dX7_layDawns_5 (by decide) (fun c3 => ?_) (fun c3 => ?_)
    · replace h := gi_t h c3
      exact hx1 I h _ _ hW _ (lv_sub hl [0] rfl)
    · replace h := gi_f h c3
      refine lv_aload_n hx hb dX7_layDawns_8 rfl (lv_at hl 0 rfl) ?_
      refine g_get K hW (t := 2) (ci := 6) (k := 25) (v := .ref (ad 10)) kLM_0 rfl rfl i_X7 (by decide) q_1102 rfl (gfv2 rLM_0_25) dX7_layDawns_9 ?_
      refine lv_iload_n hx hb dX7_layDawns_12 rfl (lv_at hl 1 rfl) ?_
      refine lv_iconst (v := (0 : Int32)) hx hb dX7_layDawns_13 (by decide) ?_
      obtain ⟨g4, h⟩ := gd_o h hn
      refine g_iast K hW kLM_10 g4 rfl dX7_layDawns_14 (fun H locs hW => ?_)
      obtain ⟨I6, e5, h⟩ := lz_o h
      replace hW := gWd_nI e5 hW
      obtain ⟨u7, e8, h⟩ := lz_o h
      refine lv_iinc (v := u7) (lv' := [(1, .int u7), (0, .ref (ad 0))]) hx hb dX7_layDawns_15 hl (k := 1) rfl (by rw [e8]; rfl) (by decide) rfl (fun ls hl => ?_)
      refine lv_goto (tgt := 2) hx hb dX7_layDawns_18 (by decide) ?_
      exact ih u7 I6 J _ h hn _ _ hW _ (lv_sub hl [1, 0] rfl) hx1
noncomputable def fX7_layDawns_59b  (rec : Int32 → Int32 → Int32 → gI → Option ((Int32))) (u28 : Int32) (u29 : Int32) (u30 : Int32) (I : gI) : Option ((Int32)) :=
  gd (vp_in u30 6) (bd (fX7_slicesOf u29 I) (fun (u33 : Int32) => gi (((I 10 (u30).toNatClampNeg) &&& u33) = 0)
 (some u30)
 (lz ((u30 + (1 : Int32))) (fun (u37 : Int32) => rec u28 u29 u37 I))))
noncomputable def fX7_layDawns_59  : Nat → Int32 → Int32 → Int32 → gI → Option ((Int32))
  | 0 => fun _ _ _ _ => none
  | n + 1 => fX7_layDawns_59b  (fX7_layDawns_59  n)
set_option maxHeartbeats 4000000 in
set_option maxRecDepth 100000 in
theorem tX7_layDawns_59 {l : Launch} {G : gG} {ad : Nat → Nat} {p : Program} {e : Env} {s : State} {m : MethodId} {args : Array Value} {below : List Frame} {meth : Method} {c : Code} {Q : State → Prop} (hok : gInj LM ad) (K : gCx G (gA LM ad) p s m args c cX7_layDawns 4 RX7)  : ∀ (n : Nat) (u28 : Int32) (u29 : Int32) (u30 : Int32) (I : gI) (J : gJ) (out : Option ((Int32))), fX7_layDawns_59  n u28 u29 u30 I = out → out ≠ none → ∀ (H : Heap) (locs : List Loc), gWd G LM ad (gA LM ad) s.heap I J H locs → ∀ (ls : Array Slot), lv_has ls 4 [(0, .ref (ad 0)), (1, .int u28), (2, .int u29), (3, .int u30)] → (∀ (y31 : Int32), some y31 = out → ∀ (H : Heap) (locs : List Loc), gWd G LM ad (gA LM ad) s.heap I J H locs → ∀ (ls : Array Slot), lv_has ls 4 [(0, .ref (ad 0)), (1, .int u28), (2, .int u29), (3, .int y31)] → W p l e (gRm 3) s m args below meth c H locs 0 0 Q (F0 m 80 ls [])) → W p l e (gRm 3) s m args below meth c H locs 0 0 Q (F0 m 59 ls []) := by
  have hx := K.1; have hb := K.2.1; have hown := K.2.2.2.1; have hts := K.2.2.2.2.1
  intro n
  induction n with
  | zero => intro u28 u29 u30 I J out h hn; exact absurd h.symm hn
  | succ n ih =>
    intro u28 u29 u30 I J out h hn H locs hW ls hl hx1
    replace h : fX7_layDawns_59b  (fX7_layDawns_59  n) u28 u29 u30 I = out := h
    unfold fX7_layDawns_59b at h
    refine lv_aload_n hx hb dX7_layDawns_59 rfl (lv_at hl 0 rfl) ?_
    refine g_get K hW (t := 2) (ci := 6) (k := 25) (v := .ref (ad 10)) kLM_0 rfl rfl i_X7 (by decide) q_1102 rfl (gfv2 rLM_0_25) dX7_layDawns_60 ?_
    refine lv_iload_n hx hb dX7_layDawns_63 rfl (lv_at hl 3 rfl) ?_
    obtain ⟨g32, h⟩ := gd_o h hn
    refine g_iald K hW kLM_10 g32 rfl dX7_layDawns_64 ?_
    refine lv_aload_n hx hb dX7_layDawns_65 rfl (lv_at hl 0 rfl) ?_
    refine lv_iload_n hx hb dX7_layDawns_66 rfl (lv_at hl 2 rfl) ?_
    obtain ⟨u33, e34, h⟩ := bd_o h hn
    refine g_callVi (rest := [.int (I 10 (u30).toNatClampNeg)]) K hW hl (kX7_slicesOf (l := l) (G := G) (ad := ad) hok u29 I J u33 e34) kLM_0 rfl (gG_V q_1358 q_1360 q_82 q_139 q_1361) nm_X7_slicesOf ⟨Nat.le_of_ble_eq_true rfl, Nat.le_of_ble_eq_true rfl⟩ rfl rfl (Nat.le_of_ble_eq_true rfl) ⟨Nat.zero_le _, Nat.zero_le _⟩ dX7_layDawns_67 (fun z35 H locs hW => ?_)
    refine lv_iand hx hb dX7_layDawns_70 ?_
    refine lv_if_eq (tgt := 80) hx hb dX7_layDawns_71 (by decide) (fun c36 => ?_) (fun c36 => ?_)
    · replace h := gi_t h c36
      exact hx1 u30 h _ _ hW _ (lv_sub hl [0, 1, 2, 3] rfl)
    · replace h := gi_f h c36
      obtain ⟨u37, e38, h⟩ := lz_o h
      refine lv_iinc (v := u37) (lv' := [(3, .int u37), (0, .ref (ad 0)), (1, .int u28), (2, .int u29)]) hx hb dX7_layDawns_74 hl (k := 3) rfl (by rw [e38]; rfl) (by decide) rfl (fun ls hl => ?_)
      refine lv_goto (tgt := 59) hx hb dX7_layDawns_77 (by decide) ?_
      exact ih u28 u29 u37 I J _ h hn _ _ hW _ (lv_sub hl [1, 2, 3, 0] rfl) hx1
noncomputable def fX7_layDawns_31b  (rec : Int32 → Int32 → gI → Option ((gI))) (u16 : Int32) (u17 : Int32) (I : gI) : Option ((gI)) :=
  gi ((I 1 0) ≤ u17)
 (some I)
 (gd (vp_in ((45 : Int32) + u17) 1592) (lz (fun (I21 : gI) => lz ((u17 + (1 : Int32))) (fun (u25 : Int32) => rec u16 u25 I21)) (fun j22 => gi ((I 1 (((45 : Int32) + u17)).toNatClampNeg) = u16)
 (bd (fX7_layDawns_59 FU u16 u17 (0 : Int32) I) (fun (u41 : Int32) => gd (vp_in u41 6) (bd (fX7_slicesOf u17 I) (fun (u44 : Int32) => lz (wI I 10 (u41).toNatClampNeg ((I 10 (u41).toNatClampNeg) ||| u44)) (fun (I48 : gI) => gd (vp_in u17 6) (lz (wI I48 11 (u17).toNatClampNeg u41) (fun (I51 : gI) => j22 I51)))))))
 (j22 I))))
noncomputable def fX7_layDawns_31  : Nat → Int32 → Int32 → gI → Option ((gI))
  | 0 => fun _ _ _ => none
  | n + 1 => fX7_layDawns_31b  (fX7_layDawns_31  n)
set_option maxHeartbeats 4000000 in
set_option maxRecDepth 100000 in
theorem tX7_layDawns_31 {l : Launch} {G : gG} {ad : Nat → Nat} {p : Program} {e : Env} {s : State} {m : MethodId} {args : Array Value} {below : List Frame} {meth : Method} {c : Code} {Q : State → Prop} (hok : gInj LM ad) (K : gCx G (gA LM ad) p s m args c cX7_layDawns 4 RX7)  : ∀ (n : Nat) (u16 : Int32) (u17 : Int32) (I : gI) (J : gJ) (out : Option ((gI))), fX7_layDawns_31  n u16 u17 I = out → out ≠ none → ∀ (H : Heap) (locs : List Loc), gWd G LM ad (gA LM ad) s.heap I J H locs → ∀ (ls : Array Slot), lv_has ls 4 [(0, .ref (ad 0)), (1, .int u16), (2, .int u17)] → (∀ (I18 : gI), some I18 = out → ∀ (H : Heap) (locs : List Loc), gWd G LM ad (gA LM ad) s.heap I18 J H locs → ∀ (ls : Array Slot), lv_has ls 4 [(0, .ref (ad 0)), (1, .int u16)] → W p l e (gRm 3) s m args below meth c H locs 0 0 Q (F0 m 107 ls [])) → W p l e (gRm 3) s m args below meth c H locs 0 0 Q (F0 m 31 ls []) := by
  have hx := K.1; have hb := K.2.1; have hown := K.2.2.2.1; have hts := K.2.2.2.2.1
  intro n
  induction n with
  | zero => intro u16 u17 I J out h hn; exact absurd h.symm hn
  | succ n ih =>
    intro u16 u17 I J out h hn H locs hW ls hl hx1
    replace h : fX7_layDawns_31b  (fX7_layDawns_31  n) u16 u17 I = out := h
    unfold fX7_layDawns_31b at h
    refine lv_iload_n hx hb dX7_layDawns_31 rfl (lv_at hl 2 rfl) ?_
    refine lv_aload_n hx hb dX7_layDawns_32 rfl (lv_at hl 0 rfl) ?_
    refine g_get K hW (t := 2) (ci := 6) (k := 0) (v := .ref (ad 1)) kLM_0 rfl rfl i_X7 (by decide) q_1077 rfl (gfv2 rLM_0_0) dX7_layDawns_33 ?_
    refine lv_iconst (v := (0 : Int32)) hx hb dX7_layDawns_36 (by decide) ?_
    refine g_iald K hW kLM_1 in_0_1592 tn_0 dX7_layDawns_37 ?_
    refine lv_icmp_ge (tgt := 107) hx hb dX7_layDawns_38 (by decide) (fun c19 => ?_) (fun c19 => ?_)
    · replace h := gi_t h c19
      exact hx1 I h _ _ hW _ (lv_sub hl [0, 1] rfl)
    · replace h := gi_f h c19
      refine lv_aload_n hx hb dX7_layDawns_41 rfl (lv_at hl 0 rfl) ?_
      refine g_get K hW (t := 2) (ci := 6) (k := 0) (v := .ref (ad 1)) kLM_0 rfl rfl i_X7 (by decide) q_1077 rfl (gfv2 rLM_0_0) dX7_layDawns_42 ?_
      refine lv_bipush (v := (45 : Int32)) hx hb dX7_layDawns_45 (by decide) ?_
      refine lv_iload_n hx hb dX7_layDawns_47 rfl (lv_at hl 2 rfl) ?_
      refine lv_iadd hx hb dX7_layDawns_48 ?_
      obtain ⟨g20, h⟩ := gd_o h hn
      refine g_iald K hW kLM_1 g20 rfl dX7_layDawns_49 ?_
      refine lv_iload_n hx hb dX7_layDawns_50 rfl (lv_at hl 1 rfl) ?_
      obtain ⟨j22, e23, h⟩ := lz_o h
      have hj24 : ∀ (I21 : gI), j22 I21 = out → ∀ (H : Heap) (locs : List Loc), gWd G LM ad (gA LM ad) s.heap I21 J H locs → ∀ (ls : Array Slot), lv_has ls 4 [(0, .ref (ad 0)), (1, .int u16), (2, .int u17)] → W p l e (gRm 3) s m args below meth c H locs 0 0 Q (F0 m 101 ls []) := by
        intro I21 h H locs hW ls hl
        replace h := jn1 e23 h
        obtain ⟨u25, e26, h⟩ := lz_o h
        refine lv_iinc (v := u25) (lv' := [(2, .int u25), (0, .ref (ad 0)), (1, .int u16)]) hx hb dX7_layDawns_101 hl (k := 2) rfl (by rw [e26]; rfl) (by decide) rfl (fun ls hl => ?_)
        refine lv_goto (tgt := 31) hx hb dX7_layDawns_104 (by decide) ?_
        exact ih u16 u25 I21 J _ h hn _ _ hW _ (lv_sub hl [1, 2, 0] rfl) hx1
      refine lv_icmp_eq (tgt := 57) hx hb dX7_layDawns_51 (by decide) (fun c27 => ?_) (fun c27 => ?_)
      · replace h := gi_t h c27
        refine lv_iconst (v := (0 : Int32)) hx hb dX7_layDawns_57 (by decide) ?_
        refine lv_istore_n (lv' := [(3, .int (0 : Int32)), (0, .ref (ad 0)), (1, .int u16), (2, .int u17)]) hx hb dX7_layDawns_58 rfl hl (by decide) rfl (fun ls hl => ?_)
        obtain ⟨r39, e40, h⟩ := bd_o h hn
        refine tX7_layDawns_59 hok K FU u16 u17 (0 : Int32) I J (some r39) e40 (Option.some_ne_none _) _ _ hW _ (lv_sub hl [1, 2, 3, 0] rfl) ?_
        · intro u41 q42 H locs hW ls hl
          replace q42 := Option.some.inj q42
          subst q42
          refine lv_aload_n hx hb dX7_layDawns_80 rfl (lv_at hl 0 rfl) ?_
          refine g_get K hW (t := 2) (ci := 6) (k := 25) (v := .ref (ad 10)) kLM_0 rfl rfl i_X7 (by decide) q_1102 rfl (gfv2 rLM_0_25) dX7_layDawns_81 ?_
          refine lv_iload_n hx hb dX7_layDawns_84 rfl (lv_at hl 3 rfl) ?_
          refine lv_dup2_11 hx hb dX7_layDawns_85 rfl rfl ?_
          obtain ⟨g43, h⟩ := gd_o h hn
          refine g_iald K hW kLM_10 g43 rfl dX7_layDawns_86 ?_
          refine lv_aload_n hx hb dX7_layDawns_87 rfl (lv_at hl 0 rfl) ?_
          refine lv_iload_n hx hb dX7_layDawns_88 rfl (lv_at hl 2 rfl) ?_
          obtain ⟨u44, e45, h⟩ := bd_o h hn
          refine g_callVi (rest := [.int (I 10 (u41).toNatClampNeg), .int u41, .ref (ad 10)]) K hW hl (kX7_slicesOf (l := l) (G := G) (ad := ad) hok u17 I J u44 e45) kLM_0 rfl (gG_V q_1358 q_1360 q_82 q_139 q_1361) nm_X7_slicesOf ⟨Nat.le_of_ble_eq_true rfl, Nat.le_of_ble_eq_true rfl⟩ rfl rfl (Nat.le_of_ble_eq_true rfl) ⟨Nat.zero_le _, Nat.zero_le _⟩ dX7_layDawns_89 (fun z46 H locs hW => ?_)
          refine lv_ior hx hb dX7_layDawns_92 ?_
          refine g_iast K hW kLM_10 g43 rfl dX7_layDawns_93 (fun H locs hW => ?_)
          obtain ⟨I48, e47, h⟩ := lz_o h
          replace hW := gWd_nI e47 hW
          refine lv_aload_n hx hb dX7_layDawns_94 rfl (lv_at hl 0 rfl) ?_
          refine g_get K hW (t := 2) (ci := 6) (k := 26) (v := .ref (ad 11)) kLM_0 rfl rfl i_X7 (by decide) q_1103 rfl (gfv2 rLM_0_26) dX7_layDawns_95 ?_
          refine lv_iload_n hx hb dX7_layDawns_98 rfl (lv_at hl 2 rfl) ?_
          refine lv_iload_n hx hb dX7_layDawns_99 rfl (lv_at hl 3 rfl) ?_
          obtain ⟨g49, h⟩ := gd_o h hn
          refine g_iast K hW kLM_11 g49 rfl dX7_layDawns_100 (fun H locs hW => ?_)
          obtain ⟨I51, e50, h⟩ := lz_o h
          replace hW := gWd_nI e50 hW
          exact hj24 I51 h _ _ hW _ (lv_sub hl [0, 1, 2] rfl)
      · replace h := gi_f h c27
        refine lv_goto (tgt := 101) hx hb dX7_layDawns_54 (by decide) ?_
        exact hj24 I h _ _ hW _ (lv_sub hl [0, 1, 2] rfl)
noncomputable def fX7_layDawns_23b  (rec : Int32 → gI → Option ((gI))) (u13 : Int32) (I : gI) : Option ((gI)) :=
  gi ((12 : Int32) ≤ u13)
 (some I)
 (bd (fX7_layDawns_31 FU u13 (0 : Int32) I) (fun (I54 : gI) => lz ((u13 + (1 : Int32))) (fun (u56 : Int32) => rec u56 I54)))
noncomputable def fX7_layDawns_23  : Nat → Int32 → gI → Option ((gI))
  | 0 => fun _ _ => none
  | n + 1 => fX7_layDawns_23b  (fX7_layDawns_23  n)
set_option maxHeartbeats 4000000 in
set_option maxRecDepth 100000 in
theorem tX7_layDawns_23 {l : Launch} {G : gG} {ad : Nat → Nat} {p : Program} {e : Env} {s : State} {m : MethodId} {args : Array Value} {below : List Frame} {meth : Method} {c : Code} {Q : State → Prop} (hok : gInj LM ad) (K : gCx G (gA LM ad) p s m args c cX7_layDawns 4 RX7)  : ∀ (n : Nat) (u13 : Int32) (I : gI) (J : gJ) (out : Option ((gI))), fX7_layDawns_23  n u13 I = out → out ≠ none → ∀ (H : Heap) (locs : List Loc), gWd G LM ad (gA LM ad) s.heap I J H locs → ∀ (ls : Array Slot), lv_has ls 4 [(0, .ref (ad 0)), (1, .int u13)] → (∀ (I14 : gI), some I14 = out → ∀ (H : Heap) (locs : List Loc), gWd G LM ad (gA LM ad) s.heap I14 J H locs → ∀ (ls : Array Slot), lv_has ls 4 [] → W p l e (gRm 3) s m args below meth c H locs 0 0 Q (F0 m 113 ls [])) → W p l e (gRm 3) s m args below meth c H locs 0 0 Q (F0 m 23 ls []) := by
  have hx := K.1; have hb := K.2.1; have hown := K.2.2.2.1; have hts := K.2.2.2.2.1
  intro n
  induction n with
  | zero => intro u13 I J out h hn; exact absurd h.symm hn
  | succ n ih =>
    intro u13 I J out h hn H locs hW ls hl hx1
    replace h : fX7_layDawns_23b  (fX7_layDawns_23  n) u13 I = out := h
    unfold fX7_layDawns_23b at h
    refine lv_iload_n hx hb dX7_layDawns_23 rfl (lv_at hl 1 rfl) ?_
    refine lv_bipush (v := (12 : Int32)) hx hb dX7_layDawns_24 (by decide) ?_
    refine lv_icmp_ge (tgt := 113) hx hb dX7_layDawns_26 (by decide) (fun c15 => ?_) (fun c15 => ?_)
    · replace h := gi_t h c15
      exact hx1 I h _ _ hW _ (lv_sub hl [] rfl)
    · replace h := gi_f h c15
      refine lv_iconst (v := (0 : Int32)) hx hb dX7_layDawns_29 (by decide) ?_
      refine lv_istore_n (lv' := [(2, .int (0 : Int32)), (0, .ref (ad 0)), (1, .int u13)]) hx hb dX7_layDawns_30 rfl hl (by decide) rfl (fun ls hl => ?_)
      obtain ⟨r52, e53, h⟩ := bd_o h hn
      refine tX7_layDawns_31 hok K FU u13 (0 : Int32) I J (some r52) e53 (Option.some_ne_none _) _ _ hW _ (lv_sub hl [1, 2, 0] rfl) ?_
      · intro I54 q55 H locs hW ls hl
        replace q55 := Option.some.inj q55
        subst q55
        obtain ⟨u56, e57, h⟩ := lz_o h
        refine lv_iinc (v := u56) (lv' := [(1, .int u56), (0, .ref (ad 0))]) hx hb dX7_layDawns_107 hl (k := 1) rfl (by rw [e57]; rfl) (by decide) rfl (fun ls hl => ?_)
        refine lv_goto (tgt := 23) hx hb dX7_layDawns_110 (by decide) ?_
        exact ih u56 I54 J _ h hn _ _ hW _ (lv_sub hl [1, 0] rfl) hx1
noncomputable def fX7_layDawns   (I : gI) : Option (gI) :=
  bd (fX7_layDawns_2 FU (0 : Int32) I) (fun (I11 : gI) => bd (fX7_layDawns_23 FU (0 : Int32) I11) (fun (I60 : gI) => some I60))
set_option maxHeartbeats 4000000 in
set_option maxRecDepth 100000 in
theorem kX7_layDawns {l : Launch} {G : gG} {ad : Nat → Nat} (hok : gInj LM ad)     (I : gI) (J : gJ) (I' : gI) (h : fX7_layDawns I = some I') : gMv l yX7_layDawns cX7_layDawns 4 none 3 G LM ad [.ref (ad 0)] I J I' J := by
  refine gMv_of (lst := [(0, .ref (ad 0))]) (by decide) hok (Nat.le_of_ble_eq_true rfl) rfl ?_
  intro p e s m args below meth c Q ls K hW hl hfin
  have hn : (some I' : Option (gI)) ≠ none := Option.some_ne_none _
  have hx := K.1; have hb := K.2.1; have hown := K.2.2.2.1; have hts := K.2.2.2.2.1
  unfold fX7_layDawns at h
  refine lv_iconst (v := (0 : Int32)) hx hb dX7_layDawns_0 (by decide) ?_
  refine lv_istore_n (lv' := [(1, .int (0 : Int32)), (0, .ref (ad 0))]) hx hb dX7_layDawns_1 rfl hl (by decide) rfl (fun ls hl => ?_)
  obtain ⟨r9, e10, h⟩ := bd_o h hn
  refine tX7_layDawns_2 hok K FU (0 : Int32) I J (some r9) e10 (Option.some_ne_none _) _ _ hW _ (lv_sub hl [1, 0] rfl) ?_
  · intro I11 q12 H locs hW ls hl
    replace q12 := Option.some.inj q12
    subst q12
    refine lv_iconst (v := (0 : Int32)) hx hb dX7_layDawns_21 (by decide) ?_
    refine lv_istore_n (lv' := [(1, .int (0 : Int32)), (0, .ref (ad 0))]) hx hb dX7_layDawns_22 rfl hl (by decide) rfl (fun ls hl => ?_)
    obtain ⟨r58, e59, h⟩ := bd_o h hn
    refine tX7_layDawns_23 hok K FU (0 : Int32) I11 J (some r58) e59 (Option.some_ne_none _) _ _ hW _ (lv_sub hl [1, 0] rfl) ?_
    · intro I60 q61 H locs hW ls hl
      replace q61 := Option.some.inj q61
      subst q61
      obtain a1 := so1 h
      replace hW := gWd_nI a1 hW
      exact hfin _ _ _ _ hW dX7_layDawns_113
theorem nm_X7_layDawns : gNm yX7_layDawns 0 := by decide +kernel
noncomputable def fX7_dawns  (x1 : Int32) (I : gI) : Option (Int32 × gI) :=
  gi ((fX7_isBuyer x1 I) = 0)
 (some ((-1 : Int32), I))
 (bd (fX7_layDawns I) (fun (I3 : gI) => gd (vp_in x1 6) (some ((I3 11 (x1).toNatClampNeg), I3))))
set_option maxHeartbeats 4000000 in
set_option maxRecDepth 100000 in
theorem kX7_dawns {l : Launch} {G : gG} {ad : Nat → Nat} (hok : gInj LM ad)    (x1 : Int32) (I : gI) (J : gJ) (r : Int32) (I' : gI) (h : fX7_dawns x1 I = some (r, I')) : gMi l yX7_dawns cX7_dawns 2 (some .int) 4 G LM ad [.ref (ad 0), .int x1] I J r True I' J := by
  refine gMi_of (lst := [(0, .ref (ad 0)), (1, .int x1)]) (by decide) hok (Nat.le_of_ble_eq_true rfl) rfl ?_
  intro p e s m args below meth c Q ls K hW hl hfin
  have hn : (some (r, I') : Option (Int32 × gI)) ≠ none := Option.some_ne_none _
  have hx := K.1; have hb := K.2.1; have hown := K.2.2.2.1; have hts := K.2.2.2.2.1
  unfold fX7_dawns at h
  refine lv_aload_n hx hb dX7_dawns_0 rfl (lv_at hl 0 rfl) ?_
  refine lv_iload_n hx hb dX7_dawns_1 rfl (lv_at hl 1 rfl) ?_
  refine g_callVi (rest := []) K hW hl (kX7_isBuyer (l := l) (G := G) (ad := ad) hok x1 I J (fX7_isBuyer x1 I) rfl) kLM_0 rfl (gG_V q_1350 q_1352 q_80 q_139 q_1353) nm_X7_isBuyer ⟨Nat.le_of_ble_eq_true rfl, Nat.le_of_ble_eq_true rfl⟩ rfl rfl (Nat.le_of_ble_eq_true rfl) ⟨Nat.zero_le _, Nat.zero_le _⟩ dX7_dawns_2 (fun z1 H locs hW => ?_)
  refine lv_if_ne (tgt := 10) hx hb dX7_dawns_5 (by decide) (fun c2 => ?_) (fun c2 => ?_)
  · replace h := gi_f h c2
    refine lv_aload_n hx hb dX7_dawns_10 rfl (lv_at hl 0 rfl) ?_
    obtain ⟨I3, e4, h⟩ := bd_o h hn
    refine g_callVv (rest := []) K hW hl (kX7_layDawns (l := l) (G := G) (ad := ad) hok I J I3 e4) kLM_0 rfl (gG_V q_1733 q_1735 q_127 q_139 q_1736) nm_X7_layDawns ⟨Nat.le_of_ble_eq_true rfl, Nat.le_of_ble_eq_true rfl⟩ rfl rfl (Nat.le_of_ble_eq_true rfl) ⟨Nat.zero_le _, Nat.zero_le _⟩ dX7_dawns_11 (fun H locs hW => ?_)
    refine lv_aload_n hx hb dX7_dawns_14 rfl (lv_at hl 0 rfl) ?_
    refine g_get K hW (t := 2) (ci := 6) (k := 26) (v := .ref (ad 11)) kLM_0 rfl rfl i_X7 (by decide) q_1103 rfl (gfv2 rLM_0_26) dX7_dawns_15 ?_
    refine lv_iload_n hx hb dX7_dawns_18 rfl (lv_at hl 1 rfl) ?_
    obtain ⟨g6, h⟩ := gd_o h hn
    refine g_iald K hW kLM_11 g6 rfl dX7_dawns_19 ?_
    obtain ⟨a1, a2⟩ := so2 h
    replace hW := gWd_nI a2 hW
    exact g_nmi a1 (hfin _ _ _ _ hW dX7_dawns_20)
  · replace h := gi_t h c2
    refine lv_iconst (v := (-1 : Int32)) hx hb dX7_dawns_8 (by decide) ?_
    obtain ⟨a1, a2⟩ := so2 h
    replace hW := gWd_nI a2 hW
    exact g_nmi a1 (hfin _ _ _ _ hW dX7_dawns_9)
noncomputable def fX7_month_19b  (rec : Int32 → Int32 → Int64 → Int32 → gI → gJ → Option ((Int64 × gI × gJ))) (u3 : Int32) (u4 : Int32) (u5 : Int64) (u6 : Int32) (I : gI) (J : gJ) : Option ((Int64 × gI × gJ)) :=
  gi ((5 : Int32) ≤ u6)
 (some (u5, I, J))
 (bd (fX7_oddsOf u6 I) (fun (u11 : Int32) => lz (fun (u14 : Int64) => fun (I15 : gI) => fun (J16 : gJ) => lz ((u6 + (1 : Int32))) (fun (u20 : Int32) => rec u3 u4 u14 u20 I15 J16)) (fun j17 => gi (u11 ≤ 0)
 (j17 u5 I J)
 (bd (fX7_oddsOf u6 I) (fun (u23 : Int32) => bd (fX7_bestSet (0 : Int32) u6 I J) (pr (fun (u26 : Int32) => pr (fun (I27 : gI) (J28 : gJ) => bd (fX7_broughtBy u26 u6 I27 J28) (pr (fun (u31 : Int32) => pr (fun (I32 : gI) (J33 : gJ) => lz ((u5 + (((u3).toInt64 * (u23).toInt64) * (u31).toInt64))) (fun (u36 : Int64) => j17 u36 I32 J33))))))))))))
noncomputable def fX7_month_19  : Nat → Int32 → Int32 → Int64 → Int32 → gI → gJ → Option ((Int64 × gI × gJ))
  | 0 => fun _ _ _ _ _ _ => none
  | n + 1 => fX7_month_19b  (fX7_month_19  n)
set_option maxHeartbeats 4000000 in
set_option maxRecDepth 100000 in
theorem tX7_month_19 {l : Launch} {G : gG} {ad : Nat → Nat} {p : Program} {e : Env} {s : State} {m : MethodId} {args : Array Value} {below : List Frame} {meth : Method} {c : Code} {Q : State → Prop} (hok : gInj LM ad) (K : gCx G (gA LM ad) p s m args c cX7_month 6 RX7)  : ∀ (n : Nat) (u3 : Int32) (u4 : Int32) (u5 : Int64) (u6 : Int32) (I : gI) (J : gJ) (out : Option ((Int64 × gI × gJ))), fX7_month_19  n u3 u4 u5 u6 I J = out → out ≠ none → ∀ (H : Heap) (locs : List Loc), gWd G LM ad (gA LM ad) s.heap I J H locs → ∀ (ls : Array Slot), lv_has ls 6 [(0, .ref (ad 0)), (1, .int u3), (2, .int u4), (3, .long u5), (5, .int u6)] → (∀ (y7 : Int64) (I8 : gI) (J9 : gJ), some (y7, I8, J9) = out → ∀ (H : Heap) (locs : List Loc), gWd G LM ad (gA LM ad) s.heap I8 J9 H locs → ∀ (ls : Array Slot), lv_has ls 6 [(0, .ref (ad 0)), (2, .int u4), (3, .long y7)] → W p l e (gRm 8) s m args below meth c H locs 0 0 Q (F0 m 68 ls [])) → W p l e (gRm 8) s m args below meth c H locs 0 0 Q (F0 m 19 ls []) := by
  have hx := K.1; have hb := K.2.1; have hown := K.2.2.2.1; have hts := K.2.2.2.2.1
  intro n
  induction n with
  | zero => intro u3 u4 u5 u6 I J out h hn; exact absurd h.symm hn
  | succ n ih =>
    intro u3 u4 u5 u6 I J out h hn H locs hW ls hl hx1
    replace h : fX7_month_19b  (fX7_month_19  n) u3 u4 u5 u6 I J = out := h
    unfold fX7_month_19b at h
    refine lv_iload hx hb dX7_month_19 (lv_at hl 4 rfl) ?_
    refine lv_iconst (v := (5 : Int32)) hx hb dX7_month_21 (by decide) ?_
    refine lv_icmp_ge (tgt := 68) hx hb dX7_month_22 (by decide) (fun c10 => ?_) (fun c10 => ?_)
    · replace h := gi_t h c10
      exact hx1 u5 I J h _ _ hW _ (lv_sub hl [0, 2, 3] rfl)
    · replace h := gi_f h c10
      refine lv_aload_n hx hb dX7_month_25 rfl (lv_at hl 0 rfl) ?_
      refine lv_iload hx hb dX7_month_26 (lv_at hl 4 rfl) ?_
      obtain ⟨u11, e12, h⟩ := bd_o h hn
      refine g_callVi (rest := []) K hW hl (kX7_oddsOf (l := l) (G := G) (ad := ad) hok u6 I J u11 e12) kLM_0 rfl (gG_V q_1640 q_1642 q_116 q_139 q_1643) nm_X7_oddsOf ⟨Nat.le_of_ble_eq_true rfl, Nat.le_of_ble_eq_true rfl⟩ rfl rfl (Nat.le_of_ble_eq_true rfl) ⟨Nat.zero_le _, Nat.zero_le _⟩ dX7_month_28 (fun z13 H locs hW => ?_)
      obtain ⟨j17, e18, h⟩ := lz_o h
      have hj19 : ∀ (u14 : Int64) (I15 : gI) (J16 : gJ), j17 u14 I15 J16 = out → ∀ (H : Heap) (locs : List Loc), gWd G LM ad (gA LM ad) s.heap I15 J16 H locs → ∀ (ls : Array Slot), lv_has ls 6 [(0, .ref (ad 0)), (1, .int u3), (2, .int u4), (3, .long u14), (5, .int u6)] → W p l e (gRm 8) s m args below meth c H locs 0 0 Q (F0 m 62 ls []) := by
        intro u14 I15 J16 h H locs hW ls hl
        replace h := jn3 e18 h
        obtain ⟨u20, e21, h⟩ := lz_o h
        refine lv_iinc (v := u20) (lv' := [(5, .int u20), (0, .ref (ad 0)), (1, .int u3), (2, .int u4), (3, .long u14)]) hx hb dX7_month_62 hl (k := 4) rfl (by rw [e21]; rfl) (by decide) rfl (fun ls hl => ?_)
        refine lv_goto (tgt := 19) hx hb dX7_month_65 (by decide) ?_
        exact ih u3 u4 u14 u20 I15 J16 _ h hn _ _ hW _ (lv_sub hl [1, 2, 3, 4, 0] rfl) hx1
      refine lv_if_le (tgt := 62) hx hb dX7_month_31 (by decide) (fun c22 => ?_) (fun c22 => ?_)
      · replace h := gi_t h c22
        exact hj19 u5 I J h _ _ hW _ (lv_sub hl [0, 1, 2, 3, 4] rfl)
      · replace h := gi_f h c22
        refine lv_lload_n hx hb dX7_month_34 rfl (lv_at hl 3 rfl) ?_
        refine lv_iload_n hx hb dX7_month_35 rfl (lv_at hl 1 rfl) ?_
        refine lv_i2l hx hb dX7_month_36 rfl ?_
        refine lv_aload_n hx hb dX7_month_37 rfl (lv_at hl 0 rfl) ?_
        refine lv_iload hx hb dX7_month_38 (lv_at hl 4 rfl) ?_
        obtain ⟨u23, e24, h⟩ := bd_o h hn
        refine g_callVi (rest := [.long (u3).toInt64, .long u5]) K hW hl (kX7_oddsOf (l := l) (G := G) (ad := ad) hok u6 I J u23 e24) kLM_0 rfl (gG_V q_1640 q_1642 q_116 q_139 q_1643) nm_X7_oddsOf ⟨Nat.le_of_ble_eq_true rfl, Nat.le_of_ble_eq_true rfl⟩ rfl rfl (Nat.le_of_ble_eq_true rfl) ⟨Nat.zero_le _, Nat.zero_le _⟩ dX7_month_40 (fun z25 H locs hW => ?_)
        refine lv_i2l hx hb dX7_month_43 rfl ?_
        refine lv_lmul hx hb dX7_month_44 ?_
        refine lv_aload_n hx hb dX7_month_45 rfl (lv_at hl 0 rfl) ?_
        refine lv_aload_n hx hb dX7_month_46 rfl (lv_at hl 0 rfl) ?_
        refine lv_iconst (v := (0 : Int32)) hx hb dX7_month_47 (by decide) ?_
        refine lv_iload hx hb dX7_month_48 (lv_at hl 4 rfl) ?_
        obtain ⟨⟨u26, I27, J28⟩, e29, h⟩ := bd_o h hn
        replace h := pr_o h
        replace h := pr_o h
        refine g_callVi (rest := [.ref (ad 0), .long ((u3).toInt64 * (u23).toInt64), .long u5]) K hW hl (kX7_bestSet (l := l) (G := G) (ad := ad) hok (0 : Int32) u6 I J u26 I27 J28 e29) kLM_0 rfl (gG_V q_1609 q_1611 q_111 q_139 q_1612) nm_X7_bestSet ⟨Nat.le_of_ble_eq_true rfl, Nat.le_of_ble_eq_true rfl⟩ rfl rfl (Nat.le_of_ble_eq_true rfl) ⟨Nat.zero_le _, Nat.zero_le _⟩ dX7_month_50 (fun z30 H locs hW => ?_)
        refine lv_iload hx hb dX7_month_53 (lv_at hl 4 rfl) ?_
        obtain ⟨⟨u31, I32, J33⟩, e34, h⟩ := bd_o h hn
        replace h := pr_o h
        replace h := pr_o h
        refine g_callVi (rest := [.long ((u3).toInt64 * (u23).toInt64), .long u5]) K hW hl (kX7_broughtBy (l := l) (G := G) (ad := ad) hok u26 u6 I27 J28 u31 I32 J33 e34) kLM_0 rfl (gG_V q_1613 q_1615 q_112 q_139 q_1616) nm_X7_broughtBy ⟨Nat.le_of_ble_eq_true rfl, Nat.le_of_ble_eq_true rfl⟩ rfl rfl (Nat.le_of_ble_eq_true rfl) ⟨Nat.zero_le _, Nat.zero_le _⟩ dX7_month_55 (fun z35 H locs hW => ?_)
        refine lv_i2l hx hb dX7_month_58 rfl ?_
        refine lv_lmul hx hb dX7_month_59 ?_
        refine lv_ladd hx hb dX7_month_60 ?_
        obtain ⟨u36, e37, h⟩ := lz_o h
        refine g_nml e37 ?_
        refine lv_lstore_n (lv' := [(3, .long u36), (0, .ref (ad 0)), (1, .int u3), (2, .int u4), (5, .int u6)]) hx hb dX7_month_61 rfl hl (by decide) rfl (fun ls hl => ?_)
        exact hj19 u36 I32 J33 h _ _ hW _ (lv_sub hl [1, 2, 3, 0, 4] rfl)
noncomputable def fX7_month  (x1 : Int32) (x2 : Int32) (I : gI) (J : gJ) : Option (Int64 × gI × gJ) :=
  gi ((fX7_isIn x1 (1 : Int32) (60 : Int32)) = 0)
 (some ((-1 : Int64), I, J))
 (bd (fX7_month_19 FU x1 x2 (0 : Int64) (0 : Int32) I J) (pr (fun (u40 : Int64) => (pr (fun (I41 : gI) (J42 : gJ) => bd (fX7_whole I41) (fun (u44 : Int32) => bd (fX7_partOfAll u40 (u44).toInt64 x2) (fun (u47 : Int64) => some (u47, I41, J42))))))))
set_option maxHeartbeats 4000000 in
set_option maxRecDepth 100000 in
theorem kX7_month {l : Launch} {G : gG} {ad : Nat → Nat} (hok : gInj LM ad)    (x1 : Int32) (x2 : Int32) (I : gI) (J : gJ) (r : Int64) (I' : gI) (J' : gJ) (h : fX7_month x1 x2 I J = some (r, I', J')) : gMl l yX7_month cX7_month 6 (some .long) 8 G LM ad [.ref (ad 0), .int x1, .int x2] I J r I' J' := by
  refine gMl_of (lst := [(0, .ref (ad 0)), (1, .int x1), (2, .int x2)]) (by decide) hok (Nat.le_of_ble_eq_true rfl) rfl ?_
  intro p e s m args below meth c Q ls K hW hl hfin
  have hn : (some (r, I', J') : Option (Int64 × gI × gJ)) ≠ none := Option.some_ne_none _
  have hx := K.1; have hb := K.2.1; have hown := K.2.2.2.1; have hts := K.2.2.2.2.1
  unfold fX7_month at h
  refine lv_iload_n hx hb dX7_month_0 rfl (lv_at hl 1 rfl) ?_
  refine lv_iconst (v := (1 : Int32)) hx hb dX7_month_1 (by decide) ?_
  refine lv_bipush (v := (60 : Int32)) hx hb dX7_month_2 (by decide) ?_
  refine g_callSi (rest := []) K hW hl (kX7_isIn (l := l) (G := G) (ad := ad) hok x1 (1 : Int32) (60 : Int32) I J (fX7_isIn x1 (1 : Int32) (60 : Int32)) rfl) q_1171 q_1172 q_139 q_1173 nm_X7_isIn ⟨Nat.le_of_ble_eq_true rfl, Nat.le_of_ble_eq_true rfl⟩ rfl rfl (Nat.le_of_ble_eq_true rfl) ⟨Nat.zero_le _, Nat.zero_le _⟩ dX7_month_4 (fun z1 H locs hW => ?_)
  refine lv_if_ne (tgt := 14) hx hb dX7_month_7 (by decide) (fun c2 => ?_) (fun c2 => ?_)
  · replace h := gi_f h c2
    refine lv_lconst (v := (0 : Int64)) hx hb dX7_month_14 rfl ?_
    refine lv_lstore_n (lv' := [(3, .long (0 : Int64)), (0, .ref (ad 0)), (1, .int x1), (2, .int x2)]) hx hb dX7_month_15 rfl hl (by decide) rfl (fun ls hl => ?_)
    refine lv_iconst (v := (0 : Int32)) hx hb dX7_month_16 (by decide) ?_
    refine lv_istore (lv' := [(5, .int (0 : Int32)), (3, .long (0 : Int64)), (0, .ref (ad 0)), (1, .int x1), (2, .int x2)]) hx hb dX7_month_17 hl (by decide) rfl (fun ls hl => ?_)
    obtain ⟨r38, e39, h⟩ := bd_o h hn
    refine tX7_month_19 hok K FU x1 x2 (0 : Int64) (0 : Int32) I J (some r38) e39 (Option.some_ne_none _) _ _ hW _ (lv_sub hl [2, 3, 4, 1, 0] rfl) ?_
    · intro u40 I41 J42 q43 H locs hW ls hl
      replace q43 := Option.some.inj q43
      subst q43
      replace h := pr_o h
      replace h := pr_o h
      refine lv_lload_n hx hb dX7_month_68 rfl (lv_at hl 2 rfl) ?_
      refine lv_aload_n hx hb dX7_month_69 rfl (lv_at hl 0 rfl) ?_
      obtain ⟨u44, e45, h⟩ := bd_o h hn
      refine g_callVi (rest := [.long u40]) K hW hl (kX7_whole (l := l) (G := G) (ad := ad) hok I41 J42 u44 e45) kLM_0 rfl (gG_V q_1636 q_1638 q_115 q_139 q_1639) nm_X7_whole ⟨Nat.le_of_ble_eq_true rfl, Nat.le_of_ble_eq_true rfl⟩ rfl rfl (Nat.le_of_ble_eq_true rfl) ⟨Nat.zero_le _, Nat.zero_le _⟩ dX7_month_70 (fun z46 H locs hW => ?_)
      refine lv_i2l hx hb dX7_month_73 rfl ?_
      refine lv_iload_n hx hb dX7_month_74 rfl (lv_at hl 1 rfl) ?_
      obtain ⟨u47, e48, h⟩ := bd_o h hn
      refine g_callSl (rest := []) K hW hl (kX7_partOfAll (l := l) (G := G) (ad := ad) hok u40 (u44).toInt64 x2 I41 J42 u47 e48) q_1571 q_1572 q_139 q_1573 nm_X7_partOfAll ⟨Nat.le_of_ble_eq_true rfl, Nat.le_of_ble_eq_true rfl⟩ rfl rfl (Nat.le_of_ble_eq_true rfl) ⟨Nat.zero_le _, Nat.zero_le _⟩ dX7_month_75 (fun H locs hW => ?_)
      obtain ⟨a1, a2, a3⟩ := so3 h
      replace hW := gWd_nI a2 hW
      replace hW := gWd_nJ a3 hW
      exact g_nml a1 (hfin _ _ _ _ hW dX7_month_78)
  · replace h := gi_t h c2
    refine lv_ldc2 (v := (-1 : Int64)) hx hb hown (hts _ q_1570) dX7_month_10 ?_
    obtain ⟨a1, a2, a3⟩ := so3 h
    replace hW := gWd_nI a2 hW
    replace hW := gWd_nJ a3 hW
    exact g_nml a1 (hfin _ _ _ _ hW dX7_month_13)
noncomputable def fX7_value  (x1 : Int32) (x2 : Int32) (I : gI) : Option (Int32 × gI) :=
  gi ((fX7_isSlice x1) = 0)
 (some ((0 : Int32), I))
 (gi ((fX7_isIn x2 (0 : Int32) (99 : Int32)) = 0)
 (some ((0 : Int32), I))
 (gd (vp_in ((69 : Int32) + x1) 1592) (lz (wI I 1 (((69 : Int32) + x1)).toNatClampNeg x2) (fun (I7 : gI) => some ((1 : Int32), I7)))))
set_option maxHeartbeats 4000000 in
set_option maxRecDepth 100000 in
theorem kX7_value {l : Launch} {G : gG} {ad : Nat → Nat} (hok : gInj LM ad)    (x1 : Int32) (x2 : Int32) (I : gI) (J : gJ) (r : Int32) (I' : gI) (h : fX7_value x1 x2 I = some (r, I')) : gMi l yX7_value cX7_value 3 (some .boolean) 3 G LM ad [.ref (ad 0), .int x1, .int x2] I J r (r = 0 ∨ r = 1) I' J := by
  refine gMz_of (lst := [(0, .ref (ad 0)), (1, .int x1), (2, .int x2)]) (by decide) hok (Nat.le_of_ble_eq_true rfl) rfl ?_
  intro p e s m args below meth c Q ls K hW hl hfin
  have hn : (some (r, I') : Option (Int32 × gI)) ≠ none := Option.some_ne_none _
  have hx := K.1; have hb := K.2.1; have hown := K.2.2.2.1; have hts := K.2.2.2.2.1
  unfold fX7_value at h
  refine lv_iload_n hx hb dX7_value_0 rfl (lv_at hl 1 rfl) ?_
  refine g_callSi (rest := []) K hW hl (kX7_isSlice (l := l) (G := G) (ad := ad) hok x1 I J (fX7_isSlice x1) rfl) q_1443 q_1444 q_139 q_1445 nm_X7_isSlice ⟨Nat.le_of_ble_eq_true rfl, Nat.le_of_ble_eq_true rfl⟩ rfl rfl (Nat.le_of_ble_eq_true rfl) ⟨Nat.zero_le _, Nat.zero_le _⟩ dX7_value_1 (fun z1 H locs hW => ?_)
  refine lv_if_eq (tgt := 17) hx hb dX7_value_4 (by decide) (fun c2 => ?_) (fun c2 => ?_)
  · replace h := gi_t h c2
    refine lv_iconst (v := (0 : Int32)) hx hb dX7_value_17 (by decide) ?_
    obtain ⟨a1, a2⟩ := so2 h
    replace hW := gWd_nI a2 hW
    exact g_nmi a1 (hfin _ _ _ _ (a1 ▸ (Or.inl rfl)) hW dX7_value_18)
  · replace h := gi_f h c2
    refine lv_iload_n hx hb dX7_value_7 rfl (lv_at hl 2 rfl) ?_
    refine lv_iconst (v := (0 : Int32)) hx hb dX7_value_8 (by decide) ?_
    refine lv_bipush (v := (99 : Int32)) hx hb dX7_value_9 (by decide) ?_
    refine g_callSi (rest := []) K hW hl (kX7_isIn (l := l) (G := G) (ad := ad) hok x2 (0 : Int32) (99 : Int32) I J (fX7_isIn x2 (0 : Int32) (99 : Int32)) rfl) q_1171 q_1172 q_139 q_1173 nm_X7_isIn ⟨Nat.le_of_ble_eq_true rfl, Nat.le_of_ble_eq_true rfl⟩ rfl rfl (Nat.le_of_ble_eq_true rfl) ⟨Nat.zero_le _, Nat.zero_le _⟩ dX7_value_11 (fun z3 H locs hW => ?_)
    refine lv_if_ne (tgt := 19) hx hb dX7_value_14 (by decide) (fun c4 => ?_) (fun c4 => ?_)
    · replace h := gi_f h c4
      refine lv_aload_n hx hb dX7_value_19 rfl (lv_at hl 0 rfl) ?_
      refine g_get K hW (t := 2) (ci := 6) (k := 0) (v := .ref (ad 1)) kLM_0 rfl rfl i_X7 (by decide) q_1077 rfl (gfv2 rLM_0_0) dX7_value_20 ?_
      refine lv_bipush (v := (69 : Int32)) hx hb dX7_value_23 (by decide) ?_
      refine lv_iload_n hx hb dX7_value_25 rfl (lv_at hl 1 rfl) ?_
      refine lv_iadd hx hb dX7_value_26 ?_
      refine lv_iload_n hx hb dX7_value_27 rfl (lv_at hl 2 rfl) ?_
      obtain ⟨g5, h⟩ := gd_o h hn
      refine g_iast K hW kLM_1 g5 rfl dX7_value_28 (fun H locs hW => ?_)
      obtain ⟨I7, e6, h⟩ := lz_o h
      replace hW := gWd_nI e6 hW
      refine lv_iconst (v := (1 : Int32)) hx hb dX7_value_29 (by decide) ?_
      obtain ⟨a1, a2⟩ := so2 h
      replace hW := gWd_nI a2 hW
      exact g_nmi a1 (hfin _ _ _ _ (a1 ▸ (Or.inr rfl)) hW dX7_value_30)
    · replace h := gi_t h c4
      refine lv_iconst (v := (0 : Int32)) hx hb dX7_value_17 (by decide) ?_
      obtain ⟨a1, a2⟩ := so2 h
      replace hW := gWd_nI a2 hW
      exact g_nmi a1 (hfin _ _ _ _ (a1 ▸ (Or.inl rfl)) hW dX7_value_18)
theorem kLM_12 : gAt LM 12 1 144 := ⟨by decide, by decide +kernel⟩
theorem rLM_0_27 : LM.2.2 0 27 = some 12 := by decide +kernel
noncomputable def fX7_byLeft  (x1 : Int32) (x2 : Int32) (I : gI) : Option (Int32) :=
  gd (vp_in ((69 : Int32) + x1) 1592) (lz (fun (u2 : Int32) => some ((I 1 (((69 : Int32) + x1)).toNatClampNeg) - u2)) (fun j3 => gi (x1 = x2)
 (j3 (0 : Int32))
 (gd (vp_in (((12 : Int32) * (x1 + (1 : Int32))) + x2) 144) (j3 (I 12 ((((12 : Int32) * (x1 + (1 : Int32))) + x2)).toNatClampNeg)))))
set_option maxHeartbeats 4000000 in
set_option maxRecDepth 100000 in
theorem kX7_byLeft {l : Launch} {G : gG} {ad : Nat → Nat} (hok : gInj LM ad)    (x1 : Int32) (x2 : Int32) (I : gI) (J : gJ) (r : Int32) (h : fX7_byLeft x1 x2 I = some r) : gMi l yX7_byLeft cX7_byLeft 3 (some .int) 1 G LM ad [.ref (ad 0), .int x1, .int x2] I J r True I J := by
  refine gMi_of (lst := [(0, .ref (ad 0)), (1, .int x1), (2, .int x2)]) (by decide) hok (Nat.le_of_ble_eq_true rfl) rfl ?_
  intro p e s m args below meth c Q ls K hW hl hfin
  have hn : (some r : Option (Int32)) ≠ none := Option.some_ne_none _
  have hx := K.1; have hb := K.2.1; have hown := K.2.2.2.1; have hts := K.2.2.2.2.1
  unfold fX7_byLeft at h
  refine lv_aload_n hx hb dX7_byLeft_0 rfl (lv_at hl 0 rfl) ?_
  refine g_get K hW (t := 2) (ci := 6) (k := 0) (v := .ref (ad 1)) kLM_0 rfl rfl i_X7 (by decide) q_1077 rfl (gfv2 rLM_0_0) dX7_byLeft_1 ?_
  refine lv_bipush (v := (69 : Int32)) hx hb dX7_byLeft_4 (by decide) ?_
  refine lv_iload_n hx hb dX7_byLeft_6 rfl (lv_at hl 1 rfl) ?_
  refine lv_iadd hx hb dX7_byLeft_7 ?_
  obtain ⟨g1, h⟩ := gd_o h hn
  refine g_iald K hW kLM_1 g1 rfl dX7_byLeft_8 ?_
  refine lv_iload_n hx hb dX7_byLeft_9 rfl (lv_at hl 1 rfl) ?_
  refine lv_iload_n hx hb dX7_byLeft_10 rfl (lv_at hl 2 rfl) ?_
  obtain ⟨j3, e4, h⟩ := lz_o h
  have hj5 : ∀ (u2 : Int32), j3 u2 = (some r) → ∀ (H : Heap) (locs : List Loc), gWd G LM ad (gA LM ad) s.heap I J H locs → ∀ (ls : Array Slot), lv_has ls 3 [] → W p l e (gRm 1) s m args below meth c H locs 0 0 Q (F0 m 31 ls [.int u2, .int (I 1 (((69 : Int32) + x1)).toNatClampNeg)]) := by
    intro u2 h H locs hW ls hl
    replace h := jn1 e4 h
    refine lv_isub hx hb dX7_byLeft_31 ?_
    obtain a1 := so1 h
    exact g_nmi a1 (hfin _ _ _ _ hW dX7_byLeft_32)
  refine lv_icmp_ne (tgt := 18) hx hb dX7_byLeft_11 (by decide) (fun c6 => ?_) (fun c6 => ?_)
  · replace h := gi_f h c6
    refine lv_aload_n hx hb dX7_byLeft_18 rfl (lv_at hl 0 rfl) ?_
    refine g_get K hW (t := 2) (ci := 6) (k := 27) (v := .ref (ad 12)) kLM_0 rfl rfl i_X7 (by decide) q_1104 rfl (gfv2 rLM_0_27) dX7_byLeft_19 ?_
    refine lv_bipush (v := (12 : Int32)) hx hb dX7_byLeft_22 (by decide) ?_
    refine lv_iload_n hx hb dX7_byLeft_24 rfl (lv_at hl 1 rfl) ?_
    refine lv_iconst (v := (1 : Int32)) hx hb dX7_byLeft_25 (by decide) ?_
    refine lv_iadd hx hb dX7_byLeft_26 ?_
    refine lv_imul hx hb dX7_byLeft_27 ?_
    refine lv_iload_n hx hb dX7_byLeft_28 rfl (lv_at hl 2 rfl) ?_
    refine lv_iadd hx hb dX7_byLeft_29 ?_
    obtain ⟨g7, h⟩ := gd_o h hn
    refine g_iald K hW kLM_12 g7 rfl dX7_byLeft_30 ?_
    exact hj5 (I 12 ((((12 : Int32) * (x1 + (1 : Int32))) + x2)).toNatClampNeg) h _ _ hW _ (lv_sub hl [] rfl)
  · replace h := gi_t h c6
    refine lv_iconst (v := (0 : Int32)) hx hb dX7_byLeft_14 (by decide) ?_
    refine lv_goto (tgt := 31) hx hb dX7_byLeft_15 (by decide) ?_
    exact hj5 (0 : Int32) h _ _ hW _ (lv_sub hl [] rfl)
noncomputable def fX7_byRight  (x1 : Int32) (x2 : Int32) (I : gI) : Option (Int32) :=
  gd (vp_in ((69 : Int32) + x2) 1592) (lz (fun (u2 : Int32) => some ((I 1 (((69 : Int32) + x2)).toNatClampNeg) - u2)) (fun j3 => gi (x1 = x2)
 (j3 (0 : Int32))
 (gd (vp_in ((((12 : Int32) * x1) + x2) - (1 : Int32)) 144) (j3 (I 12 (((((12 : Int32) * x1) + x2) - (1 : Int32))).toNatClampNeg)))))
set_option maxHeartbeats 4000000 in
set_option maxRecDepth 100000 in
theorem kX7_byRight {l : Launch} {G : gG} {ad : Nat → Nat} (hok : gInj LM ad)    (x1 : Int32) (x2 : Int32) (I : gI) (J : gJ) (r : Int32) (h : fX7_byRight x1 x2 I = some r) : gMi l yX7_byRight cX7_byRight 3 (some .int) 1 G LM ad [.ref (ad 0), .int x1, .int x2] I J r True I J := by
  refine gMi_of (lst := [(0, .ref (ad 0)), (1, .int x1), (2, .int x2)]) (by decide) hok (Nat.le_of_ble_eq_true rfl) rfl ?_
  intro p e s m args below meth c Q ls K hW hl hfin
  have hn : (some r : Option (Int32)) ≠ none := Option.some_ne_none _
  have hx := K.1; have hb := K.2.1; have hown := K.2.2.2.1; have hts := K.2.2.2.2.1
  unfold fX7_byRight at h
  refine lv_aload_n hx hb dX7_byRight_0 rfl (lv_at hl 0 rfl) ?_
  refine g_get K hW (t := 2) (ci := 6) (k := 0) (v := .ref (ad 1)) kLM_0 rfl rfl i_X7 (by decide) q_1077 rfl (gfv2 rLM_0_0) dX7_byRight_1 ?_
  refine lv_bipush (v := (69 : Int32)) hx hb dX7_byRight_4 (by decide) ?_
  refine lv_iload_n hx hb dX7_byRight_6 rfl (lv_at hl 2 rfl) ?_
  refine lv_iadd hx hb dX7_byRight_7 ?_
  obtain ⟨g1, h⟩ := gd_o h hn
  refine g_iald K hW kLM_1 g1 rfl dX7_byRight_8 ?_
  refine lv_iload_n hx hb dX7_byRight_9 rfl (lv_at hl 1 rfl) ?_
  refine lv_iload_n hx hb dX7_byRight_10 rfl (lv_at hl 2 rfl) ?_
  obtain ⟨j3, e4, h⟩ := lz_o h
  have hj5 : ∀ (u2 : Int32), j3 u2 = (some r) → ∀ (H : Heap) (locs : List Loc), gWd G LM ad (gA LM ad) s.heap I J H locs → ∀ (ls : Array Slot), lv_has ls 3 [] → W p l e (gRm 1) s m args below meth c H locs 0 0 Q (F0 m 31 ls [.int u2, .int (I 1 (((69 : Int32) + x2)).toNatClampNeg)]) := by
    intro u2 h H locs hW ls hl
    replace h := jn1 e4 h
    refine lv_isub hx hb dX7_byRight_31 ?_
    obtain a1 := so1 h
    exact g_nmi a1 (hfin _ _ _ _ hW dX7_byRight_32)
  refine lv_icmp_ne (tgt := 18) hx hb dX7_byRight_11 (by decide) (fun c6 => ?_) (fun c6 => ?_)
  · replace h := gi_f h c6
    refine lv_aload_n hx hb dX7_byRight_18 rfl (lv_at hl 0 rfl) ?_
    refine g_get K hW (t := 2) (ci := 6) (k := 27) (v := .ref (ad 12)) kLM_0 rfl rfl i_X7 (by decide) q_1104 rfl (gfv2 rLM_0_27) dX7_byRight_19 ?_
    refine lv_bipush (v := (12 : Int32)) hx hb dX7_byRight_22 (by decide) ?_
    refine lv_iload_n hx hb dX7_byRight_24 rfl (lv_at hl 1 rfl) ?_
    refine lv_imul hx hb dX7_byRight_25 ?_
    refine lv_iload_n hx hb dX7_byRight_26 rfl (lv_at hl 2 rfl) ?_
    refine lv_iadd hx hb dX7_byRight_27 ?_
    refine lv_iconst (v := (1 : Int32)) hx hb dX7_byRight_28 (by decide) ?_
    refine lv_isub hx hb dX7_byRight_29 ?_
    obtain ⟨g7, h⟩ := gd_o h hn
    refine g_iald K hW kLM_12 g7 rfl dX7_byRight_30 ?_
    exact hj5 (I 12 (((((12 : Int32) * x1) + x2) - (1 : Int32))).toNatClampNeg) h _ _ hW _ (lv_sub hl [] rfl)
  · replace h := gi_t h c6
    refine lv_iconst (v := (0 : Int32)) hx hb dX7_byRight_14 (by decide) ?_
    refine lv_goto (tgt := 31) hx hb dX7_byRight_15 (by decide) ?_
    exact hj5 (0 : Int32) h _ _ hW _ (lv_sub hl [] rfl)
theorem nm_X7_byLeft : gNm yX7_byLeft 2 := by decide +kernel
theorem nm_X7_byRight : gNm yX7_byRight 2 := by decide +kernel
noncomputable def fX7_layGames_10b  (rec : Int32 → Int32 → gI → Option ((gI))) (u4 : Int32) (u5 : Int32) (I : gI) : Option ((gI)) :=
  gi ((12 : Int32) ≤ (u5 + u4))
 (some I)
 (bd (fX7_byLeft u5 (u5 + u4) I) (fun (u8 : Int32) => bd (fX7_byRight u5 (u5 + u4) I) (fun (u11 : Int32) => lz (fun (u14 : Int32) => gd (vp_in ((((12 : Int32) * u5) + u5) + u4) 144) (lz (wI I 12 (((((12 : Int32) * u5) + u5) + u4)).toNatClampNeg u14) (fun (I20 : gI) => lz ((u5 + (1 : Int32))) (fun (u21 : Int32) => rec u4 u21 I20)))) (fun j15 => gi (u8 ≤ u11)
 (j15 u11)
 (j15 u8)))))
noncomputable def fX7_layGames_10  : Nat → Int32 → Int32 → gI → Option ((gI))
  | 0 => fun _ _ _ => none
  | n + 1 => fX7_layGames_10b  (fX7_layGames_10  n)
set_option maxHeartbeats 4000000 in
set_option maxRecDepth 100000 in
theorem tX7_layGames_10 {l : Launch} {G : gG} {ad : Nat → Nat} {p : Program} {e : Env} {s : State} {m : MethodId} {args : Array Value} {below : List Frame} {meth : Method} {c : Code} {Q : State → Prop} (hok : gInj LM ad) (K : gCx G (gA LM ad) p s m args c cX7_layGames 5 RX7)  : ∀ (n : Nat) (u4 : Int32) (u5 : Int32) (I : gI) (J : gJ) (out : Option ((gI))), fX7_layGames_10  n u4 u5 I = out → out ≠ none → ∀ (H : Heap) (locs : List Loc), gWd G LM ad (gA LM ad) s.heap I J H locs → ∀ (ls : Array Slot), lv_has ls 5 [(0, .ref (ad 0)), (1, .int u4), (2, .int u5)] → (∀ (I6 : gI), some I6 = out → ∀ (H : Heap) (locs : List Loc), gWd G LM ad (gA LM ad) s.heap I6 J H locs → ∀ (ls : Array Slot), lv_has ls 5 [(0, .ref (ad 0)), (1, .int u4)] → W p l e (gRm 2) s m args below meth c H locs 0 0 Q (F0 m 68 ls [])) → W p l e (gRm 2) s m args below meth c H locs 0 0 Q (F0 m 10 ls []) := by
  have hx := K.1; have hb := K.2.1; have hown := K.2.2.2.1; have hts := K.2.2.2.2.1
  intro n
  induction n with
  | zero => intro u4 u5 I J out h hn; exact absurd h.symm hn
  | succ n ih =>
    intro u4 u5 I J out h hn H locs hW ls hl hx1
    replace h : fX7_layGames_10b  (fX7_layGames_10  n) u4 u5 I = out := h
    unfold fX7_layGames_10b at h
    refine lv_iload_n hx hb dX7_layGames_10 rfl (lv_at hl 2 rfl) ?_
    refine lv_iload_n hx hb dX7_layGames_11 rfl (lv_at hl 1 rfl) ?_
    refine lv_iadd hx hb dX7_layGames_12 ?_
    refine lv_bipush (v := (12 : Int32)) hx hb dX7_layGames_13 (by decide) ?_
    refine lv_icmp_ge (tgt := 68) hx hb dX7_layGames_15 (by decide) (fun c7 => ?_) (fun c7 => ?_)
    · replace h := gi_t h c7
      exact hx1 I h _ _ hW _ (lv_sub hl [0, 1] rfl)
    · replace h := gi_f h c7
      refine lv_aload_n hx hb dX7_layGames_18 rfl (lv_at hl 0 rfl) ?_
      refine lv_iload_n hx hb dX7_layGames_19 rfl (lv_at hl 2 rfl) ?_
      refine lv_iload_n hx hb dX7_layGames_20 rfl (lv_at hl 2 rfl) ?_
      refine lv_iload_n hx hb dX7_layGames_21 rfl (lv_at hl 1 rfl) ?_
      refine lv_iadd hx hb dX7_layGames_22 ?_
      obtain ⟨u8, e9, h⟩ := bd_o h hn
      refine g_callVi (rest := []) K hW hl (kX7_byLeft (l := l) (G := G) (ad := ad) hok u5 (u5 + u4) I J u8 e9) kLM_0 rfl (gG_V q_1753 q_1755 q_129 q_139 q_1756) nm_X7_byLeft ⟨Nat.le_of_ble_eq_true rfl, Nat.le_of_ble_eq_true rfl⟩ rfl rfl (Nat.le_of_ble_eq_true rfl) ⟨Nat.zero_le _, Nat.zero_le _⟩ dX7_layGames_23 (fun z10 H locs hW => ?_)
      refine lv_istore_n (lv' := [(3, .int u8), (0, .ref (ad 0)), (1, .int u4), (2, .int u5)]) hx hb dX7_layGames_26 rfl hl (by decide) rfl (fun ls hl => ?_)
      refine lv_aload_n hx hb dX7_layGames_27 rfl (lv_at hl 1 rfl) ?_
      refine lv_iload_n hx hb dX7_layGames_28 rfl (lv_at hl 3 rfl) ?_
      refine lv_iload_n hx hb dX7_layGames_29 rfl (lv_at hl 3 rfl) ?_
      refine lv_iload_n hx hb dX7_layGames_30 rfl (lv_at hl 2 rfl) ?_
      refine lv_iadd hx hb dX7_layGames_31 ?_
      obtain ⟨u11, e12, h⟩ := bd_o h hn
      refine g_callVi (rest := []) K hW hl (kX7_byRight (l := l) (G := G) (ad := ad) hok u5 (u5 + u4) I J u11 e12) kLM_0 rfl (gG_V q_1757 q_1759 q_130 q_139 q_1760) nm_X7_byRight ⟨Nat.le_of_ble_eq_true rfl, Nat.le_of_ble_eq_true rfl⟩ rfl rfl (Nat.le_of_ble_eq_true rfl) ⟨Nat.zero_le _, Nat.zero_le _⟩ dX7_layGames_32 (fun z13 H locs hW => ?_)
      refine lv_istore (lv' := [(4, .int u11), (3, .int u8), (0, .ref (ad 0)), (1, .int u4), (2, .int u5)]) hx hb dX7_layGames_35 hl (by decide) rfl (fun ls hl => ?_)
      refine lv_aload_n hx hb dX7_layGames_37 rfl (lv_at hl 2 rfl) ?_
      refine g_get K hW (t := 2) (ci := 6) (k := 27) (v := .ref (ad 12)) kLM_0 rfl rfl i_X7 (by decide) q_1104 rfl (gfv2 rLM_0_27) dX7_layGames_38 ?_
      refine lv_bipush (v := (12 : Int32)) hx hb dX7_layGames_41 (by decide) ?_
      refine lv_iload_n hx hb dX7_layGames_43 rfl (lv_at hl 4 rfl) ?_
      refine lv_imul hx hb dX7_layGames_44 ?_
      refine lv_iload_n hx hb dX7_layGames_45 rfl (lv_at hl 4 rfl) ?_
      refine lv_iadd hx hb dX7_layGames_46 ?_
      refine lv_iload_n hx hb dX7_layGames_47 rfl (lv_at hl 3 rfl) ?_
      refine lv_iadd hx hb dX7_layGames_48 ?_
      refine lv_iload_n hx hb dX7_layGames_49 rfl (lv_at hl 1 rfl) ?_
      refine lv_iload hx hb dX7_layGames_50 (lv_at hl 0 rfl) ?_
      obtain ⟨j15, e16, h⟩ := lz_o h
      have hj17 : ∀ (u14 : Int32), j15 u14 = out → ∀ (H : Heap) (locs : List Loc), gWd G LM ad (gA LM ad) s.heap I J H locs → ∀ (ls : Array Slot), lv_has ls 5 [(0, .ref (ad 0)), (1, .int u4), (2, .int u5)] → W p l e (gRm 2) s m args below meth c H locs 0 0 Q (F0 m 61 ls [.int u14, .int ((((12 : Int32) * u5) + u5) + u4), .ref (ad 12)]) := by
        intro u14 h H locs hW ls hl
        replace h := jn1 e16 h
        obtain ⟨g18, h⟩ := gd_o h hn
        refine g_iast K hW kLM_12 g18 rfl dX7_layGames_61 (fun H locs hW => ?_)
        obtain ⟨I20, e19, h⟩ := lz_o h
        replace hW := gWd_nI e19 hW
        obtain ⟨u21, e22, h⟩ := lz_o h
        refine lv_iinc (v := u21) (lv' := [(2, .int u21), (0, .ref (ad 0)), (1, .int u4)]) hx hb dX7_layGames_62 hl (k := 2) rfl (by rw [e22]; rfl) (by decide) rfl (fun ls hl => ?_)
        refine lv_goto (tgt := 10) hx hb dX7_layGames_65 (by decide) ?_
        exact ih u4 u21 I20 J _ h hn _ _ hW _ (lv_sub hl [1, 2, 0] rfl) hx1
      refine lv_icmp_le (tgt := 59) hx hb dX7_layGames_52 (by decide) (fun c23 => ?_) (fun c23 => ?_)
      · replace h := gi_t h c23
        refine lv_iload hx hb dX7_layGames_59 (lv_at hl 0 rfl) ?_
        exact hj17 u11 h _ _ hW _ (lv_sub hl [2, 3, 4] rfl)
      · replace h := gi_f h c23
        refine lv_iload_n hx hb dX7_layGames_55 rfl (lv_at hl 1 rfl) ?_
        refine lv_goto (tgt := 61) hx hb dX7_layGames_56 (by decide) ?_
        exact hj17 u8 h _ _ hW _ (lv_sub hl [2, 3, 4] rfl)
noncomputable def fX7_layGames_2b  (rec : Int32 → gI → Option ((gI))) (u1 : Int32) (I : gI) : Option ((gI)) :=
  gi ((12 : Int32) ≤ u1)
 (some I)
 (bd (fX7_layGames_10 FU u1 (0 : Int32) I) (fun (I26 : gI) => lz ((u1 + (1 : Int32))) (fun (u28 : Int32) => rec u28 I26)))
noncomputable def fX7_layGames_2  : Nat → Int32 → gI → Option ((gI))
  | 0 => fun _ _ => none
  | n + 1 => fX7_layGames_2b  (fX7_layGames_2  n)
set_option maxHeartbeats 4000000 in
set_option maxRecDepth 100000 in
theorem tX7_layGames_2 {l : Launch} {G : gG} {ad : Nat → Nat} {p : Program} {e : Env} {s : State} {m : MethodId} {args : Array Value} {below : List Frame} {meth : Method} {c : Code} {Q : State → Prop} (hok : gInj LM ad) (K : gCx G (gA LM ad) p s m args c cX7_layGames 5 RX7)  : ∀ (n : Nat) (u1 : Int32) (I : gI) (J : gJ) (out : Option ((gI))), fX7_layGames_2  n u1 I = out → out ≠ none → ∀ (H : Heap) (locs : List Loc), gWd G LM ad (gA LM ad) s.heap I J H locs → ∀ (ls : Array Slot), lv_has ls 5 [(0, .ref (ad 0)), (1, .int u1)] → (∀ (I2 : gI), some I2 = out → ∀ (H : Heap) (locs : List Loc), gWd G LM ad (gA LM ad) s.heap I2 J H locs → ∀ (ls : Array Slot), lv_has ls 5 [] → W p l e (gRm 2) s m args below meth c H locs 0 0 Q (F0 m 74 ls [])) → W p l e (gRm 2) s m args below meth c H locs 0 0 Q (F0 m 2 ls []) := by
  have hx := K.1; have hb := K.2.1; have hown := K.2.2.2.1; have hts := K.2.2.2.2.1
  intro n
  induction n with
  | zero => intro u1 I J out h hn; exact absurd h.symm hn
  | succ n ih =>
    intro u1 I J out h hn H locs hW ls hl hx1
    replace h : fX7_layGames_2b  (fX7_layGames_2  n) u1 I = out := h
    unfold fX7_layGames_2b at h
    refine lv_iload_n hx hb dX7_layGames_2 rfl (lv_at hl 1 rfl) ?_
    refine lv_bipush (v := (12 : Int32)) hx hb dX7_layGames_3 (by decide) ?_
    refine lv_icmp_ge (tgt := 74) hx hb dX7_layGames_5 (by decide) (fun c3 => ?_) (fun c3 => ?_)
    · replace h := gi_t h c3
      exact hx1 I h _ _ hW _ (lv_sub hl [] rfl)
    · replace h := gi_f h c3
      refine lv_iconst (v := (0 : Int32)) hx hb dX7_layGames_8 (by decide) ?_
      refine lv_istore_n (lv' := [(2, .int (0 : Int32)), (0, .ref (ad 0)), (1, .int u1)]) hx hb dX7_layGames_9 rfl hl (by decide) rfl (fun ls hl => ?_)
      obtain ⟨r24, e25, h⟩ := bd_o h hn
      refine tX7_layGames_10 hok K FU u1 (0 : Int32) I J (some r24) e25 (Option.some_ne_none _) _ _ hW _ (lv_sub hl [1, 2, 0] rfl) ?_
      · intro I26 q27 H locs hW ls hl
        replace q27 := Option.some.inj q27
        subst q27
        obtain ⟨u28, e29, h⟩ := lz_o h
        refine lv_iinc (v := u28) (lv' := [(1, .int u28), (0, .ref (ad 0))]) hx hb dX7_layGames_68 hl (k := 1) rfl (by rw [e29]; rfl) (by decide) rfl (fun ls hl => ?_)
        refine lv_goto (tgt := 2) hx hb dX7_layGames_71 (by decide) ?_
        exact ih u28 I26 J _ h hn _ _ hW _ (lv_sub hl [1, 0] rfl) hx1
noncomputable def fX7_layGames   (I : gI) : Option (gI) :=
  bd (fX7_layGames_2 FU (0 : Int32) I) (fun (I32 : gI) => some I32)
set_option maxHeartbeats 4000000 in
set_option maxRecDepth 100000 in
theorem kX7_layGames {l : Launch} {G : gG} {ad : Nat → Nat} (hok : gInj LM ad)     (I : gI) (J : gJ) (I' : gI) (h : fX7_layGames I = some I') : gMv l yX7_layGames cX7_layGames 5 none 2 G LM ad [.ref (ad 0)] I J I' J := by
  refine gMv_of (lst := [(0, .ref (ad 0))]) (by decide) hok (Nat.le_of_ble_eq_true rfl) rfl ?_
  intro p e s m args below meth c Q ls K hW hl hfin
  have hn : (some I' : Option (gI)) ≠ none := Option.some_ne_none _
  have hx := K.1; have hb := K.2.1; have hown := K.2.2.2.1; have hts := K.2.2.2.2.1
  unfold fX7_layGames at h
  refine lv_iconst (v := (0 : Int32)) hx hb dX7_layGames_0 (by decide) ?_
  refine lv_istore_n (lv' := [(1, .int (0 : Int32)), (0, .ref (ad 0))]) hx hb dX7_layGames_1 rfl hl (by decide) rfl (fun ls hl => ?_)
  obtain ⟨r30, e31, h⟩ := bd_o h hn
  refine tX7_layGames_2 hok K FU (0 : Int32) I J (some r30) e31 (Option.some_ne_none _) _ _ hW _ (lv_sub hl [1, 0] rfl) ?_
  · intro I32 q33 H locs hW ls hl
    replace q33 := Option.some.inj q33
    subst q33
    obtain a1 := so1 h
    replace hW := gWd_nI a1 hW
    exact hfin _ _ _ _ hW dX7_layGames_74
theorem nm_X7_layGames : gNm yX7_layGames 0 := by decide +kernel
noncomputable def fX7_ends  (x1 : Int32) (x2 : Int32) (I : gI) : Option (Int32 × gI) :=
  gi ((fX7_areSlices x1 x2) = 0)
 (some ((-1000 : Int32), I))
 (bd (fX7_layGames I) (fun (I3 : gI) => gd (vp_in (((12 : Int32) * x1) + x2) 144) (some ((I3 12 ((((12 : Int32) * x1) + x2)).toNatClampNeg), I3))))
set_option maxHeartbeats 4000000 in
set_option maxRecDepth 100000 in
theorem kX7_ends {l : Launch} {G : gG} {ad : Nat → Nat} (hok : gInj LM ad)    (x1 : Int32) (x2 : Int32) (I : gI) (J : gJ) (r : Int32) (I' : gI) (h : fX7_ends x1 x2 I = some (r, I')) : gMi l yX7_ends cX7_ends 3 (some .int) 3 G LM ad [.ref (ad 0), .int x1, .int x2] I J r True I' J := by
  refine gMi_of (lst := [(0, .ref (ad 0)), (1, .int x1), (2, .int x2)]) (by decide) hok (Nat.le_of_ble_eq_true rfl) rfl ?_
  intro p e s m args below meth c Q ls K hW hl hfin
  have hn : (some (r, I') : Option (Int32 × gI)) ≠ none := Option.some_ne_none _
  have hx := K.1; have hb := K.2.1; have hown := K.2.2.2.1; have hts := K.2.2.2.2.1
  unfold fX7_ends at h
  refine lv_iload_n hx hb dX7_ends_0 rfl (lv_at hl 1 rfl) ?_
  refine lv_iload_n hx hb dX7_ends_1 rfl (lv_at hl 2 rfl) ?_
  refine g_callSi (rest := []) K hW hl (kX7_areSlices (l := l) (G := G) (ad := ad) hok x1 x2 I J (fX7_areSlices x1 x2) rfl) q_1178 q_1179 q_139 q_1180 nm_X7_areSlices ⟨Nat.le_of_ble_eq_true rfl, Nat.le_of_ble_eq_true rfl⟩ rfl rfl (Nat.le_of_ble_eq_true rfl) ⟨Nat.zero_le _, Nat.zero_le _⟩ dX7_ends_2 (fun z1 H locs hW => ?_)
  refine lv_if_ne (tgt := 12) hx hb dX7_ends_5 (by decide) (fun c2 => ?_) (fun c2 => ?_)
  · replace h := gi_f h c2
    refine lv_aload_n hx hb dX7_ends_12 rfl (lv_at hl 0 rfl) ?_
    obtain ⟨I3, e4, h⟩ := bd_o h hn
    refine g_callVv (rest := []) K hW hl (kX7_layGames (l := l) (G := G) (ad := ad) hok I J I3 e4) kLM_0 rfl (gG_V q_1749 q_1751 q_128 q_139 q_1752) nm_X7_layGames ⟨Nat.le_of_ble_eq_true rfl, Nat.le_of_ble_eq_true rfl⟩ rfl rfl (Nat.le_of_ble_eq_true rfl) ⟨Nat.zero_le _, Nat.zero_le _⟩ dX7_ends_13 (fun H locs hW => ?_)
    refine lv_aload_n hx hb dX7_ends_16 rfl (lv_at hl 0 rfl) ?_
    refine g_get K hW (t := 2) (ci := 6) (k := 27) (v := .ref (ad 12)) kLM_0 rfl rfl i_X7 (by decide) q_1104 rfl (gfv2 rLM_0_27) dX7_ends_17 ?_
    refine lv_bipush (v := (12 : Int32)) hx hb dX7_ends_20 (by decide) ?_
    refine lv_iload_n hx hb dX7_ends_22 rfl (lv_at hl 1 rfl) ?_
    refine lv_imul hx hb dX7_ends_23 ?_
    refine lv_iload_n hx hb dX7_ends_24 rfl (lv_at hl 2 rfl) ?_
    refine lv_iadd hx hb dX7_ends_25 ?_
    obtain ⟨g6, h⟩ := gd_o h hn
    refine g_iald K hW kLM_12 g6 rfl dX7_ends_26 ?_
    obtain ⟨a1, a2⟩ := so2 h
    replace hW := gWd_nI a2 hW
    exact g_nmi a1 (hfin _ _ _ _ hW dX7_ends_27)
  · replace h := gi_t h c2
    refine lv_sipush (v := (-1000 : Int32)) hx hb dX7_ends_8 (by decide) ?_
    obtain ⟨a1, a2⟩ := so2 h
    replace hW := gWd_nI a2 hW
    exact g_nmi a1 (hfin _ _ _ _ hW dX7_ends_11)
noncomputable def fX7_take  (x1 : Int32) (x2 : Int32) (I : gI) : Option (Int32 × gI) :=
  gi ((fX7_areSlices x1 x2) = 0)
 (some ((-1 : Int32), I))
 (bd (fX7_layGames I) (fun (I3 : gI) => bd (fX7_byLeft x1 x2 I3) (fun (u6 : Int32) => bd (fX7_byRight x1 x2 I3) (fun (u9 : Int32) => gi (u6 < u9)
 (some ((1 : Int32), I3))
 (some ((0 : Int32), I3))))))
set_option maxHeartbeats 4000000 in
set_option maxRecDepth 100000 in
theorem kX7_take {l : Launch} {G : gG} {ad : Nat → Nat} (hok : gInj LM ad)    (x1 : Int32) (x2 : Int32) (I : gI) (J : gJ) (r : Int32) (I' : gI) (h : fX7_take x1 x2 I = some (r, I')) : gMi l yX7_take cX7_take 3 (some .int) 3 G LM ad [.ref (ad 0), .int x1, .int x2] I J r True I' J := by
  refine gMi_of (lst := [(0, .ref (ad 0)), (1, .int x1), (2, .int x2)]) (by decide) hok (Nat.le_of_ble_eq_true rfl) rfl ?_
  intro p e s m args below meth c Q ls K hW hl hfin
  have hn : (some (r, I') : Option (Int32 × gI)) ≠ none := Option.some_ne_none _
  have hx := K.1; have hb := K.2.1; have hown := K.2.2.2.1; have hts := K.2.2.2.2.1
  unfold fX7_take at h
  refine lv_iload_n hx hb dX7_take_0 rfl (lv_at hl 1 rfl) ?_
  refine lv_iload_n hx hb dX7_take_1 rfl (lv_at hl 2 rfl) ?_
  refine g_callSi (rest := []) K hW hl (kX7_areSlices (l := l) (G := G) (ad := ad) hok x1 x2 I J (fX7_areSlices x1 x2) rfl) q_1178 q_1179 q_139 q_1180 nm_X7_areSlices ⟨Nat.le_of_ble_eq_true rfl, Nat.le_of_ble_eq_true rfl⟩ rfl rfl (Nat.le_of_ble_eq_true rfl) ⟨Nat.zero_le _, Nat.zero_le _⟩ dX7_take_2 (fun z1 H locs hW => ?_)
  refine lv_if_ne (tgt := 10) hx hb dX7_take_5 (by decide) (fun c2 => ?_) (fun c2 => ?_)
  · replace h := gi_f h c2
    refine lv_aload_n hx hb dX7_take_10 rfl (lv_at hl 0 rfl) ?_
    obtain ⟨I3, e4, h⟩ := bd_o h hn
    refine g_callVv (rest := []) K hW hl (kX7_layGames (l := l) (G := G) (ad := ad) hok I J I3 e4) kLM_0 rfl (gG_V q_1749 q_1751 q_128 q_139 q_1752) nm_X7_layGames ⟨Nat.le_of_ble_eq_true rfl, Nat.le_of_ble_eq_true rfl⟩ rfl rfl (Nat.le_of_ble_eq_true rfl) ⟨Nat.zero_le _, Nat.zero_le _⟩ dX7_take_11 (fun H locs hW => ?_)
    refine lv_aload_n hx hb dX7_take_14 rfl (lv_at hl 0 rfl) ?_
    refine lv_iload_n hx hb dX7_take_15 rfl (lv_at hl 1 rfl) ?_
    refine lv_iload_n hx hb dX7_take_16 rfl (lv_at hl 2 rfl) ?_
    obtain ⟨u6, e7, h⟩ := bd_o h hn
    refine g_callVi (rest := []) K hW hl (kX7_byLeft (l := l) (G := G) (ad := ad) hok x1 x2 I3 J u6 e7) kLM_0 rfl (gG_V q_1753 q_1755 q_129 q_139 q_1756) nm_X7_byLeft ⟨Nat.le_of_ble_eq_true rfl, Nat.le_of_ble_eq_true rfl⟩ rfl rfl (Nat.le_of_ble_eq_true rfl) ⟨Nat.zero_le _, Nat.zero_le _⟩ dX7_take_17 (fun z8 H locs hW => ?_)
    refine lv_aload_n hx hb dX7_take_20 rfl (lv_at hl 0 rfl) ?_
    refine lv_iload_n hx hb dX7_take_21 rfl (lv_at hl 1 rfl) ?_
    refine lv_iload_n hx hb dX7_take_22 rfl (lv_at hl 2 rfl) ?_
    obtain ⟨u9, e10, h⟩ := bd_o h hn
    refine g_callVi (rest := [.int u6]) K hW hl (kX7_byRight (l := l) (G := G) (ad := ad) hok x1 x2 I3 J u9 e10) kLM_0 rfl (gG_V q_1757 q_1759 q_130 q_139 q_1760) nm_X7_byRight ⟨Nat.le_of_ble_eq_true rfl, Nat.le_of_ble_eq_true rfl⟩ rfl rfl (Nat.le_of_ble_eq_true rfl) ⟨Nat.zero_le _, Nat.zero_le _⟩ dX7_take_23 (fun z11 H locs hW => ?_)
    refine lv_icmp_lt (tgt := 33) hx hb dX7_take_26 (by decide) (fun c12 => ?_) (fun c12 => ?_)
    · replace h := gi_t h c12
      refine lv_iconst (v := (1 : Int32)) hx hb dX7_take_33 (by decide) ?_
      obtain ⟨a1, a2⟩ := so2 h
      replace hW := gWd_nI a2 hW
      exact g_nmi a1 (hfin _ _ _ _ hW dX7_take_34)
    · replace h := gi_f h c12
      refine lv_iconst (v := (0 : Int32)) hx hb dX7_take_29 (by decide) ?_
      refine lv_goto (tgt := 34) hx hb dX7_take_30 (by decide) ?_
      obtain ⟨a1, a2⟩ := so2 h
      replace hW := gWd_nI a2 hW
      exact g_nmi a1 (hfin _ _ _ _ hW dX7_take_34)
  · replace h := gi_t h c2
    refine lv_iconst (v := (-1 : Int32)) hx hb dX7_take_8 (by decide) ?_
    obtain ⟨a1, a2⟩ := so2 h
    replace hW := gWd_nI a2 hW
    exact g_nmi a1 (hfin _ _ _ _ hW dX7_take_9)
noncomputable def fX7_runOf_5b  (rec : Int32 → Int32 → Int32 → gI → Option ((Int32))) (u1 : Int32) (u2 : Int32) (u3 : Int32) (I : gI) : Option ((Int32)) :=
  gi (u1 < u3)
 (some u2)
 (gd (vp_in ((69 : Int32) + u3) 1592) (lz ((u2 + ((I 1 (((69 : Int32) + u3)).toNatClampNeg) - (50 : Int32)))) (fun (u7 : Int32) => lz ((u3 + (1 : Int32))) (fun (u9 : Int32) => rec u1 u7 u9 I))))
noncomputable def fX7_runOf_5  : Nat → Int32 → Int32 → Int32 → gI → Option ((Int32))
  | 0 => fun _ _ _ _ => none
  | n + 1 => fX7_runOf_5b  (fX7_runOf_5  n)
set_option maxHeartbeats 4000000 in
set_option maxRecDepth 100000 in
theorem tX7_runOf_5 {l : Launch} {G : gG} {ad : Nat → Nat} {p : Program} {e : Env} {s : State} {m : MethodId} {args : Array Value} {below : List Frame} {meth : Method} {c : Code} {Q : State → Prop} (hok : gInj LM ad) (K : gCx G (gA LM ad) p s m args c cX7_runOf 5 RX7)  : ∀ (n : Nat) (u1 : Int32) (u2 : Int32) (u3 : Int32) (I : gI) (J : gJ) (out : Option ((Int32))), fX7_runOf_5  n u1 u2 u3 I = out → out ≠ none → ∀ (H : Heap) (locs : List Loc), gWd G LM ad (gA LM ad) s.heap I J H locs → ∀ (ls : Array Slot), lv_has ls 5 [(0, .ref (ad 0)), (2, .int u1), (3, .int u2), (4, .int u3)] → (∀ (y4 : Int32), some y4 = out → ∀ (H : Heap) (locs : List Loc), gWd G LM ad (gA LM ad) s.heap I J H locs → ∀ (ls : Array Slot), lv_has ls 5 [(3, .int y4)] → W p l e (gRm 1) s m args below meth c H locs 0 0 Q (F0 m 33 ls [])) → W p l e (gRm 1) s m args below meth c H locs 0 0 Q (F0 m 5 ls []) := by
  have hx := K.1; have hb := K.2.1; have hown := K.2.2.2.1; have hts := K.2.2.2.2.1
  intro n
  induction n with
  | zero => intro u1 u2 u3 I J out h hn; exact absurd h.symm hn
  | succ n ih =>
    intro u1 u2 u3 I J out h hn H locs hW ls hl hx1
    replace h : fX7_runOf_5b  (fX7_runOf_5  n) u1 u2 u3 I = out := h
    unfold fX7_runOf_5b at h
    refine lv_iload hx hb dX7_runOf_5 (lv_at hl 3 rfl) ?_
    refine lv_iload_n hx hb dX7_runOf_7 rfl (lv_at hl 1 rfl) ?_
    refine lv_icmp_gt (tgt := 33) hx hb dX7_runOf_8 (by decide) (fun c5 => ?_) (fun c5 => ?_)
    · replace h := gi_t h c5
      exact hx1 u2 h _ _ hW _ (lv_sub hl [2] rfl)
    · replace h := gi_f h c5
      refine lv_iload_n hx hb dX7_runOf_11 rfl (lv_at hl 2 rfl) ?_
      refine lv_aload_n hx hb dX7_runOf_12 rfl (lv_at hl 0 rfl) ?_
      refine g_get K hW (t := 2) (ci := 6) (k := 0) (v := .ref (ad 1)) kLM_0 rfl rfl i_X7 (by decide) q_1077 rfl (gfv2 rLM_0_0) dX7_runOf_13 ?_
      refine lv_bipush (v := (69 : Int32)) hx hb dX7_runOf_16 (by decide) ?_
      refine lv_iload hx hb dX7_runOf_18 (lv_at hl 3 rfl) ?_
      refine lv_iadd hx hb dX7_runOf_20 ?_
      obtain ⟨g6, h⟩ := gd_o h hn
      refine g_iald K hW kLM_1 g6 rfl dX7_runOf_21 ?_
      refine lv_bipush (v := (50 : Int32)) hx hb dX7_runOf_22 (by decide) ?_
      refine lv_isub hx hb dX7_runOf_24 ?_
      refine lv_iadd hx hb dX7_runOf_25 ?_
      obtain ⟨u7, e8, h⟩ := lz_o h
      refine g_nmi e8 ?_
      refine lv_istore_n (lv' := [(3, .int u7), (0, .ref (ad 0)), (2, .int u1), (4, .int u3)]) hx hb dX7_runOf_26 rfl hl (by decide) rfl (fun ls hl => ?_)
      obtain ⟨u9, e10, h⟩ := lz_o h
      refine lv_iinc (v := u9) (lv' := [(4, .int u9), (3, .int u7), (0, .ref (ad 0)), (2, .int u1)]) hx hb dX7_runOf_27 hl (k := 3) rfl (by rw [e10]; rfl) (by decide) rfl (fun ls hl => ?_)
      refine lv_goto (tgt := 5) hx hb dX7_runOf_30 (by decide) ?_
      exact ih u1 u7 u9 I J _ h hn _ _ hW _ (lv_sub hl [2, 3, 1, 0] rfl) hx1
noncomputable def fX7_runOf  (x1 : Int32) (x2 : Int32) (I : gI) : Option (Int32) :=
  bd (fX7_runOf_5 FU x2 (0 : Int32) x1 I) (fun (u13 : Int32) => some u13)
set_option maxHeartbeats 4000000 in
set_option maxRecDepth 100000 in
theorem kX7_runOf {l : Launch} {G : gG} {ad : Nat → Nat} (hok : gInj LM ad)    (x1 : Int32) (x2 : Int32) (I : gI) (J : gJ) (r : Int32) (h : fX7_runOf x1 x2 I = some r) : gMi l yX7_runOf cX7_runOf 5 (some .int) 1 G LM ad [.ref (ad 0), .int x1, .int x2] I J r True I J := by
  refine gMi_of (lst := [(0, .ref (ad 0)), (1, .int x1), (2, .int x2)]) (by decide) hok (Nat.le_of_ble_eq_true rfl) rfl ?_
  intro p e s m args below meth c Q ls K hW hl hfin
  have hn : (some r : Option (Int32)) ≠ none := Option.some_ne_none _
  have hx := K.1; have hb := K.2.1; have hown := K.2.2.2.1; have hts := K.2.2.2.2.1
  unfold fX7_runOf at h
  refine lv_iconst (v := (0 : Int32)) hx hb dX7_runOf_0 (by decide) ?_
  refine lv_istore_n (lv' := [(3, .int (0 : Int32)), (0, .ref (ad 0)), (1, .int x1), (2, .int x2)]) hx hb dX7_runOf_1 rfl hl (by decide) rfl (fun ls hl => ?_)
  refine lv_iload_n hx hb dX7_runOf_2 rfl (lv_at hl 2 rfl) ?_
  refine lv_istore (lv' := [(4, .int x1), (3, .int (0 : Int32)), (0, .ref (ad 0)), (1, .int x1), (2, .int x2)]) hx hb dX7_runOf_3 hl (by decide) rfl (fun ls hl => ?_)
  obtain ⟨r11, e12, h⟩ := bd_o h hn
  refine tX7_runOf_5 hok K FU x2 (0 : Int32) x1 I J (some r11) e12 (Option.some_ne_none _) _ _ hW _ (lv_sub hl [2, 4, 1, 0] rfl) ?_
  · intro u13 q14 H locs hW ls hl
    replace q14 := Option.some.inj q14
    subst q14
    refine lv_iload_n hx hb dX7_runOf_33 rfl (lv_at hl 0 rfl) ?_
    obtain a1 := so1 h
    exact g_nmi a1 (hfin _ _ _ _ hW dX7_runOf_34)
theorem nm_X7_runOf : gNm yX7_runOf 2 := by decide +kernel
noncomputable def fX7_best_40b  (rec : Int32 → Int32 → Int32 → Int32 → Int32 → Int32 → gI → Option ((Int32 × Int32))) (u16 : Int32) (u17 : Int32) (u18 : Int32) (u19 : Int32) (u20 : Int32) (u21 : Int32) (I : gI) : Option ((Int32 × Int32)) :=
  gi (u16 < u21)
 (some (u18, u19))
 (bd (fX7_runOf u20 u21 I) (fun (u25 : Int32) => bd (fX7_runOf u18 u19 I) (fun (u28 : Int32) => lz (fun (u31 : Int32) => fun (u32 : Int32) => lz ((u21 + (1 : Int32))) (fun (u36 : Int32) => rec u16 u17 u31 u32 u20 u36 I)) (fun j33 => gi (u28 < u25)
 (j33 u20 u21)
 (j33 u18 u19)))))
noncomputable def fX7_best_40  : Nat → Int32 → Int32 → Int32 → Int32 → Int32 → Int32 → gI → Option ((Int32 × Int32))
  | 0 => fun _ _ _ _ _ _ _ => none
  | n + 1 => fX7_best_40b  (fX7_best_40  n)
set_option maxHeartbeats 4000000 in
set_option maxRecDepth 100000 in
theorem tX7_best_40 {l : Launch} {G : gG} {ad : Nat → Nat} {p : Program} {e : Env} {s : State} {m : MethodId} {args : Array Value} {below : List Frame} {meth : Method} {c : Code} {Q : State → Prop} (hok : gInj LM ad) (K : gCx G (gA LM ad) p s m args c cX7_best 8 RX7)  : ∀ (n : Nat) (u16 : Int32) (u17 : Int32) (u18 : Int32) (u19 : Int32) (u20 : Int32) (u21 : Int32) (I : gI) (J : gJ) (out : Option ((Int32 × Int32))), fX7_best_40  n u16 u17 u18 u19 u20 u21 I = out → out ≠ none → ∀ (H : Heap) (locs : List Loc), gWd G LM ad (gA LM ad) s.heap I J H locs → ∀ (ls : Array Slot), lv_has ls 8 [(0, .ref (ad 0)), (2, .int u16), (3, .int u17), (4, .int u18), (5, .int u19), (6, .int u20), (7, .int u21)] → (∀ (y22 : Int32) (y23 : Int32), some (y22, y23) = out → ∀ (H : Heap) (locs : List Loc), gWd G LM ad (gA LM ad) s.heap I J H locs → ∀ (ls : Array Slot), lv_has ls 8 [(0, .ref (ad 0)), (2, .int u16), (3, .int u17), (4, .int y22), (5, .int y23), (6, .int u20)] → W p l e (gRm 3) s m args below meth c H locs 0 0 Q (F0 m 82 ls [])) → W p l e (gRm 3) s m args below meth c H locs 0 0 Q (F0 m 40 ls []) := by
  have hx := K.1; have hb := K.2.1; have hown := K.2.2.2.1; have hts := K.2.2.2.2.1
  intro n
  induction n with
  | zero => intro u16 u17 u18 u19 u20 u21 I J out h hn; exact absurd h.symm hn
  | succ n ih =>
    intro u16 u17 u18 u19 u20 u21 I J out h hn H locs hW ls hl hx1
    replace h : fX7_best_40b  (fX7_best_40  n) u16 u17 u18 u19 u20 u21 I = out := h
    unfold fX7_best_40b at h
    refine lv_iload hx hb dX7_best_40 (lv_at hl 6 rfl) ?_
    refine lv_iload_n hx hb dX7_best_42 rfl (lv_at hl 1 rfl) ?_
    refine lv_icmp_gt (tgt := 82) hx hb dX7_best_43 (by decide) (fun c24 => ?_) (fun c24 => ?_)
    · replace h := gi_t h c24
      exact hx1 u18 u19 h _ _ hW _ (lv_sub hl [0, 1, 2, 3, 4, 5] rfl)
    · replace h := gi_f h c24
      refine lv_aload_n hx hb dX7_best_46 rfl (lv_at hl 0 rfl) ?_
      refine lv_iload hx hb dX7_best_47 (lv_at hl 5 rfl) ?_
      refine lv_iload hx hb dX7_best_49 (lv_at hl 6 rfl) ?_
      obtain ⟨u25, e26, h⟩ := bd_o h hn
      refine g_callVi (rest := []) K hW hl (kX7_runOf (l := l) (G := G) (ad := ad) hok u20 u21 I J u25 e26) kLM_0 rfl (gG_V q_1769 q_1771 q_131 q_139 q_1772) nm_X7_runOf ⟨Nat.le_of_ble_eq_true rfl, Nat.le_of_ble_eq_true rfl⟩ rfl rfl (Nat.le_of_ble_eq_true rfl) ⟨Nat.zero_le _, Nat.zero_le _⟩ dX7_best_51 (fun z27 H locs hW => ?_)
      refine lv_aload_n hx hb dX7_best_54 rfl (lv_at hl 0 rfl) ?_
      refine lv_iload hx hb dX7_best_55 (lv_at hl 3 rfl) ?_
      refine lv_iload hx hb dX7_best_57 (lv_at hl 4 rfl) ?_
      obtain ⟨u28, e29, h⟩ := bd_o h hn
      refine g_callVi (rest := [.int u25]) K hW hl (kX7_runOf (l := l) (G := G) (ad := ad) hok u18 u19 I J u28 e29) kLM_0 rfl (gG_V q_1769 q_1771 q_131 q_139 q_1772) nm_X7_runOf ⟨Nat.le_of_ble_eq_true rfl, Nat.le_of_ble_eq_true rfl⟩ rfl rfl (Nat.le_of_ble_eq_true rfl) ⟨Nat.zero_le _, Nat.zero_le _⟩ dX7_best_59 (fun z30 H locs hW => ?_)
      obtain ⟨j33, e34, h⟩ := lz_o h
      have hj35 : ∀ (u31 : Int32) (u32 : Int32), j33 u31 u32 = out → ∀ (H : Heap) (locs : List Loc), gWd G LM ad (gA LM ad) s.heap I J H locs → ∀ (ls : Array Slot), lv_has ls 8 [(0, .ref (ad 0)), (2, .int u16), (3, .int u17), (4, .int u31), (5, .int u32), (6, .int u20), (7, .int u21)] → W p l e (gRm 3) s m args below meth c H locs 0 0 Q (F0 m 76 ls []) := by
        intro u31 u32 h H locs hW ls hl
        replace h := jn2 e34 h
        obtain ⟨u36, e37, h⟩ := lz_o h
        refine lv_iinc (v := u36) (lv' := [(7, .int u36), (0, .ref (ad 0)), (2, .int u16), (3, .int u17), (4, .int u31), (5, .int u32), (6, .int u20)]) hx hb dX7_best_76 hl (k := 6) rfl (by rw [e37]; rfl) (by decide) rfl (fun ls hl => ?_)
        refine lv_goto (tgt := 40) hx hb dX7_best_79 (by decide) ?_
        exact ih u16 u17 u31 u32 u20 u36 I J _ h hn _ _ hW _ (lv_sub hl [1, 2, 3, 4, 5, 6, 0] rfl) hx1
      refine lv_icmp_gt (tgt := 68) hx hb dX7_best_62 (by decide) (fun c38 => ?_) (fun c38 => ?_)
      · replace h := gi_t h c38
        refine lv_iload hx hb dX7_best_68 (lv_at hl 5 rfl) ?_
        refine lv_istore (lv' := [(4, .int u20), (0, .ref (ad 0)), (2, .int u16), (3, .int u17), (5, .int u19), (6, .int u20), (7, .int u21)]) hx hb dX7_best_70 hl (by decide) rfl (fun ls hl => ?_)
        refine lv_iload hx hb dX7_best_72 (lv_at hl 6 rfl) ?_
        refine lv_istore (lv' := [(5, .int u21), (4, .int u20), (0, .ref (ad 0)), (2, .int u16), (3, .int u17), (6, .int u20), (7, .int u21)]) hx hb dX7_best_74 hl (by decide) rfl (fun ls hl => ?_)
        exact hj35 u20 u21 h _ _ hW _ (lv_sub hl [2, 3, 4, 1, 0, 5, 6] rfl)
      · replace h := gi_f h c38
        refine lv_goto (tgt := 76) hx hb dX7_best_65 (by decide) ?_
        exact hj35 u18 u19 h _ _ hW _ (lv_sub hl [0, 1, 2, 3, 4, 5, 6] rfl)
noncomputable def fX7_best_30b  (rec : Int32 → Int32 → Int32 → Int32 → Int32 → gI → Option ((Int32 × Int32))) (u8 : Int32) (u9 : Int32) (u10 : Int32) (u11 : Int32) (u12 : Int32) (I : gI) : Option ((Int32 × Int32)) :=
  gi (u8 < u12)
 (some (u10, u11))
 (bd (fX7_best_40 FU u8 u9 u10 u11 u12 u12 I) (pr (fun (u41 : Int32) (u42 : Int32) => lz ((u12 + (1 : Int32))) (fun (u44 : Int32) => rec u8 u9 u41 u42 u44 I))))
noncomputable def fX7_best_30  : Nat → Int32 → Int32 → Int32 → Int32 → Int32 → gI → Option ((Int32 × Int32))
  | 0 => fun _ _ _ _ _ _ => none
  | n + 1 => fX7_best_30b  (fX7_best_30  n)
set_option maxHeartbeats 4000000 in
set_option maxRecDepth 100000 in
theorem tX7_best_30 {l : Launch} {G : gG} {ad : Nat → Nat} {p : Program} {e : Env} {s : State} {m : MethodId} {args : Array Value} {below : List Frame} {meth : Method} {c : Code} {Q : State → Prop} (hok : gInj LM ad) (K : gCx G (gA LM ad) p s m args c cX7_best 8 RX7)  : ∀ (n : Nat) (u8 : Int32) (u9 : Int32) (u10 : Int32) (u11 : Int32) (u12 : Int32) (I : gI) (J : gJ) (out : Option ((Int32 × Int32))), fX7_best_30  n u8 u9 u10 u11 u12 I = out → out ≠ none → ∀ (H : Heap) (locs : List Loc), gWd G LM ad (gA LM ad) s.heap I J H locs → ∀ (ls : Array Slot), lv_has ls 8 [(0, .ref (ad 0)), (2, .int u8), (3, .int u9), (4, .int u10), (5, .int u11), (6, .int u12)] → (∀ (y13 : Int32) (y14 : Int32), some (y13, y14) = out → ∀ (H : Heap) (locs : List Loc), gWd G LM ad (gA LM ad) s.heap I J H locs → ∀ (ls : Array Slot), lv_has ls 8 [(0, .ref (ad 0)), (3, .int u9), (4, .int y13), (5, .int y14)] → W p l e (gRm 3) s m args below meth c H locs 0 0 Q (F0 m 88 ls [])) → W p l e (gRm 3) s m args below meth c H locs 0 0 Q (F0 m 30 ls []) := by
  have hx := K.1; have hb := K.2.1; have hown := K.2.2.2.1; have hts := K.2.2.2.2.1
  intro n
  induction n with
  | zero => intro u8 u9 u10 u11 u12 I J out h hn; exact absurd h.symm hn
  | succ n ih =>
    intro u8 u9 u10 u11 u12 I J out h hn H locs hW ls hl hx1
    replace h : fX7_best_30b  (fX7_best_30  n) u8 u9 u10 u11 u12 I = out := h
    unfold fX7_best_30b at h
    refine lv_iload hx hb dX7_best_30 (lv_at hl 5 rfl) ?_
    refine lv_iload_n hx hb dX7_best_32 rfl (lv_at hl 1 rfl) ?_
    refine lv_icmp_gt (tgt := 88) hx hb dX7_best_33 (by decide) (fun c15 => ?_) (fun c15 => ?_)
    · replace h := gi_t h c15
      exact hx1 u10 u11 h _ _ hW _ (lv_sub hl [0, 2, 3, 4] rfl)
    · replace h := gi_f h c15
      refine lv_iload hx hb dX7_best_36 (lv_at hl 5 rfl) ?_
      refine lv_istore (lv' := [(7, .int u12), (0, .ref (ad 0)), (2, .int u8), (3, .int u9), (4, .int u10), (5, .int u11), (6, .int u12)]) hx hb dX7_best_38 hl (by decide) rfl (fun ls hl => ?_)
      obtain ⟨r39, e40, h⟩ := bd_o h hn
      refine tX7_best_40 hok K FU u8 u9 u10 u11 u12 u12 I J (some r39) e40 (Option.some_ne_none _) _ _ hW _ (lv_sub hl [1, 2, 3, 4, 5, 6, 0] rfl) ?_
      · intro u41 u42 q43 H locs hW ls hl
        replace q43 := Option.some.inj q43
        subst q43
        replace h := pr_o h
        obtain ⟨u44, e45, h⟩ := lz_o h
        refine lv_iinc (v := u44) (lv' := [(6, .int u44), (0, .ref (ad 0)), (2, .int u8), (3, .int u9), (4, .int u41), (5, .int u42)]) hx hb dX7_best_82 hl (k := 5) rfl (by rw [e45]; rfl) (by decide) rfl (fun ls hl => ?_)
        refine lv_goto (tgt := 30) hx hb dX7_best_85 (by decide) ?_
        exact ih u8 u9 u41 u42 u44 I J _ h hn _ _ hW _ (lv_sub hl [1, 2, 3, 4, 5, 0] rfl) hx1
noncomputable def fX7_best  (x1 : Int32) (x2 : Int32) (x3 : Int32) (I : gI) : Option (Int32) :=
  lz (some (-1000 : Int32)) (fun j2 => gi ((fX7_areSlices x1 x2) = 0)
 (j2)
 (gi ((fX7_isIn x3 (0 : Int32) (2 : Int32)) = 0)
 (j2)
 (bd (fX7_best_30 FU x2 x3 x1 x1 x1 I) (pr (fun (u48 : Int32) (u49 : Int32) => gi (x3 = 0)
 (bd (fX7_runOf u48 u49 I) (fun (u53 : Int32) => some u53))
 (gi (x3 = (1 : Int32))
 (some u48)
 (some u49)))))))
set_option maxHeartbeats 4000000 in
set_option maxRecDepth 100000 in
theorem kX7_best {l : Launch} {G : gG} {ad : Nat → Nat} (hok : gInj LM ad)    (x1 : Int32) (x2 : Int32) (x3 : Int32) (I : gI) (J : gJ) (r : Int32) (h : fX7_best x1 x2 x3 I = some r) : gMi l yX7_best cX7_best 8 (some .int) 3 G LM ad [.ref (ad 0), .int x1, .int x2, .int x3] I J r True I J := by
  refine gMi_of (lst := [(0, .ref (ad 0)), (1, .int x1), (2, .int x2), (3, .int x3)]) (by decide) hok (Nat.le_of_ble_eq_true rfl) rfl ?_
  intro p e s m args below meth c Q ls K hW hl hfin
  have hn : (some r : Option (Int32)) ≠ none := Option.some_ne_none _
  have hx := K.1; have hb := K.2.1; have hown := K.2.2.2.1; have hts := K.2.2.2.2.1
  unfold fX7_best at h
  refine lv_iload_n hx hb dX7_best_0 rfl (lv_at hl 1 rfl) ?_
  refine lv_iload_n hx hb dX7_best_1 rfl (lv_at hl 2 rfl) ?_
  refine g_callSi (rest := []) K hW hl (kX7_areSlices (l := l) (G := G) (ad := ad) hok x1 x2 I J (fX7_areSlices x1 x2) rfl) q_1178 q_1179 q_139 q_1180 nm_X7_areSlices ⟨Nat.le_of_ble_eq_true rfl, Nat.le_of_ble_eq_true rfl⟩ rfl rfl (Nat.le_of_ble_eq_true rfl) ⟨Nat.zero_le _, Nat.zero_le _⟩ dX7_best_2 (fun z1 H locs hW => ?_)
  obtain ⟨j2, e3, h⟩ := lz_o h
  have hj4 : j2 = (some r) → ∀ (H : Heap) (locs : List Loc), gWd G LM ad (gA LM ad) s.heap I J H locs → ∀ (ls : Array Slot), lv_has ls 8 [] → W p l e (gRm 3) s m args below meth c H locs 0 0 Q (F0 m 17 ls []) := by
    intro h H locs hW ls hl
    replace h := jn0 e3 h
    refine lv_sipush (v := (-1000 : Int32)) hx hb dX7_best_17 (by decide) ?_
    obtain a1 := so1 h
    exact g_nmi a1 (hfin _ _ _ _ hW dX7_best_20)
  refine lv_if_eq (tgt := 17) hx hb dX7_best_5 (by decide) (fun c5 => ?_) (fun c5 => ?_)
  · replace h := gi_t h c5
    exact hj4 h _ _ hW _ (lv_sub hl [] rfl)
  · replace h := gi_f h c5
    refine lv_iload_n hx hb dX7_best_8 rfl (lv_at hl 3 rfl) ?_
    refine lv_iconst (v := (0 : Int32)) hx hb dX7_best_9 (by decide) ?_
    refine lv_iconst (v := (2 : Int32)) hx hb dX7_best_10 (by decide) ?_
    refine g_callSi (rest := []) K hW hl (kX7_isIn (l := l) (G := G) (ad := ad) hok x3 (0 : Int32) (2 : Int32) I J (fX7_isIn x3 (0 : Int32) (2 : Int32)) rfl) q_1171 q_1172 q_139 q_1173 nm_X7_isIn ⟨Nat.le_of_ble_eq_true rfl, Nat.le_of_ble_eq_true rfl⟩ rfl rfl (Nat.le_of_ble_eq_true rfl) ⟨Nat.zero_le _, Nat.zero_le _⟩ dX7_best_11 (fun z6 H locs hW => ?_)
    refine lv_if_ne (tgt := 21) hx hb dX7_best_14 (by decide) (fun c7 => ?_) (fun c7 => ?_)
    · replace h := gi_f h c7
      refine lv_iload_n hx hb dX7_best_21 rfl (lv_at hl 1 rfl) ?_
      refine lv_istore (lv' := [(4, .int x1), (0, .ref (ad 0)), (1, .int x1), (2, .int x2), (3, .int x3)]) hx hb dX7_best_22 hl (by decide) rfl (fun ls hl => ?_)
      refine lv_iload_n hx hb dX7_best_24 rfl (lv_at hl 2 rfl) ?_
      refine lv_istore (lv' := [(5, .int x1), (4, .int x1), (0, .ref (ad 0)), (1, .int x1), (2, .int x2), (3, .int x3)]) hx hb dX7_best_25 hl (by decide) rfl (fun ls hl => ?_)
      refine lv_iload_n hx hb dX7_best_27 rfl (lv_at hl 3 rfl) ?_
      refine lv_istore (lv' := [(6, .int x1), (5, .int x1), (4, .int x1), (0, .ref (ad 0)), (1, .int x1), (2, .int x2), (3, .int x3)]) hx hb dX7_best_28 hl (by decide) rfl (fun ls hl => ?_)
      obtain ⟨r46, e47, h⟩ := bd_o h hn
      refine tX7_best_30 hok K FU x2 x3 x1 x1 x1 I J (some r46) e47 (Option.some_ne_none _) _ _ hW _ (lv_sub hl [3, 5, 6, 2, 1, 0] rfl) ?_
      · intro u48 u49 q50 H locs hW ls hl
        replace q50 := Option.some.inj q50
        subst q50
        replace h := pr_o h
        refine lv_iload_n hx hb dX7_best_88 rfl (lv_at hl 1 rfl) ?_
        refine lv_if_ne (tgt := 103) hx hb dX7_best_89 (by decide) (fun c51 => ?_) (fun c51 => ?_)
        · replace h := gi_f h c51
          refine lv_iload_n hx hb dX7_best_103 rfl (lv_at hl 1 rfl) ?_
          refine lv_iconst (v := (1 : Int32)) hx hb dX7_best_104 (by decide) ?_
          refine lv_icmp_ne (tgt := 113) hx hb dX7_best_105 (by decide) (fun c52 => ?_) (fun c52 => ?_)
          · replace h := gi_f h c52
            refine lv_iload hx hb dX7_best_113 (lv_at hl 3 rfl) ?_
            obtain a1 := so1 h
            exact g_nmi a1 (hfin _ _ _ _ hW dX7_best_115)
          · replace h := gi_t h c52
            refine lv_iload hx hb dX7_best_108 (lv_at hl 2 rfl) ?_
            refine lv_goto (tgt := 115) hx hb dX7_best_110 (by decide) ?_
            obtain a1 := so1 h
            exact g_nmi a1 (hfin _ _ _ _ hW dX7_best_115)
        · replace h := gi_t h c51
          refine lv_aload_n hx hb dX7_best_92 rfl (lv_at hl 0 rfl) ?_
          refine lv_iload hx hb dX7_best_93 (lv_at hl 2 rfl) ?_
          refine lv_iload hx hb dX7_best_95 (lv_at hl 3 rfl) ?_
          obtain ⟨u53, e54, h⟩ := bd_o h hn
          refine g_callVi (rest := []) K hW hl (kX7_runOf (l := l) (G := G) (ad := ad) hok u48 u49 I J u53 e54) kLM_0 rfl (gG_V q_1769 q_1771 q_131 q_139 q_1772) nm_X7_runOf ⟨Nat.le_of_ble_eq_true rfl, Nat.le_of_ble_eq_true rfl⟩ rfl rfl (Nat.le_of_ble_eq_true rfl) ⟨Nat.zero_le _, Nat.zero_le _⟩ dX7_best_97 (fun z55 H locs hW => ?_)
          refine lv_goto (tgt := 115) hx hb dX7_best_100 (by decide) ?_
          obtain a1 := so1 h
          exact g_nmi a1 (hfin _ _ _ _ hW dX7_best_115)
    · replace h := gi_t h c7
      exact hj4 h _ _ hW _ (lv_sub hl [] rfl)
theorem in_5_1592 : vp_in (5 : Int32) 1592 := in_c (by decide +kernel) (by decide +kernel)
noncomputable def fX7_said  (x1 : Int32) (x2 : Int32) (I : gI) : Option (Int32 × gI) :=
  gi (x1 = (-1 : Int32))
 (lz (wI I 1 5 (0 : Int32)) (fun (I16 : gI) => some ((0 : Int32), I16)))
 (gi ((fX7_isBuyer x1 I) = 0)
 (some ((-2 : Int32), I))
 (gi ((fX7_isIn x2 (0 : Int32) (99 : Int32)) = 0)
 (some ((-2 : Int32), I))
 (gi ((I 1 5) = (8 : Int32))
 (some ((-2 : Int32), I))
 (gd (vp_in ((81 : Int32) + ((2 : Int32) * (I 1 5))) 1592) (lz (wI I 1 (((81 : Int32) + ((2 : Int32) * (I 1 5)))).toNatClampNeg x1) (fun (I9 : gI) => gd (vp_in (((81 : Int32) + ((2 : Int32) * (I9 1 5))) + (1 : Int32)) 1592) (lz (wI I9 1 ((((81 : Int32) + ((2 : Int32) * (I9 1 5))) + (1 : Int32))).toNatClampNeg x2) (fun (I12 : gI) => lz (wI I12 1 5 ((I12 1 5) + (1 : Int32))) (fun (I14 : gI) => some ((I14 1 5), I14))))))))))
set_option maxHeartbeats 4000000 in
set_option maxRecDepth 100000 in
theorem kX7_said {l : Launch} {G : gG} {ad : Nat → Nat} (hok : gInj LM ad)    (x1 : Int32) (x2 : Int32) (I : gI) (J : gJ) (r : Int32) (I' : gI) (h : fX7_said x1 x2 I = some (r, I')) : gMi l yX7_said cX7_said 3 (some .int) 3 G LM ad [.ref (ad 0), .int x1, .int x2] I J r True I' J := by
  refine gMi_of (lst := [(0, .ref (ad 0)), (1, .int x1), (2, .int x2)]) (by decide) hok (Nat.le_of_ble_eq_true rfl) rfl ?_
  intro p e s m args below meth c Q ls K hW hl hfin
  have hn : (some (r, I') : Option (Int32 × gI)) ≠ none := Option.some_ne_none _
  have hx := K.1; have hb := K.2.1; have hown := K.2.2.2.1; have hts := K.2.2.2.2.1
  unfold fX7_said at h
  refine lv_iload_n hx hb dX7_said_0 rfl (lv_at hl 1 rfl) ?_
  refine lv_iconst (v := (-1 : Int32)) hx hb dX7_said_1 (by decide) ?_
  refine lv_icmp_ne (tgt := 14) hx hb dX7_said_2 (by decide) (fun c1 => ?_) (fun c1 => ?_)
  · replace h := gi_f h c1
    refine lv_aload_n hx hb dX7_said_14 rfl (lv_at hl 0 rfl) ?_
    refine lv_iload_n hx hb dX7_said_15 rfl (lv_at hl 1 rfl) ?_
    refine g_callVi (rest := []) K hW hl (kX7_isBuyer (l := l) (G := G) (ad := ad) hok x1 I J (fX7_isBuyer x1 I) rfl) kLM_0 rfl (gG_V q_1350 q_1352 q_80 q_139 q_1353) nm_X7_isBuyer ⟨Nat.le_of_ble_eq_true rfl, Nat.le_of_ble_eq_true rfl⟩ rfl rfl (Nat.le_of_ble_eq_true rfl) ⟨Nat.zero_le _, Nat.zero_le _⟩ dX7_said_16 (fun z2 H locs hW => ?_)
    refine lv_if_eq (tgt := 43) hx hb dX7_said_19 (by decide) (fun c3 => ?_) (fun c3 => ?_)
    · replace h := gi_t h c3
      refine lv_bipush (v := (-2 : Int32)) hx hb dX7_said_43 (by decide) ?_
      obtain ⟨a1, a2⟩ := so2 h
      replace hW := gWd_nI a2 hW
      exact g_nmi a1 (hfin _ _ _ _ hW dX7_said_45)
    · replace h := gi_f h c3
      refine lv_iload_n hx hb dX7_said_22 rfl (lv_at hl 2 rfl) ?_
      refine lv_iconst (v := (0 : Int32)) hx hb dX7_said_23 (by decide) ?_
      refine lv_bipush (v := (99 : Int32)) hx hb dX7_said_24 (by decide) ?_
      refine g_callSi (rest := []) K hW hl (kX7_isIn (l := l) (G := G) (ad := ad) hok x2 (0 : Int32) (99 : Int32) I J (fX7_isIn x2 (0 : Int32) (99 : Int32)) rfl) q_1171 q_1172 q_139 q_1173 nm_X7_isIn ⟨Nat.le_of_ble_eq_true rfl, Nat.le_of_ble_eq_true rfl⟩ rfl rfl (Nat.le_of_ble_eq_true rfl) ⟨Nat.zero_le _, Nat.zero_le _⟩ dX7_said_26 (fun z4 H locs hW => ?_)
      refine lv_if_eq (tgt := 43) hx hb dX7_said_29 (by decide) (fun c5 => ?_) (fun c5 => ?_)
      · replace h := gi_t h c5
        refine lv_bipush (v := (-2 : Int32)) hx hb dX7_said_43 (by decide) ?_
        obtain ⟨a1, a2⟩ := so2 h
        replace hW := gWd_nI a2 hW
        exact g_nmi a1 (hfin _ _ _ _ hW dX7_said_45)
      · replace h := gi_f h c5
        refine lv_aload_n hx hb dX7_said_32 rfl (lv_at hl 0 rfl) ?_
        refine g_get K hW (t := 2) (ci := 6) (k := 0) (v := .ref (ad 1)) kLM_0 rfl rfl i_X7 (by decide) q_1077 rfl (gfv2 rLM_0_0) dX7_said_33 ?_
        refine lv_iconst (v := (5 : Int32)) hx hb dX7_said_36 (by decide) ?_
        refine g_iald K hW kLM_1 in_5_1592 tn_5 dX7_said_37 ?_
        refine lv_bipush (v := (8 : Int32)) hx hb dX7_said_38 (by decide) ?_
        refine lv_icmp_ne (tgt := 46) hx hb dX7_said_40 (by decide) (fun c6 => ?_) (fun c6 => ?_)
        · replace h := gi_f h c6
          refine lv_aload_n hx hb dX7_said_46 rfl (lv_at hl 0 rfl) ?_
          refine g_get K hW (t := 2) (ci := 6) (k := 0) (v := .ref (ad 1)) kLM_0 rfl rfl i_X7 (by decide) q_1077 rfl (gfv2 rLM_0_0) dX7_said_47 ?_
          refine lv_bipush (v := (81 : Int32)) hx hb dX7_said_50 (by decide) ?_
          refine lv_iconst (v := (2 : Int32)) hx hb dX7_said_52 (by decide) ?_
          refine lv_aload_n hx hb dX7_said_53 rfl (lv_at hl 0 rfl) ?_
          refine g_get K hW (t := 2) (ci := 6) (k := 0) (v := .ref (ad 1)) kLM_0 rfl rfl i_X7 (by decide) q_1077 rfl (gfv2 rLM_0_0) dX7_said_54 ?_
          refine lv_iconst (v := (5 : Int32)) hx hb dX7_said_57 (by decide) ?_
          refine g_iald K hW kLM_1 in_5_1592 tn_5 dX7_said_58 ?_
          refine lv_imul hx hb dX7_said_59 ?_
          refine lv_iadd hx hb dX7_said_60 ?_
          refine lv_iload_n hx hb dX7_said_61 rfl (lv_at hl 1 rfl) ?_
          obtain ⟨g7, h⟩ := gd_o h hn
          refine g_iast K hW kLM_1 g7 rfl dX7_said_62 (fun H locs hW => ?_)
          obtain ⟨I9, e8, h⟩ := lz_o h
          replace hW := gWd_nI e8 hW
          refine lv_aload_n hx hb dX7_said_63 rfl (lv_at hl 0 rfl) ?_
          refine g_get K hW (t := 2) (ci := 6) (k := 0) (v := .ref (ad 1)) kLM_0 rfl rfl i_X7 (by decide) q_1077 rfl (gfv2 rLM_0_0) dX7_said_64 ?_
          refine lv_bipush (v := (81 : Int32)) hx hb dX7_said_67 (by decide) ?_
          refine lv_iconst (v := (2 : Int32)) hx hb dX7_said_69 (by decide) ?_
          refine lv_aload_n hx hb dX7_said_70 rfl (lv_at hl 0 rfl) ?_
          refine g_get K hW (t := 2) (ci := 6) (k := 0) (v := .ref (ad 1)) kLM_0 rfl rfl i_X7 (by decide) q_1077 rfl (gfv2 rLM_0_0) dX7_said_71 ?_
          refine lv_iconst (v := (5 : Int32)) hx hb dX7_said_74 (by decide) ?_
          refine g_iald K hW kLM_1 in_5_1592 tn_5 dX7_said_75 ?_
          refine lv_imul hx hb dX7_said_76 ?_
          refine lv_iadd hx hb dX7_said_77 ?_
          refine lv_iconst (v := (1 : Int32)) hx hb dX7_said_78 (by decide) ?_
          refine lv_iadd hx hb dX7_said_79 ?_
          refine lv_iload_n hx hb dX7_said_80 rfl (lv_at hl 2 rfl) ?_
          obtain ⟨g10, h⟩ := gd_o h hn
          refine g_iast K hW kLM_1 g10 rfl dX7_said_81 (fun H locs hW => ?_)
          obtain ⟨I12, e11, h⟩ := lz_o h
          replace hW := gWd_nI e11 hW
          refine lv_aload_n hx hb dX7_said_82 rfl (lv_at hl 0 rfl) ?_
          refine g_get K hW (t := 2) (ci := 6) (k := 0) (v := .ref (ad 1)) kLM_0 rfl rfl i_X7 (by decide) q_1077 rfl (gfv2 rLM_0_0) dX7_said_83 ?_
          refine lv_iconst (v := (5 : Int32)) hx hb dX7_said_86 (by decide) ?_
          refine lv_dup2_11 hx hb dX7_said_87 rfl rfl ?_
          refine g_iald K hW kLM_1 in_5_1592 tn_5 dX7_said_88 ?_
          refine lv_iconst (v := (1 : Int32)) hx hb dX7_said_89 (by decide) ?_
          refine lv_iadd hx hb dX7_said_90 ?_
          refine g_iast K hW kLM_1 in_5_1592 tn_5 dX7_said_91 (fun H locs hW => ?_)
          obtain ⟨I14, e13, h⟩ := lz_o h
          replace hW := gWd_nI e13 hW
          refine lv_aload_n hx hb dX7_said_92 rfl (lv_at hl 0 rfl) ?_
          refine g_get K hW (t := 2) (ci := 6) (k := 0) (v := .ref (ad 1)) kLM_0 rfl rfl i_X7 (by decide) q_1077 rfl (gfv2 rLM_0_0) dX7_said_93 ?_
          refine lv_iconst (v := (5 : Int32)) hx hb dX7_said_96 (by decide) ?_
          refine g_iald K hW kLM_1 in_5_1592 tn_5 dX7_said_97 ?_
          obtain ⟨a1, a2⟩ := so2 h
          replace hW := gWd_nI a2 hW
          exact g_nmi a1 (hfin _ _ _ _ hW dX7_said_98)
        · replace h := gi_t h c6
          refine lv_bipush (v := (-2 : Int32)) hx hb dX7_said_43 (by decide) ?_
          obtain ⟨a1, a2⟩ := so2 h
          replace hW := gWd_nI a2 hW
          exact g_nmi a1 (hfin _ _ _ _ hW dX7_said_45)
  · replace h := gi_t h c1
    refine lv_aload_n hx hb dX7_said_5 rfl (lv_at hl 0 rfl) ?_
    refine g_get K hW (t := 2) (ci := 6) (k := 0) (v := .ref (ad 1)) kLM_0 rfl rfl i_X7 (by decide) q_1077 rfl (gfv2 rLM_0_0) dX7_said_6 ?_
    refine lv_iconst (v := (5 : Int32)) hx hb dX7_said_9 (by decide) ?_
    refine lv_iconst (v := (0 : Int32)) hx hb dX7_said_10 (by decide) ?_
    refine g_iast K hW kLM_1 in_5_1592 tn_5 dX7_said_11 (fun H locs hW => ?_)
    obtain ⟨I16, e15, h⟩ := lz_o h
    replace hW := gWd_nI e15 hW
    refine lv_iconst (v := (0 : Int32)) hx hb dX7_said_12 (by decide) ?_
    obtain ⟨a1, a2⟩ := so2 h
    replace hW := gWd_nI a2 hW
    exact g_nmi a1 (hfin _ _ _ _ hW dX7_said_13)
