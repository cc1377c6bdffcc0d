-- 13.c06: the class: X6.fitTogether X6.bestSet X6.pack X6.see X6.allLikelihood X6.likelihood X6.lowest X6.month X6.hoped X6.hope X6.keep X6.chance X6.first X6.was X6.likeliest X6.likelihoodOf X6.surest
noncomputable def fX6_fitTogether_5b  (rec : Int32 → Int32 → Int32 → Int32 → gI → Option ((Unit) ⊕ (Unit))) (u1 : Int32) (u2 : Int32) (u3 : Int32) (u4 : Int32) (I : gI) : Option ((Unit) ⊕ (Unit)) :=
  gi ((I 1 12) ≤ u4)
 (some (Sum.inr ()))
 (lz (fun (u6 : Int32) => lz ((u4 + (1 : Int32))) (fun (u10 : Int32) => rec u1 u2 u6 u10 I)) (fun j7 => gi (((jshr u1 u4) &&& (1 : Int32)) = (1 : Int32))
 (bd (fX0_slicesOf u4 I) (fun (u13 : Int32) => bd (fX6_wantsSort u4 u2 I) (fun (u16 : Int32) => gi (u16 = 0)
 (some (Sum.inl ()))
 (gi ((u3 &&& u13) = 0)
 (lz ((u3 ||| u13)) (fun (u21 : Int32) => j7 u21))
 (some (Sum.inl ()))))))
 (j7 u3)))
noncomputable def fX6_fitTogether_5  : Nat → Int32 → Int32 → Int32 → Int32 → gI → Option ((Unit) ⊕ (Unit))
  | 0 => fun _ _ _ _ _ => none
  | n + 1 => fX6_fitTogether_5b  (fX6_fitTogether_5  n)
set_option maxHeartbeats 4000000 in
set_option maxRecDepth 100000 in
theorem tX6_fitTogether_5 {l : Launch} {G : gG} {ad : Nat → Nat} {p : Program} {e : Env} {s : State} {m : MethodId} {args : Array Value} {below : List Frame} {meth : Method} {c : Code} {Q : State → Prop} (hok : gInj LC ad) (K : gCx G (gA LC ad) p s m args c cX6_fitTogether 6 RX6)  : ∀ (n : Nat) (u1 : Int32) (u2 : Int32) (u3 : Int32) (u4 : Int32) (I : gI) (J : gJ) (out : Option ((Unit) ⊕ (Unit))), fX6_fitTogether_5  n u1 u2 u3 u4 I = out → out ≠ none → ∀ (H : Heap) (locs : List Loc), gWd G LC ad (gA LC ad) s.heap I J H locs → ∀ (ls : Array Slot), lv_has ls 6 [(0, .ref (ad 0)), (1, .int u1), (2, .int u2), (3, .int u3), (4, .int u4)] → (some (Sum.inl ()) = out → ∀ (H : Heap) (locs : List Loc), gWd G LC ad (gA LC ad) s.heap I J H locs → ∀ (ls : Array Slot), lv_has ls 6 [] → W p l e (gRm 2) s m args below meth c H locs 0 0 Q (F0 m 55 ls [])) → (some (Sum.inr ()) = out → ∀ (H : Heap) (locs : List Loc), gWd G LC ad (gA LC ad) s.heap I J H locs → ∀ (ls : Array Slot), lv_has ls 6 [] → W p l e (gRm 2) s m args below meth c H locs 0 0 Q (F0 m 68 ls [])) → W p l e (gRm 2) s m args below meth c H locs 0 0 Q (F0 m 5 ls []) := by
  have hx := K.1; have hb := K.2.1; have hown := K.2.2.2.1; have hts := K.2.2.2.2.1
  intro n
  induction n with
  | zero => intro u1 u2 u3 u4 I J out h hn; exact absurd h.symm hn
  | succ n ih =>
    intro u1 u2 u3 u4 I J out h hn H locs hW ls hl hx1 hx2
    replace h : fX6_fitTogether_5b  (fX6_fitTogether_5  n) u1 u2 u3 u4 I = out := h
    unfold fX6_fitTogether_5b at h
    refine lv_iload hx hb dX6_fitTogether_5 (lv_at hl 4 rfl) ?_
    refine lv_aload_n hx hb dX6_fitTogether_7 rfl (lv_at hl 0 rfl) ?_
    refine g_get K hW (t := 2) (ci := 5) (k := 0) (v := .ref (ad 1)) kLC_0 rfl rfl i_X6 (by decide) q_393 rfl (gfv2 rLC_0_0) dX6_fitTogether_8 ?_
    refine g_get K hW (t := 0) (ci := 0) (k := 12) (v := .int (I 1 12)) kLC_1 rfl rfl i_X0 (by decide) q_238 rfl rfl dX6_fitTogether_11 ?_
    refine lv_icmp_ge (tgt := 68) hx hb dX6_fitTogether_14 (by decide) (fun c5 => ?_) (fun c5 => ?_)
    · replace h := gi_t h c5
      exact hx2 h _ _ hW _ (lv_sub hl [] rfl)
    · replace h := gi_f h c5
      refine lv_iload_n hx hb dX6_fitTogether_17 rfl (lv_at hl 1 rfl) ?_
      refine lv_iload hx hb dX6_fitTogether_18 (lv_at hl 4 rfl) ?_
      refine g_ishr hx hb dX6_fitTogether_20 ?_
      refine lv_iconst (v := (1 : Int32)) hx hb dX6_fitTogether_21 (by decide) ?_
      refine lv_iand hx hb dX6_fitTogether_22 ?_
      refine lv_iconst (v := (1 : Int32)) hx hb dX6_fitTogether_23 (by decide) ?_
      obtain ⟨j7, e8, h⟩ := lz_o h
      have hj9 : ∀ (u6 : Int32), j7 u6 = out → ∀ (H : Heap) (locs : List Loc), gWd G LC ad (gA LC ad) s.heap I J H locs → ∀ (ls : Array Slot), lv_has ls 6 [(0, .ref (ad 0)), (1, .int u1), (2, .int u2), (3, .int u6), (4, .int u4)] → W p l e (gRm 2) s m args below meth c H locs 0 0 Q (F0 m 62 ls []) := by
        intro u6 h H locs hW ls hl
        replace h := jn1 e8 h
        obtain ⟨u10, e11, h⟩ := lz_o h
        refine lv_iinc (v := u10) (lv' := [(4, .int u10), (0, .ref (ad 0)), (1, .int u1), (2, .int u2), (3, .int u6)]) hx hb dX6_fitTogether_62 hl (k := 4) rfl (by rw [e11]; rfl) (by decide) rfl (fun ls hl => ?_)
        refine lv_goto (tgt := 5) hx hb dX6_fitTogether_65 (by decide) ?_
        exact ih u1 u2 u6 u10 I J _ h hn _ _ hW _ (lv_sub hl [1, 2, 3, 4, 0] rfl) hx1 hx2
      refine lv_icmp_ne (tgt := 62) hx hb dX6_fitTogether_24 (by decide) (fun c12 => ?_) (fun c12 => ?_)
      · replace h := gi_f h c12
        exact hj9 u3 h _ _ hW _ (lv_sub hl [0, 1, 2, 3, 4] rfl)
      · replace h := gi_t h c12
        refine lv_aload_n hx hb dX6_fitTogether_27 rfl (lv_at hl 0 rfl) ?_
        refine g_get K hW (t := 2) (ci := 5) (k := 0) (v := .ref (ad 1)) kLC_0 rfl rfl i_X6 (by decide) q_393 rfl (gfv2 rLC_0_0) dX6_fitTogether_28 ?_
        refine lv_iload hx hb dX6_fitTogether_31 (lv_at hl 4 rfl) ?_
        obtain ⟨u13, e14, h⟩ := bd_o h hn
        refine g_callVi (rest := []) K hW hl (kX0_slicesOf (l := l) (G := G) (ad := ad) hok u4 I J u13 e14) kLC_1 rfl (gG_V q_684 q_685 q_686 q_134 q_687) nm_X0_slicesOf ⟨Nat.le_of_ble_eq_true rfl, Nat.le_of_ble_eq_true rfl⟩ rfl rfl (Nat.le_of_ble_eq_true rfl) ⟨Nat.zero_le _, Nat.zero_le _⟩ dX6_fitTogether_33 (fun z15 H locs hW => ?_)
        refine lv_istore (lv' := [(5, .int u13), (0, .ref (ad 0)), (1, .int u1), (2, .int u2), (3, .int u3), (4, .int u4)]) hx hb dX6_fitTogether_36 hl (by decide) rfl (fun ls hl => ?_)
        refine lv_aload_n hx hb dX6_fitTogether_38 rfl (lv_at hl 1 rfl) ?_
        refine lv_iload hx hb dX6_fitTogether_39 (lv_at hl 5 rfl) ?_
        refine lv_iload_n hx hb dX6_fitTogether_41 rfl (lv_at hl 3 rfl) ?_
        obtain ⟨u16, e17, h⟩ := bd_o h hn
        refine g_callVi (rest := []) K hW hl (kX6_wantsSort (l := l) (G := G) (ad := ad) hok u4 u2 I J u16 e17) kLC_0 rfl (gG_V q_680 q_682 q_25 q_133 q_683) nm_X6_wantsSort ⟨Nat.le_of_ble_eq_true rfl, Nat.le_of_ble_eq_true rfl⟩ rfl rfl (Nat.le_of_ble_eq_true rfl) ⟨Nat.zero_le _, Nat.zero_le _⟩ dX6_fitTogether_42 (fun z18 H locs hW => ?_)
        refine lv_if_eq (tgt := 55) hx hb dX6_fitTogether_45 (by decide) (fun c19 => ?_) (fun c19 => ?_)
        · replace h := gi_t h c19
          exact hx1 h _ _ hW _ (lv_sub hl [] rfl)
        · replace h := gi_f h c19
          refine lv_iload_n hx hb dX6_fitTogether_48 rfl (lv_at hl 4 rfl) ?_
          refine lv_iload hx hb dX6_fitTogether_49 (lv_at hl 0 rfl) ?_
          refine lv_iand hx hb dX6_fitTogether_51 ?_
          refine lv_if_eq (tgt := 57) hx hb dX6_fitTogether_52 (by decide) (fun c20 => ?_) (fun c20 => ?_)
          · replace h := gi_t h c20
            refine lv_iload_n hx hb dX6_fitTogether_57 rfl (lv_at hl 4 rfl) ?_
            refine lv_iload hx hb dX6_fitTogether_58 (lv_at hl 0 rfl) ?_
            refine lv_ior hx hb dX6_fitTogether_60 ?_
            obtain ⟨u21, e22, h⟩ := lz_o h
            refine g_nmi e22 ?_
            refine lv_istore_n (lv' := [(3, .int u21), (5, .int u13), (0, .ref (ad 0)), (1, .int u1), (2, .int u2), (4, .int u4)]) hx hb dX6_fitTogether_61 rfl hl (by decide) rfl (fun ls hl => ?_)
            exact hj9 u21 h _ _ hW _ (lv_sub hl [2, 3, 4, 0, 5] rfl)
          · replace h := gi_f h c20
            exact hx1 h _ _ hW _ (lv_sub hl [] rfl)
noncomputable def fX6_fitTogether  (x1 : Int32) (x2 : Int32) (I : gI) : Option (Int32) :=
  bd (fX6_fitTogether_5 FU x1 x2 (0 : Int32) (0 : Int32) I) (sm (fun _ => some (0 : Int32)) (fun _ => some (1 : Int32)))
set_option maxHeartbeats 4000000 in
set_option maxRecDepth 100000 in
theorem kX6_fitTogether {l : Launch} {G : gG} {ad : Nat → Nat} (hok : gInj LC ad)    (x1 : Int32) (x2 : Int32) (I : gI) (J : gJ) (r : Int32) (h : fX6_fitTogether x1 x2 I = some r) : gMi l yX6_fitTogether cX6_fitTogether 6 (some .boolean) 2 G LC ad [.ref (ad 0), .int x1, .int x2] I J r (r = 0 ∨ r = 1) I J := by
  refine gMz_of (lst := [(0, .ref (ad 0)), (1, .int x1), (2, .int x2)]) (by decide) hok (Nat.le_of_ble_eq_true rfl) rfl ?_
  intro p e s m args below meth c Q ls K hW hl hfin
  have hn : (some r : Option (Int32)) ≠ none := Option.some_ne_none _
  have hx := K.1; have hb := K.2.1; have hown := K.2.2.2.1; have hts := K.2.2.2.2.1
  unfold fX6_fitTogether at h
  refine lv_iconst (v := (0 : Int32)) hx hb dX6_fitTogether_0 (by decide) ?_
  refine lv_istore_n (lv' := [(3, .int (0 : Int32)), (0, .ref (ad 0)), (1, .int x1), (2, .int x2)]) hx hb dX6_fitTogether_1 rfl hl (by decide) rfl (fun ls hl => ?_)
  refine lv_iconst (v := (0 : Int32)) hx hb dX6_fitTogether_2 (by decide) ?_
  refine lv_istore (lv' := [(4, .int (0 : Int32)), (3, .int (0 : Int32)), (0, .ref (ad 0)), (1, .int x1), (2, .int x2)]) hx hb dX6_fitTogether_3 hl (by decide) rfl (fun ls hl => ?_)
  obtain ⟨r23, e24, h⟩ := bd_o h hn
  refine tX6_fitTogether_5 hok K FU x1 x2 (0 : Int32) (0 : Int32) I J (some r23) e24 (Option.some_ne_none _) _ _ hW _ (lv_sub hl [2, 3, 4, 1, 0] rfl) ?_ ?_
  · intro q25 H locs hW ls hl
    replace q25 := Option.some.inj q25
    subst q25
    replace h := sm_l h
    refine lv_iconst (v := (0 : Int32)) hx hb dX6_fitTogether_55 (by decide) ?_
    obtain a1 := so1 h
    exact g_nmi a1 (hfin _ _ _ _ (a1 ▸ (Or.inl rfl)) hW dX6_fitTogether_56)
  · intro q26 H locs hW ls hl
    replace q26 := Option.some.inj q26
    subst q26
    replace h := sm_r h
    refine lv_iconst (v := (1 : Int32)) hx hb dX6_fitTogether_68 (by decide) ?_
    obtain a1 := so1 h
    exact g_nmi a1 (hfin _ _ _ _ (a1 ▸ (Or.inr rfl)) hW dX6_fitTogether_69)
theorem nm_X6_fitTogether : gNm yX6_fitTogether 2 := by decide +kernel
theorem nm_X6_bidTogether : gNm yX6_bidTogether 1 := by decide +kernel
noncomputable def fX6_bestSet_2b  (rec : Int32 → Int32 → Int32 → gI → Option ((gI))) (u1 : Int32) (u2 : Int32) (u3 : Int32) (I : gI) : Option ((gI)) :=
  gi ((I 1 12) ≤ u3)
 (some I)
 (bd (fX6_bidsBy (I 1 14) u3 u2 I) (pr (fun (u6 : Int32) (I7 : gI) => gd (vp_in u3 6) (lz (wI I7 293 (u3).toNatClampNeg u6) (fun (I12 : gI) => lz ((u3 + (1 : Int32))) (fun (u13 : Int32) => rec u1 u2 u13 I12))))))
noncomputable def fX6_bestSet_2  : Nat → Int32 → Int32 → Int32 → gI → Option ((gI))
  | 0 => fun _ _ _ _ => none
  | n + 1 => fX6_bestSet_2b  (fX6_bestSet_2  n)
set_option maxHeartbeats 4000000 in
set_option maxRecDepth 100000 in
theorem tX6_bestSet_2 {l : Launch} {G : gG} {ad : Nat → Nat} {p : Program} {e : Env} {s : State} {m : MethodId} {args : Array Value} {below : List Frame} {meth : Method} {c : Code} {Q : State → Prop} (hok : gInj LC ad) (K : gCx G (gA LC ad) p s m args c cX6_bestSet 7 RX6)  : ∀ (n : Nat) (u1 : Int32) (u2 : Int32) (u3 : Int32) (I : gI) (J : gJ) (out : Option ((gI))), fX6_bestSet_2  n u1 u2 u3 I = out → out ≠ none → ∀ (H : Heap) (locs : List Loc), gWd G LC ad (gA LC ad) s.heap I J H locs → ∀ (ls : Array Slot), lv_has ls 7 [(0, .ref (ad 0)), (1, .int u1), (2, .int u2), (3, .int u3)] → (∀ (I4 : gI), some I4 = out → ∀ (H : Heap) (locs : List Loc), gWd G LC ad (gA LC ad) s.heap I4 J H locs → ∀ (ls : Array Slot), lv_has ls 7 [(0, .ref (ad 0)), (1, .int u1), (2, .int u2)] → W p l e (gRm 5) s m args below meth c H locs 0 0 Q (F0 m 38 ls [])) → W p l e (gRm 5) s m args below meth c H locs 0 0 Q (F0 m 2 ls []) := by
  have hx := K.1; have hb := K.2.1; have hown := K.2.2.2.1; have hts := K.2.2.2.2.1
  intro n
  induction n with
  | zero => intro u1 u2 u3 I J out h hn; exact absurd h.symm hn
  | succ n ih =>
    intro u1 u2 u3 I J out h hn H locs hW ls hl hx1
    replace h : fX6_bestSet_2b  (fX6_bestSet_2  n) u1 u2 u3 I = out := h
    unfold fX6_bestSet_2b at h
    refine lv_iload_n hx hb dX6_bestSet_2 rfl (lv_at hl 3 rfl) ?_
    refine lv_aload_n hx hb dX6_bestSet_3 rfl (lv_at hl 0 rfl) ?_
    refine g_get K hW (t := 2) (ci := 5) (k := 0) (v := .ref (ad 1)) kLC_0 rfl rfl i_X6 (by decide) q_393 rfl (gfv2 rLC_0_0) dX6_bestSet_4 ?_
    refine g_get K hW (t := 0) (ci := 0) (k := 12) (v := .int (I 1 12)) kLC_1 rfl rfl i_X0 (by decide) q_238 rfl rfl dX6_bestSet_7 ?_
    refine lv_icmp_ge (tgt := 38) hx hb dX6_bestSet_10 (by decide) (fun c5 => ?_) (fun c5 => ?_)
    · replace h := gi_t h c5
      exact hx1 I h _ _ hW _ (lv_sub hl [0, 1, 2] rfl)
    · replace h := gi_f h c5
      refine lv_aload_n hx hb dX6_bestSet_13 rfl (lv_at hl 0 rfl) ?_
      refine g_get K hW (t := 2) (ci := 5) (k := 7) (v := .ref (ad 293)) kLC_0 rfl rfl i_X6 (by decide) q_400 rfl (gfv2 rLC_0_7) dX6_bestSet_14 ?_
      refine lv_iload_n hx hb dX6_bestSet_17 rfl (lv_at hl 3 rfl) ?_
      refine lv_aload_n hx hb dX6_bestSet_18 rfl (lv_at hl 0 rfl) ?_
      refine lv_aload_n hx hb dX6_bestSet_19 rfl (lv_at hl 0 rfl) ?_
      refine g_get K hW (t := 2) (ci := 5) (k := 0) (v := .ref (ad 1)) kLC_0 rfl rfl i_X6 (by decide) q_393 rfl (gfv2 rLC_0_0) dX6_bestSet_20 ?_
      refine g_get K hW (t := 0) (ci := 0) (k := 14) (v := .int (I 1 14)) kLC_1 rfl rfl i_X0 (by decide) q_243 rfl rfl dX6_bestSet_23 ?_
      refine lv_iload_n hx hb dX6_bestSet_26 rfl (lv_at hl 3 rfl) ?_
      refine lv_iload_n hx hb dX6_bestSet_27 rfl (lv_at hl 2 rfl) ?_
      obtain ⟨⟨u6, I7⟩, e8, h⟩ := bd_o h hn
      replace h := pr_o h
      refine g_callVi (rest := [.int u3, .ref (ad 293)]) K hW hl (kX6_bidsBy (l := l) (G := G) (ad := ad) hok (I 1 14) u3 u2 I J u6 I7 e8) kLC_0 rfl (gG_V q_688 q_690 q_26 q_133 q_691) nm_X6_bidsBy ⟨Nat.le_of_ble_eq_true rfl, Nat.le_of_ble_eq_true rfl⟩ rfl rfl (Nat.le_of_ble_eq_true rfl) ⟨Nat.zero_le _, Nat.zero_le _⟩ dX6_bestSet_28 (fun z9 H locs hW => ?_)
      obtain ⟨g10, h⟩ := gd_o h hn
      refine g_iast K hW kLC_293 g10 rfl dX6_bestSet_31 (fun H locs hW => ?_)
      obtain ⟨I12, e11, h⟩ := lz_o h
      replace hW := gWd_nI e11 hW
      obtain ⟨u13, e14, h⟩ := lz_o h
      refine lv_iinc (v := u13) (lv' := [(3, .int u13), (0, .ref (ad 0)), (1, .int u1), (2, .int u2)]) hx hb dX6_bestSet_32 hl (k := 3) rfl (by rw [e14]; rfl) (by decide) rfl (fun ls hl => ?_)
      refine lv_goto (tgt := 2) hx hb dX6_bestSet_35 (by decide) ?_
      exact ih u1 u2 u13 I12 J _ h hn _ _ hW _ (lv_sub hl [1, 2, 3, 0] rfl) hx1
noncomputable def fX6_bestSet_46b  (rec : Int32 → Int32 → Int32 → Int32 → Int32 → gI → Option ((Int32))) (u19 : Int32) (u20 : Int32) (u21 : Int32) (u22 : Int32) (u23 : Int32) (I : gI) : Option ((Int32)) :=
  gi ((jshl (1 : Int32) (I 1 12)) ≤ u23)
 (some u21)
 (lz (fun (u26 : Int32) => fun (u27 : Int32) => lz ((u23 + (1 : Int32))) (fun (u31 : Int32) => rec u19 u20 u26 u27 u31 I)) (fun j28 => gi ((u23 &&& u19) = u19)
 (bd (fX6_fitTogether u23 u20 I) (fun (u34 : Int32) => gi (u34 = 0)
 (j28 u21 u22)
 (bd (fX6_bidTogether u23 I) (fun (u38 : Int32) => gi (u38 ≤ u22)
 (j28 u21 u22)
 (j28 u23 u38)))))
 (j28 u21 u22)))
noncomputable def fX6_bestSet_46  : Nat → Int32 → Int32 → Int32 → Int32 → Int32 → gI → Option ((Int32))
  | 0 => fun _ _ _ _ _ _ => none
  | n + 1 => fX6_bestSet_46b  (fX6_bestSet_46  n)
set_option maxHeartbeats 4000000 in
set_option maxRecDepth 100000 in
theorem tX6_bestSet_46 {l : Launch} {G : gG} {ad : Nat → Nat} {p : Program} {e : Env} {s : State} {m : MethodId} {args : Array Value} {below : List Frame} {meth : Method} {c : Code} {Q : State → Prop} (hok : gInj LC ad) (K : gCx G (gA LC ad) p s m args c cX6_bestSet 7 RX6)  : ∀ (n : Nat) (u19 : Int32) (u20 : Int32) (u21 : Int32) (u22 : Int32) (u23 : Int32) (I : gI) (J : gJ) (out : Option ((Int32))), fX6_bestSet_46  n u19 u20 u21 u22 u23 I = out → out ≠ none → ∀ (H : Heap) (locs : List Loc), gWd G LC ad (gA LC ad) s.heap I J H locs → ∀ (ls : Array Slot), lv_has ls 7 [(0, .ref (ad 0)), (1, .int u19), (2, .int u20), (3, .int u21), (4, .int u22), (5, .int u23)] → (∀ (y24 : Int32), some y24 = out → ∀ (H : Heap) (locs : List Loc), gWd G LC ad (gA LC ad) s.heap I J H locs → ∀ (ls : Array Slot), lv_has ls 7 [(3, .int y24)] → W p l e (gRm 5) s m args below meth c H locs 0 0 Q (F0 m 106 ls [])) → W p l e (gRm 5) s m args below meth c H locs 0 0 Q (F0 m 46 ls []) := by
  have hx := K.1; have hb := K.2.1; have hown := K.2.2.2.1; have hts := K.2.2.2.2.1
  intro n
  induction n with
  | zero => intro u19 u20 u21 u22 u23 I J out h hn; exact absurd h.symm hn
  | succ n ih =>
    intro u19 u20 u21 u22 u23 I J out h hn H locs hW ls hl hx1
    replace h : fX6_bestSet_46b  (fX6_bestSet_46  n) u19 u20 u21 u22 u23 I = out := h
    unfold fX6_bestSet_46b at h
    refine lv_iload hx hb dX6_bestSet_46 (lv_at hl 5 rfl) ?_
    refine lv_iconst (v := (1 : Int32)) hx hb dX6_bestSet_48 (by decide) ?_
    refine lv_aload_n hx hb dX6_bestSet_49 rfl (lv_at hl 0 rfl) ?_
    refine g_get K hW (t := 2) (ci := 5) (k := 0) (v := .ref (ad 1)) kLC_0 rfl rfl i_X6 (by decide) q_393 rfl (gfv2 rLC_0_0) dX6_bestSet_50 ?_
    refine g_get K hW (t := 0) (ci := 0) (k := 12) (v := .int (I 1 12)) kLC_1 rfl rfl i_X0 (by decide) q_238 rfl rfl dX6_bestSet_53 ?_
    refine g_ishl hx hb dX6_bestSet_56 ?_
    refine lv_icmp_ge (tgt := 106) hx hb dX6_bestSet_57 (by decide) (fun c25 => ?_) (fun c25 => ?_)
    · replace h := gi_t h c25
      exact hx1 u21 h _ _ hW _ (lv_sub hl [3] rfl)
    · replace h := gi_f h c25
      refine lv_iload hx hb dX6_bestSet_60 (lv_at hl 5 rfl) ?_
      refine lv_iload_n hx hb dX6_bestSet_62 rfl (lv_at hl 1 rfl) ?_
      refine lv_iand hx hb dX6_bestSet_63 ?_
      refine lv_iload_n hx hb dX6_bestSet_64 rfl (lv_at hl 1 rfl) ?_
      obtain ⟨j28, e29, h⟩ := lz_o h
      have hj30 : ∀ (u26 : Int32) (u27 : Int32), j28 u26 u27 = out → ∀ (H : Heap) (locs : List Loc), gWd G LC ad (gA LC ad) s.heap I J H locs → ∀ (ls : Array Slot), lv_has ls 7 [(0, .ref (ad 0)), (1, .int u19), (2, .int u20), (3, .int u26), (4, .int u27), (5, .int u23)] → W p l e (gRm 5) s m args below meth c H locs 0 0 Q (F0 m 100 ls []) := by
        intro u26 u27 h H locs hW ls hl
        replace h := jn2 e29 h
        obtain ⟨u31, e32, h⟩ := lz_o h
        refine lv_iinc (v := u31) (lv' := [(5, .int u31), (0, .ref (ad 0)), (1, .int u19), (2, .int u20), (3, .int u26), (4, .int u27)]) hx hb dX6_bestSet_100 hl (k := 5) rfl (by rw [e32]; rfl) (by decide) rfl (fun ls hl => ?_)
        refine lv_goto (tgt := 46) hx hb dX6_bestSet_103 (by decide) ?_
        exact ih u19 u20 u26 u27 u31 I J _ h hn _ _ hW _ (lv_sub hl [1, 2, 3, 4, 5, 0] rfl) hx1
      refine lv_icmp_ne (tgt := 100) hx hb dX6_bestSet_65 (by decide) (fun c33 => ?_) (fun c33 => ?_)
      · replace h := gi_f h c33
        exact hj30 u21 u22 h _ _ hW _ (lv_sub hl [0, 1, 2, 3, 4, 5] rfl)
      · replace h := gi_t h c33
        refine lv_aload_n hx hb dX6_bestSet_68 rfl (lv_at hl 0 rfl) ?_
        refine lv_iload hx hb dX6_bestSet_69 (lv_at hl 5 rfl) ?_
        refine lv_iload_n hx hb dX6_bestSet_71 rfl (lv_at hl 2 rfl) ?_
        obtain ⟨u34, e35, h⟩ := bd_o h hn
        refine g_callVi (rest := []) K hW hl (kX6_fitTogether (l := l) (G := G) (ad := ad) hok u23 u20 I J u34 e35) kLC_0 rfl (gG_V q_906 q_908 q_43 q_133 q_909) nm_X6_fitTogether ⟨Nat.le_of_ble_eq_true rfl, Nat.le_of_ble_eq_true rfl⟩ rfl rfl (Nat.le_of_ble_eq_true rfl) ⟨Nat.zero_le _, Nat.zero_le _⟩ dX6_bestSet_72 (fun z36 H locs hW => ?_)
        refine lv_if_eq (tgt := 100) hx hb dX6_bestSet_75 (by decide) (fun c37 => ?_) (fun c37 => ?_)
        · replace h := gi_t h c37
          exact hj30 u21 u22 h _ _ hW _ (lv_sub hl [0, 1, 2, 3, 4, 5] rfl)
        · replace h := gi_f h c37
          refine lv_aload_n hx hb dX6_bestSet_78 rfl (lv_at hl 0 rfl) ?_
          refine lv_iload hx hb dX6_bestSet_79 (lv_at hl 5 rfl) ?_
          obtain ⟨u38, e39, h⟩ := bd_o h hn
          refine g_callVi (rest := []) K hW hl (kX6_bidTogether (l := l) (G := G) (ad := ad) hok u23 I J u38 e39) kLC_0 rfl (gG_V q_910 q_912 q_44 q_133 q_913) nm_X6_bidTogether ⟨Nat.le_of_ble_eq_true rfl, Nat.le_of_ble_eq_true rfl⟩ rfl rfl (Nat.le_of_ble_eq_true rfl) ⟨Nat.zero_le _, Nat.zero_le _⟩ dX6_bestSet_81 (fun z40 H locs hW => ?_)
          refine lv_istore (lv' := [(6, .int u38), (0, .ref (ad 0)), (1, .int u19), (2, .int u20), (3, .int u21), (4, .int u22), (5, .int u23)]) hx hb dX6_bestSet_84 hl (by decide) rfl (fun ls hl => ?_)
          refine lv_iload hx hb dX6_bestSet_86 (lv_at hl 0 rfl) ?_
          refine lv_iload hx hb dX6_bestSet_88 (lv_at hl 5 rfl) ?_
          refine lv_icmp_le (tgt := 100) hx hb dX6_bestSet_90 (by decide) (fun c41 => ?_) (fun c41 => ?_)
          · replace h := gi_t h c41
            exact hj30 u21 u22 h _ _ hW _ (lv_sub hl [1, 2, 3, 4, 5, 6] rfl)
          · replace h := gi_f h c41
            refine lv_iload hx hb dX6_bestSet_93 (lv_at hl 0 rfl) ?_
            refine lv_istore (lv' := [(4, .int u38), (6, .int u38), (0, .ref (ad 0)), (1, .int u19), (2, .int u20), (3, .int u21), (5, .int u23)]) hx hb dX6_bestSet_95 hl (by decide) rfl (fun ls hl => ?_)
            refine lv_iload hx hb dX6_bestSet_97 (lv_at hl 6 rfl) ?_
            refine lv_istore_n (lv' := [(3, .int u23), (4, .int u38), (6, .int u38), (0, .ref (ad 0)), (1, .int u19), (2, .int u20), (5, .int u23)]) hx hb dX6_bestSet_99 rfl hl (by decide) rfl (fun ls hl => ?_)
            exact hj30 u23 u38 h _ _ hW _ (lv_sub hl [3, 4, 5, 0, 1, 6] rfl)
noncomputable def fX6_bestSet  (x1 : Int32) (x2 : Int32) (I : gI) : Option (Int32 × gI) :=
  bd (fX6_bestSet_2 FU x1 x2 (0 : Int32) I) (fun (I17 : gI) => bd (fX6_bestSet_46 FU x1 x2 (-1 : Int32) (-1 : Int32) (0 : Int32) I17) (fun (u44 : Int32) => some (u44, I17)))
set_option maxHeartbeats 4000000 in
set_option maxRecDepth 100000 in
theorem kX6_bestSet {l : Launch} {G : gG} {ad : Nat → Nat} (hok : gInj LC ad)    (x1 : Int32) (x2 : Int32) (I : gI) (J : gJ) (r : Int32) (I' : gI) (h : fX6_bestSet x1 x2 I = some (r, I')) : gMi l yX6_bestSet cX6_bestSet 7 (some .int) 5 G LC ad [.ref (ad 0), .int x1, .int x2] I J r True I' J := by
  refine gMi_of (lst := [(0, .ref (ad 0)), (1, .int x1), (2, .int x2)]) (by decide) hok (Nat.le_of_ble_eq_true rfl) rfl ?_
  intro p e s m args below meth c Q ls K hW hl hfin
  have hn : (some (r, I') : Option (Int32 × gI)) ≠ none := Option.some_ne_none _
  have hx := K.1; have hb := K.2.1; have hown := K.2.2.2.1; have hts := K.2.2.2.2.1
  unfold fX6_bestSet at h
  refine lv_iconst (v := (0 : Int32)) hx hb dX6_bestSet_0 (by decide) ?_
  refine lv_istore_n (lv' := [(3, .int (0 : Int32)), (0, .ref (ad 0)), (1, .int x1), (2, .int x2)]) hx hb dX6_bestSet_1 rfl hl (by decide) rfl (fun ls hl => ?_)
  obtain ⟨r15, e16, h⟩ := bd_o h hn
  refine tX6_bestSet_2 hok K FU x1 x2 (0 : Int32) I J (some r15) e16 (Option.some_ne_none _) _ _ hW _ (lv_sub hl [1, 2, 3, 0] rfl) ?_
  · intro I17 q18 H locs hW ls hl
    replace q18 := Option.some.inj q18
    subst q18
    refine lv_iconst (v := (-1 : Int32)) hx hb dX6_bestSet_38 (by decide) ?_
    refine lv_istore_n (lv' := [(3, .int (-1 : Int32)), (0, .ref (ad 0)), (1, .int x1), (2, .int x2)]) hx hb dX6_bestSet_39 rfl hl (by decide) rfl (fun ls hl => ?_)
    refine lv_iconst (v := (-1 : Int32)) hx hb dX6_bestSet_40 (by decide) ?_
    refine lv_istore (lv' := [(4, .int (-1 : Int32)), (3, .int (-1 : Int32)), (0, .ref (ad 0)), (1, .int x1), (2, .int x2)]) hx hb dX6_bestSet_41 hl (by decide) rfl (fun ls hl => ?_)
    refine lv_iconst (v := (0 : Int32)) hx hb dX6_bestSet_43 (by decide) ?_
    refine lv_istore (lv' := [(5, .int (0 : Int32)), (4, .int (-1 : Int32)), (3, .int (-1 : Int32)), (0, .ref (ad 0)), (1, .int x1), (2, .int x2)]) hx hb dX6_bestSet_44 hl (by decide) rfl (fun ls hl => ?_)
    obtain ⟨r42, e43, h⟩ := bd_o h hn
    refine tX6_bestSet_46 hok K FU x1 x2 (-1 : Int32) (-1 : Int32) (0 : Int32) I17 J (some r42) e43 (Option.some_ne_none _) _ _ hW _ (lv_sub hl [3, 4, 5, 2, 1, 0] rfl) ?_
    · intro u44 q45 H locs hW ls hl
      replace q45 := Option.some.inj q45
      subst q45
      refine lv_iload_n hx hb dX6_bestSet_106 rfl (lv_at hl 0 rfl) ?_
      obtain ⟨a1, a2⟩ := so2 h
      replace hW := gWd_nI a2 hW
      exact g_nmi a1 (hfin _ _ _ _ hW dX6_bestSet_107)
theorem nm_X6_bestSet : gNm yX6_bestSet 2 := by decide +kernel
noncomputable def fX6_pack  (x1 : Int32) (x2 : Int32) (I : gI) : Option (Int32 × gI) :=
  gi ((fX6_isSort x1) = 0)
 (some ((-1 : Int32), I))
 (bd (fX6_bestSet (0 : Int32) x1 I) (pr (fun (u3 : Int32) (I4 : gI) => gi (x2 = 0)
 (bd (fX6_bidTogether u3 I4) (fun (u8 : Int32) => some (u8, I4)))
 (some (u3, I4)))))
set_option maxHeartbeats 4000000 in
set_option maxRecDepth 100000 in
theorem kX6_pack {l : Launch} {G : gG} {ad : Nat → Nat} (hok : gInj LC ad)    (x1 : Int32) (x2 : Int32) (I : gI) (J : gJ) (r : Int32) (I' : gI) (h : fX6_pack x1 x2 I = some (r, I')) : gMi l yX6_pack cX6_pack 4 (some .int) 6 G LC ad [.ref (ad 0), .int x1, .int x2] I J r True I' J := by
  refine gMi_of (lst := [(0, .ref (ad 0)), (1, .int x1), (2, .int x2)]) (by decide) hok (Nat.le_of_ble_eq_true rfl) rfl ?_
  intro p e s m args below meth c Q ls K hW hl hfin
  have hn : (some (r, I') : Option (Int32 × gI)) ≠ none := Option.some_ne_none _
  have hx := K.1; have hb := K.2.1; have hown := K.2.2.2.1; have hts := K.2.2.2.2.1
  unfold fX6_pack at h
  refine lv_iload_n hx hb dX6_pack_0 rfl (lv_at hl 1 rfl) ?_
  refine g_callSi (rest := []) K hW hl (kX6_isSort (l := l) (G := G) (ad := ad) hok x1 I J (fX6_isSort x1) rfl) q_437 q_438 q_133 q_439 nm_X6_isSort ⟨Nat.le_of_ble_eq_true rfl, Nat.le_of_ble_eq_true rfl⟩ rfl rfl (Nat.le_of_ble_eq_true rfl) ⟨Nat.zero_le _, Nat.zero_le _⟩ dX6_pack_1 (fun z1 H locs hW => ?_)
  refine lv_if_ne (tgt := 9) hx hb dX6_pack_4 (by decide) (fun c2 => ?_) (fun c2 => ?_)
  · replace h := gi_f h c2
    refine lv_aload_n hx hb dX6_pack_9 rfl (lv_at hl 0 rfl) ?_
    refine lv_iconst (v := (0 : Int32)) hx hb dX6_pack_10 (by decide) ?_
    refine lv_iload_n hx hb dX6_pack_11 rfl (lv_at hl 1 rfl) ?_
    obtain ⟨⟨u3, I4⟩, e5, h⟩ := bd_o h hn
    replace h := pr_o h
    refine g_callVi (rest := []) K hW hl (kX6_bestSet (l := l) (G := G) (ad := ad) hok (0 : Int32) x1 I J u3 I4 e5) kLC_0 rfl (gG_V q_902 q_904 q_42 q_133 q_905) nm_X6_bestSet ⟨Nat.le_of_ble_eq_true rfl, Nat.le_of_ble_eq_true rfl⟩ rfl rfl (Nat.le_of_ble_eq_true rfl) ⟨Nat.zero_le _, Nat.zero_le _⟩ dX6_pack_12 (fun z6 H locs hW => ?_)
    refine lv_istore_n (lv' := [(3, .int u3), (0, .ref (ad 0)), (1, .int x1), (2, .int x2)]) hx hb dX6_pack_15 rfl hl (by decide) rfl (fun ls hl => ?_)
    refine lv_iload_n hx hb dX6_pack_16 rfl (lv_at hl 3 rfl) ?_
    refine lv_if_eq (tgt := 24) hx hb dX6_pack_17 (by decide) (fun c7 => ?_) (fun c7 => ?_)
    · replace h := gi_t h c7
      refine lv_aload_n hx hb dX6_pack_24 rfl (lv_at hl 1 rfl) ?_
      refine lv_iload_n hx hb dX6_pack_25 rfl (lv_at hl 0 rfl) ?_
      obtain ⟨u8, e9, h⟩ := bd_o h hn
      refine g_callVi (rest := []) K hW hl (kX6_bidTogether (l := l) (G := G) (ad := ad) hok u3 I4 J u8 e9) kLC_0 rfl (gG_V q_910 q_912 q_44 q_133 q_913) nm_X6_bidTogether ⟨Nat.le_of_ble_eq_true rfl, Nat.le_of_ble_eq_true rfl⟩ rfl rfl (Nat.le_of_ble_eq_true rfl) ⟨Nat.zero_le _, Nat.zero_le _⟩ dX6_pack_26 (fun z10 H locs hW => ?_)
      obtain ⟨a1, a2⟩ := so2 h
      replace hW := gWd_nI a2 hW
      exact g_nmi a1 (hfin _ _ _ _ hW dX6_pack_29)
    · replace h := gi_f h c7
      refine lv_iload_n hx hb dX6_pack_20 rfl (lv_at hl 0 rfl) ?_
      refine lv_goto (tgt := 29) hx hb dX6_pack_21 (by decide) ?_
      obtain ⟨a1, a2⟩ := so2 h
      replace hW := gWd_nI a2 hW
      exact g_nmi a1 (hfin _ _ _ _ hW dX6_pack_29)
  · replace h := gi_t h c2
    refine lv_iconst (v := (-1 : Int32)) hx hb dX6_pack_7 (by decide) ?_
    obtain ⟨a1, a2⟩ := so2 h
    replace hW := gWd_nI a2 hW
    exact g_nmi a1 (hfin _ _ _ _ hW dX6_pack_8)
noncomputable def fX6_see  (x1 : Int32) (x2 : Int32) (I : gI) : Option (Int32 × gI) :=
  gi ((fX6_isSort x2) = 0)
 (some ((-1 : Int32), I))
 (lz ((fX6_within x1 (0 : Int32) ((jshl (1 : Int32) (I 1 12)) - (1 : Int32)))) (fun (u4 : Int32) => gi (u4 = 0)
 (some ((-1 : Int32), I))
 (bd (fX6_bestSet x1 x2 I) (pr (fun (u7 : Int32) (I8 : gI) => gi (u7 = (-1 : Int32))
 (some ((-1 : Int32), I8))
 (bd (fX6_bidTogether u7 I8) (fun (u12 : Int32) => some (u12, I8))))))))
set_option maxHeartbeats 4000000 in
set_option maxRecDepth 100000 in
theorem kX6_see {l : Launch} {G : gG} {ad : Nat → Nat} (hok : gInj LC ad)    (x1 : Int32) (x2 : Int32) (I : gI) (J : gJ) (r : Int32) (I' : gI) (h : fX6_see x1 x2 I = some (r, I')) : gMi l yX6_see cX6_see 4 (some .int) 6 G LC ad [.ref (ad 0), .int x1, .int x2] I J r True I' J := by
  refine gMi_of (lst := [(0, .ref (ad 0)), (1, .int x1), (2, .int x2)]) (by decide) hok (Nat.le_of_ble_eq_true rfl) rfl ?_
  intro p e s m args below meth c Q ls K hW hl hfin
  have hn : (some (r, I') : Option (Int32 × gI)) ≠ none := Option.some_ne_none _
  have hx := K.1; have hb := K.2.1; have hown := K.2.2.2.1; have hts := K.2.2.2.2.1
  unfold fX6_see at h
  refine lv_iload_n hx hb dX6_see_0 rfl (lv_at hl 2 rfl) ?_
  refine g_callSi (rest := []) K hW hl (kX6_isSort (l := l) (G := G) (ad := ad) hok x2 I J (fX6_isSort x2) rfl) q_437 q_438 q_133 q_439 nm_X6_isSort ⟨Nat.le_of_ble_eq_true rfl, Nat.le_of_ble_eq_true rfl⟩ rfl rfl (Nat.le_of_ble_eq_true rfl) ⟨Nat.zero_le _, Nat.zero_le _⟩ dX6_see_1 (fun z1 H locs hW => ?_)
  refine lv_if_eq (tgt := 26) hx hb dX6_see_4 (by decide) (fun c2 => ?_) (fun c2 => ?_)
  · replace h := gi_t h c2
    refine lv_iconst (v := (-1 : Int32)) hx hb dX6_see_26 (by decide) ?_
    obtain ⟨a1, a2⟩ := so2 h
    replace hW := gWd_nI a2 hW
    exact g_nmi a1 (hfin _ _ _ _ hW dX6_see_27)
  · replace h := gi_f h c2
    refine lv_iload_n hx hb dX6_see_7 rfl (lv_at hl 1 rfl) ?_
    refine lv_iconst (v := (0 : Int32)) hx hb dX6_see_8 (by decide) ?_
    refine lv_iconst (v := (1 : Int32)) hx hb dX6_see_9 (by decide) ?_
    refine lv_aload_n hx hb dX6_see_10 rfl (lv_at hl 0 rfl) ?_
    refine g_get K hW (t := 2) (ci := 5) (k := 0) (v := .ref (ad 1)) kLC_0 rfl rfl i_X6 (by decide) q_393 rfl (gfv2 rLC_0_0) dX6_see_11 ?_
    refine g_get K hW (t := 0) (ci := 0) (k := 12) (v := .int (I 1 12)) kLC_1 rfl rfl i_X0 (by decide) q_238 rfl rfl dX6_see_14 ?_
    refine g_ishl hx hb dX6_see_17 ?_
    refine lv_iconst (v := (1 : Int32)) hx hb dX6_see_18 (by decide) ?_
    refine lv_isub hx hb dX6_see_19 ?_
    refine g_callSi (rest := []) K hW hl (kX6_within (l := l) (G := G) (ad := ad) hok x1 (0 : Int32) ((jshl (1 : Int32) (I 1 12)) - (1 : Int32)) I J (fX6_within x1 (0 : Int32) ((jshl (1 : Int32) (I 1 12)) - (1 : Int32))) rfl) q_440 q_441 q_133 q_442 nm_X6_within ⟨Nat.le_of_ble_eq_true rfl, Nat.le_of_ble_eq_true rfl⟩ rfl rfl (Nat.le_of_ble_eq_true rfl) ⟨Nat.zero_le _, Nat.zero_le _⟩ dX6_see_20 (fun z3 H locs hW => ?_)
    obtain ⟨u4, e5, h⟩ := lz_o h
    refine g_nmi e5 ?_
    refine lv_if_ne (tgt := 28) hx hb dX6_see_23 (by decide) (fun c6 => ?_) (fun c6 => ?_)
    · replace h := gi_f h c6
      refine lv_aload_n hx hb dX6_see_28 rfl (lv_at hl 0 rfl) ?_
      refine lv_iload_n hx hb dX6_see_29 rfl (lv_at hl 1 rfl) ?_
      refine lv_iload_n hx hb dX6_see_30 rfl (lv_at hl 2 rfl) ?_
      obtain ⟨⟨u7, I8⟩, e9, h⟩ := bd_o h hn
      replace h := pr_o h
      refine g_callVi (rest := []) K hW hl (kX6_bestSet (l := l) (G := G) (ad := ad) hok x1 x2 I J u7 I8 e9) kLC_0 rfl (gG_V q_902 q_904 q_42 q_133 q_905) nm_X6_bestSet ⟨Nat.le_of_ble_eq_true rfl, Nat.le_of_ble_eq_true rfl⟩ rfl rfl (Nat.le_of_ble_eq_true rfl) ⟨Nat.zero_le _, Nat.zero_le _⟩ dX6_see_31 (fun z10 H locs hW => ?_)
      refine lv_istore_n (lv' := [(3, .int u7), (0, .ref (ad 0)), (1, .int x1), (2, .int x2)]) hx hb dX6_see_34 rfl hl (by decide) rfl (fun ls hl => ?_)
      refine lv_iload_n hx hb dX6_see_35 rfl (lv_at hl 0 rfl) ?_
      refine lv_iconst (v := (-1 : Int32)) hx hb dX6_see_36 (by decide) ?_
      refine lv_icmp_ne (tgt := 44) hx hb dX6_see_37 (by decide) (fun c11 => ?_) (fun c11 => ?_)
      · replace h := gi_f h c11
        refine lv_aload_n hx hb dX6_see_44 rfl (lv_at hl 1 rfl) ?_
        refine lv_iload_n hx hb dX6_see_45 rfl (lv_at hl 0 rfl) ?_
        obtain ⟨u12, e13, h⟩ := bd_o h hn
        refine g_callVi (rest := []) K hW hl (kX6_bidTogether (l := l) (G := G) (ad := ad) hok u7 I8 J u12 e13) kLC_0 rfl (gG_V q_910 q_912 q_44 q_133 q_913) nm_X6_bidTogether ⟨Nat.le_of_ble_eq_true rfl, Nat.le_of_ble_eq_true rfl⟩ rfl rfl (Nat.le_of_ble_eq_true rfl) ⟨Nat.zero_le _, Nat.zero_le _⟩ dX6_see_46 (fun z14 H locs hW => ?_)
        obtain ⟨a1, a2⟩ := so2 h
        replace hW := gWd_nI a2 hW
        exact g_nmi a1 (hfin _ _ _ _ hW dX6_see_49)
      · replace h := gi_t h c11
        refine lv_iconst (v := (-1 : Int32)) hx hb dX6_see_40 (by decide) ?_
        refine lv_goto (tgt := 49) hx hb dX6_see_41 (by decide) ?_
        obtain ⟨a1, a2⟩ := so2 h
        replace hW := gWd_nI a2 hW
        exact g_nmi a1 (hfin _ _ _ _ hW dX6_see_49)
    · replace h := gi_t h c6
      refine lv_iconst (v := (-1 : Int32)) hx hb dX6_see_26 (by decide) ?_
      obtain ⟨a1, a2⟩ := so2 h
      replace hW := gWd_nI a2 hW
      exact g_nmi a1 (hfin _ _ _ _ hW dX6_see_27)
noncomputable def fX6_allLikelihood   (I : gI) : Option (Int32) :=
  bd (fX6_oddsTogether I) (fun (u1 : Int32) => some (jmax (1 : Int32) u1))
set_option maxHeartbeats 4000000 in
set_option maxRecDepth 100000 in
theorem kX6_allLikelihood {l : Launch} {G : gG} {ad : Nat → Nat} (hok : gInj LC ad)     (I : gI) (J : gJ) (r : Int32) (h : fX6_allLikelihood I = some r) : gMi l yX6_allLikelihood cX6_allLikelihood 1 (some .int) 2 G LC ad [.ref (ad 0)] I J r True I J := by
  refine gMi_of (lst := [(0, .ref (ad 0))]) (by decide) hok (Nat.le_of_ble_eq_true rfl) rfl ?_
  intro p e s m args below meth c Q ls K hW hl hfin
  have hn : (some r : Option (Int32)) ≠ none := Option.some_ne_none _
  have hx := K.1; have hb := K.2.1; have hown := K.2.2.2.1; have hts := K.2.2.2.2.1
  unfold fX6_allLikelihood at h
  refine lv_iconst (v := (1 : Int32)) hx hb dX6_allLikelihood_0 (by decide) ?_
  refine lv_aload_n hx hb dX6_allLikelihood_1 rfl (lv_at hl 0 rfl) ?_
  obtain ⟨u1, e2, h⟩ := bd_o h hn
  refine g_callVi (rest := [.int (1 : Int32)]) K hW hl (kX6_oddsTogether (l := l) (G := G) (ad := ad) hok I J u1 e2) kLC_0 rfl (gG_V q_804 q_806 q_38 q_133 q_807) nm_X6_oddsTogether ⟨Nat.le_of_ble_eq_true rfl, Nat.le_of_ble_eq_true rfl⟩ rfl rfl (Nat.le_of_ble_eq_true rfl) ⟨Nat.zero_le _, Nat.zero_le _⟩ dX6_allLikelihood_2 (fun z3 H locs hW => ?_)
  refine g_max K hl q_931 (by decide) (Nat.le_of_ble_eq_true rfl) ⟨Nat.zero_le _, Nat.zero_le _⟩ dX6_allLikelihood_5 ?_
  obtain a1 := so1 h
  exact g_nmi a1 (hfin _ _ _ _ hW dX6_allLikelihood_8)
noncomputable def fX6_likelihood  (x1 : Int32) (I : gI) : Option (Int32) :=
  lz (gd (vp_in x1 5) (some (I 2 (x1).toNatClampNeg))) (fun j1 => gi (x1 = 0)
 (bd (fX6_oddsTogether I) (fun (u6 : Int32) => gi (u6 = 0)
 (some (1 : Int32))
 (j1)))
 (j1))
set_option maxHeartbeats 4000000 in
set_option maxRecDepth 100000 in
theorem kX6_likelihood {l : Launch} {G : gG} {ad : Nat → Nat} (hok : gInj LC ad)    (x1 : Int32) (I : gI) (J : gJ) (r : Int32) (h : fX6_likelihood x1 I = some r) : gMi l yX6_likelihood cX6_likelihood 2 (some .int) 2 G LC ad [.ref (ad 0), .int x1] I J r True I J := by
  refine gMi_of (lst := [(0, .ref (ad 0)), (1, .int x1)]) (by decide) hok (Nat.le_of_ble_eq_true rfl) rfl ?_
  intro p e s m args below meth c Q ls K hW hl hfin
  have hn : (some r : Option (Int32)) ≠ none := Option.some_ne_none _
  have hx := K.1; have hb := K.2.1; have hown := K.2.2.2.1; have hts := K.2.2.2.2.1
  unfold fX6_likelihood at h
  refine lv_iload_n hx hb dX6_likelihood_0 rfl (lv_at hl 1 rfl) ?_
  obtain ⟨j1, e2, h⟩ := lz_o h
  have hj3 : j1 = (some r) → ∀ (H : Heap) (locs : List Loc), gWd G LC ad (gA LC ad) s.heap I J H locs → ∀ (ls : Array Slot), lv_has ls 2 [(0, .ref (ad 0)), (1, .int x1)] → W p l e (gRm 2) s m args below meth c H locs 0 0 Q (F0 m 15 ls []) := by
    intro h H locs hW ls hl
    replace h := jn0 e2 h
    refine lv_aload_n hx hb dX6_likelihood_15 rfl (lv_at hl 0 rfl) ?_
    refine g_get K hW (t := 2) (ci := 5) (k := 0) (v := .ref (ad 1)) kLC_0 rfl rfl i_X6 (by decide) q_393 rfl (gfv2 rLC_0_0) dX6_likelihood_16 ?_
    refine g_get K hW (t := 2) (ci := 0) (k := 0) (v := .ref (ad 2)) kLC_1 rfl rfl i_X0 (by decide) q_212 rfl (gfv2 rLC_1_0) dX6_likelihood_19 ?_
    refine lv_iload_n hx hb dX6_likelihood_22 rfl (lv_at hl 1 rfl) ?_
    obtain ⟨g4, h⟩ := gd_o h hn
    refine g_iald K hW kLC_2 g4 rfl dX6_likelihood_23 ?_
    obtain a1 := so1 h
    exact g_nmi a1 (hfin _ _ _ _ hW dX6_likelihood_24)
  refine lv_if_ne (tgt := 15) hx hb dX6_likelihood_1 (by decide) (fun c5 => ?_) (fun c5 => ?_)
  · replace h := gi_f h c5
    exact hj3 h _ _ hW _ (lv_sub hl [0, 1] rfl)
  · replace h := gi_t h c5
    refine lv_aload_n hx hb dX6_likelihood_4 rfl (lv_at hl 0 rfl) ?_
    obtain ⟨u6, e7, h⟩ := bd_o h hn
    refine g_callVi (rest := []) K hW hl (kX6_oddsTogether (l := l) (G := G) (ad := ad) hok I J u6 e7) kLC_0 rfl (gG_V q_804 q_806 q_38 q_133 q_807) nm_X6_oddsTogether ⟨Nat.le_of_ble_eq_true rfl, Nat.le_of_ble_eq_true rfl⟩ rfl rfl (Nat.le_of_ble_eq_true rfl) ⟨Nat.zero_le _, Nat.zero_le _⟩ dX6_likelihood_5 (fun z8 H locs hW => ?_)
    refine lv_if_ne (tgt := 15) hx hb dX6_likelihood_8 (by decide) (fun c9 => ?_) (fun c9 => ?_)
    · replace h := gi_f h c9
      exact hj3 h _ _ hW _ (lv_sub hl [0, 1] rfl)
    · replace h := gi_t h c9
      refine lv_iconst (v := (1 : Int32)) hx hb dX6_likelihood_11 (by decide) ?_
      refine lv_goto (tgt := 24) hx hb dX6_likelihood_12 (by decide) ?_
      obtain a1 := so1 h
      exact g_nmi a1 (hfin _ _ _ _ hW dX6_likelihood_24)
noncomputable def fX6_lowest_9b  (rec : Int64 → Int64 → Int32 → Int64 → Int64 → Int32 → Option ((Int64))) (u1 : Int64) (u2 : Int64) (u3 : Int32) (u4 : Int64) (u5 : Int64) (u6 : Int32) : Option ((Int64)) :=
  gi ((200 : Int32) ≤ u6)
 (some u4)
 (gi ((lg_cmp u5 (0 : Int64)) = 0)
 (some u4)
 (gd (¬ u5 = 0) (lz ((jlrem u4 u5)) (fun (u11 : Int64) => lz ((u6 + (1 : Int32))) (fun (u13 : Int32) => rec u1 u2 u3 u5 u11 u13)))))
noncomputable def fX6_lowest_9  : Nat → Int64 → Int64 → Int32 → Int64 → Int64 → Int32 → Option ((Int64))
  | 0 => fun _ _ _ _ _ _ => none
  | n + 1 => fX6_lowest_9b  (fX6_lowest_9  n)
set_option maxHeartbeats 4000000 in
set_option maxRecDepth 100000 in
theorem tX6_lowest_9 {l : Launch} {G : gG} {ad : Nat → Nat} {p : Program} {e : Env} {s : State} {m : MethodId} {args : Array Value} {below : List Frame} {meth : Method} {c : Code} {Q : State → Prop} (hok : gInj LC ad) (K : gCx G (gA LC ad) p s m args c cX6_lowest 12 RX6)  : ∀ (n : Nat) (u1 : Int64) (u2 : Int64) (u3 : Int32) (u4 : Int64) (u5 : Int64) (u6 : Int32) (I : gI) (J : gJ) (out : Option ((Int64))), fX6_lowest_9  n u1 u2 u3 u4 u5 u6 = out → out ≠ none → ∀ (H : Heap) (locs : List Loc), gWd G LC ad (gA LC ad) s.heap I J H locs → ∀ (ls : Array Slot), lv_has ls 12 [(0, .long u1), (2, .long u2), (4, .int u3), (5, .long u4), (7, .long u5), (9, .int u6)] → (∀ (y7 : Int64), some y7 = out → ∀ (H : Heap) (locs : List Loc), gWd G LC ad (gA LC ad) s.heap I J H locs → ∀ (ls : Array Slot), lv_has ls 12 [(0, .long u1), (2, .long u2), (4, .int u3), (5, .long y7)] → W p l e (gRm 1) s m args below meth c H locs 0 0 Q (F0 m 45 ls [])) → W p l e (gRm 1) s m args below meth c H locs 0 0 Q (F0 m 9 ls []) := by
  have hx := K.1; have hb := K.2.1; have hown := K.2.2.2.1; have hts := K.2.2.2.2.1
  intro n
  induction n with
  | zero => intro u1 u2 u3 u4 u5 u6 I J out h hn; exact absurd h.symm hn
  | succ n ih =>
    intro u1 u2 u3 u4 u5 u6 I J out h hn H locs hW ls hl hx1
    replace h : fX6_lowest_9b  (fX6_lowest_9  n) u1 u2 u3 u4 u5 u6 = out := h
    unfold fX6_lowest_9b at h
    refine lv_iload hx hb dX6_lowest_9 (lv_at hl 5 rfl) ?_
    refine lv_sipush (v := (200 : Int32)) hx hb dX6_lowest_11 (by decide) ?_
    refine lv_icmp_ge (tgt := 45) hx hb dX6_lowest_14 (by decide) (fun c8 => ?_) (fun c8 => ?_)
    · replace h := gi_t h c8
      exact hx1 u4 h _ _ hW _ (lv_sub hl [0, 1, 2, 3] rfl)
    · replace h := gi_f h c8
      refine lv_lload hx hb dX6_lowest_17 (lv_at hl 4 rfl) ?_
      refine lv_lconst (v := (0 : Int64)) hx hb dX6_lowest_19 rfl ?_
      refine W.lcmp hx hb dX6_lowest_20 ?_
      refine lv_if_eq (tgt := 45) hx hb dX6_lowest_21 (by decide) (fun c9 => ?_) (fun c9 => ?_)
      · replace h := gi_t h c9
        exact hx1 u4 h _ _ hW _ (lv_sub hl [0, 1, 2, 3] rfl)
      · replace h := gi_f h c9
        refine lv_lload hx hb dX6_lowest_24 (lv_at hl 3 rfl) ?_
        refine lv_lload hx hb dX6_lowest_26 (lv_at hl 4 rfl) ?_
        obtain ⟨g10, h⟩ := gd_o h hn
        refine g_lrem hx hb dX6_lowest_28 g10 ?_
        obtain ⟨u11, e12, h⟩ := lz_o h
        refine g_nml e12 ?_
        refine lv_lstore (lv' := [(10, .long u11), (0, .long u1), (2, .long u2), (4, .int u3), (5, .long u4), (7, .long u5), (9, .int u6)]) hx hb dX6_lowest_29 hl (by decide) rfl (fun ls hl => ?_)
        refine lv_lload hx hb dX6_lowest_31 (lv_at hl 5 rfl) ?_
        refine lv_lstore (lv' := [(5, .long u5), (10, .long u11), (0, .long u1), (2, .long u2), (4, .int u3), (7, .long u5), (9, .int u6)]) hx hb dX6_lowest_33 hl (by decide) rfl (fun ls hl => ?_)
        refine lv_lload hx hb dX6_lowest_35 (lv_at hl 1 rfl) ?_
        refine lv_lstore (lv' := [(7, .long u11), (5, .long u5), (10, .long u11), (0, .long u1), (2, .long u2), (4, .int u3), (9, .int u6)]) hx hb dX6_lowest_37 hl (by decide) rfl (fun ls hl => ?_)
        obtain ⟨u13, e14, h⟩ := lz_o h
        refine lv_iinc (v := u13) (lv' := [(9, .int u13), (7, .long u11), (5, .long u5), (10, .long u11), (0, .long u1), (2, .long u2), (4, .int u3)]) hx hb dX6_lowest_39 hl (k := 6) rfl (by rw [e14]; rfl) (by decide) rfl (fun ls hl => ?_)
        refine lv_goto (tgt := 9) hx hb dX6_lowest_42 (by decide) ?_
        exact ih u1 u2 u3 u5 u11 u13 I J _ h hn _ _ hW _ (lv_sub hl [4, 5, 6, 2, 1, 0] rfl) hx1
noncomputable def fX6_lowest  (x0 : Int64) (x2 : Int64) (x4 : Int32)  : Option (Int64) :=
  bd (fX6_lowest_9 FU x0 x2 x4 x2 x0 (0 : Int32)) (fun (u17 : Int64) => gi ((lg_cmp u17 (0 : Int64)) = 0)
 (gi (x4 = 0)
 (some (0 : Int64))
 (some (1 : Int64)))
 (gi (x4 = 0)
 (gd (¬ u17 = 0) (some (x0 / u17)))
 (gd (¬ u17 = 0) (some (x2 / u17)))))
set_option maxHeartbeats 4000000 in
set_option maxRecDepth 100000 in
theorem kX6_lowest {l : Launch} {G : gG} {ad : Nat → Nat} (hok : gInj LC ad)    (x0 : Int64) (x2 : Int64) (x4 : Int32) (I : gI) (J : gJ) (r : Int64) (h : fX6_lowest x0 x2 x4 = some r) : gMl l yX6_lowest cX6_lowest 12 (some .long) 1 G LC ad [.long x0, .long x2, .int x4] I J r I J := by
  refine gMl_of (lst := [(0, .long x0), (2, .long x2), (4, .int x4)]) (by decide) hok (Nat.le_of_ble_eq_true rfl) rfl ?_
  intro p e s m args below meth c Q ls K hW hl hfin
  have hn : (some r : Option (Int64)) ≠ none := Option.some_ne_none _
  have hx := K.1; have hb := K.2.1; have hown := K.2.2.2.1; have hts := K.2.2.2.2.1
  unfold fX6_lowest at h
  refine lv_lload_n hx hb dX6_lowest_0 rfl (lv_at hl 1 rfl) ?_
  refine lv_lstore (lv' := [(5, .long x2), (0, .long x0), (2, .long x2), (4, .int x4)]) hx hb dX6_lowest_1 hl (by decide) rfl (fun ls hl => ?_)
  refine lv_lload_n hx hb dX6_lowest_3 rfl (lv_at hl 1 rfl) ?_
  refine lv_lstore (lv' := [(7, .long x0), (5, .long x2), (0, .long x0), (2, .long x2), (4, .int x4)]) hx hb dX6_lowest_4 hl (by decide) rfl (fun ls hl => ?_)
  refine lv_iconst (v := (0 : Int32)) hx hb dX6_lowest_6 (by decide) ?_
  refine lv_istore (lv' := [(9, .int (0 : Int32)), (7, .long x0), (5, .long x2), (0, .long x0), (2, .long x2), (4, .int x4)]) hx hb dX6_lowest_7 hl (by decide) rfl (fun ls hl => ?_)
  obtain ⟨r15, e16, h⟩ := bd_o h hn
  refine tX6_lowest_9 hok K FU x0 x2 x4 x2 x0 (0 : Int32) I J (some r15) e16 (Option.some_ne_none _) _ _ hW _ (lv_sub hl [3, 4, 5, 2, 1, 0] rfl) ?_
  · intro u17 q18 H locs hW ls hl
    replace q18 := Option.some.inj q18
    subst q18
    refine lv_lload hx hb dX6_lowest_45 (lv_at hl 3 rfl) ?_
    refine lv_lconst (v := (0 : Int64)) hx hb dX6_lowest_47 rfl ?_
    refine W.lcmp hx hb dX6_lowest_48 ?_
    refine lv_if_ne (tgt := 63) hx hb dX6_lowest_49 (by decide) (fun c19 => ?_) (fun c19 => ?_)
    · replace h := gi_f h c19
      refine lv_iload hx hb dX6_lowest_63 (lv_at hl 2 rfl) ?_
      refine lv_if_eq (tgt := 75) hx hb dX6_lowest_65 (by decide) (fun c20 => ?_) (fun c20 => ?_)
      · replace h := gi_t h c20
        refine lv_lload_n hx hb dX6_lowest_75 rfl (lv_at hl 0 rfl) ?_
        refine lv_lload hx hb dX6_lowest_76 (lv_at hl 3 rfl) ?_
        obtain ⟨g21, h⟩ := gd_o h hn
        refine lv_ldiv hx hb dX6_lowest_78 g21 ?_
        obtain a1 := so1 h
        exact g_nml a1 (hfin _ _ _ _ hW dX6_lowest_79)
      · replace h := gi_f h c20
        refine lv_lload_n hx hb dX6_lowest_68 rfl (lv_at hl 1 rfl) ?_
        refine lv_lload hx hb dX6_lowest_69 (lv_at hl 3 rfl) ?_
        obtain ⟨g22, h⟩ := gd_o h hn
        refine lv_ldiv hx hb dX6_lowest_71 g22 ?_
        refine lv_goto (tgt := 79) hx hb dX6_lowest_72 (by decide) ?_
        obtain a1 := so1 h
        exact g_nml a1 (hfin _ _ _ _ hW dX6_lowest_79)
    · replace h := gi_t h c19
      refine lv_iload hx hb dX6_lowest_52 (lv_at hl 2 rfl) ?_
      refine lv_if_eq (tgt := 61) hx hb dX6_lowest_54 (by decide) (fun c23 => ?_) (fun c23 => ?_)
      · replace h := gi_t h c23
        refine lv_lconst (v := (0 : Int64)) hx hb dX6_lowest_61 rfl ?_
        obtain a1 := so1 h
        exact g_nml a1 (hfin _ _ _ _ hW dX6_lowest_62)
      · replace h := gi_f h c23
        refine lv_lconst (v := (1 : Int64)) hx hb dX6_lowest_57 rfl ?_
        refine lv_goto (tgt := 62) hx hb dX6_lowest_58 (by decide) ?_
        obtain a1 := so1 h
        exact g_nml a1 (hfin _ _ _ _ hW dX6_lowest_62)
theorem nm_X6_likelihood : gNm yX6_likelihood 1 := by decide +kernel
theorem nm_X6_allLikelihood : gNm yX6_allLikelihood 0 := by decide +kernel
theorem nm_X6_lowest : gNm yX6_lowest 3 := by decide +kernel
noncomputable def fX6_month_19b  (rec : Int32 → Int32 → Int64 → Int32 → gI → Option ((Int64 × gI))) (u3 : Int32) (u4 : Int32) (u5 : Int64) (u6 : Int32) (I : gI) : Option ((Int64 × gI)) :=
  gi ((5 : Int32) ≤ u6)
 (some (u5, I))
 (bd (fX6_bestSet (0 : Int32) u6 I) (pr (fun (u10 : Int32) (I11 : gI) => bd (fX6_likelihood u6 I11) (fun (u14 : Int32) => bd (fX6_bidTogether u10 I11) (fun (u17 : Int32) => lz ((u5 + ((u14).toInt64 * (u17).toInt64))) (fun (u20 : Int64) => lz ((u6 + (1 : Int32))) (fun (u22 : Int32) => rec u3 u4 u20 u22 I11)))))))
noncomputable def fX6_month_19  : Nat → Int32 → Int32 → Int64 → Int32 → gI → Option ((Int64 × gI))
  | 0 => fun _ _ _ _ _ => none
  | n + 1 => fX6_month_19b  (fX6_month_19  n)
set_option maxHeartbeats 4000000 in
set_option maxRecDepth 100000 in
theorem tX6_month_19 {l : Launch} {G : gG} {ad : Nat → Nat} {p : Program} {e : Env} {s : State} {m : MethodId} {args : Array Value} {below : List Frame} {meth : Method} {c : Code} {Q : State → Prop} (hok : gInj LC ad) (K : gCx G (gA LC ad) p s m args c cX6_month 7 RX6)  : ∀ (n : Nat) (u3 : Int32) (u4 : Int32) (u5 : Int64) (u6 : Int32) (I : gI) (J : gJ) (out : Option ((Int64 × gI))), fX6_month_19  n u3 u4 u5 u6 I = out → out ≠ none → ∀ (H : Heap) (locs : List Loc), gWd G LC ad (gA LC ad) s.heap I J H locs → ∀ (ls : Array Slot), lv_has ls 7 [(0, .ref (ad 0)), (1, .int u3), (2, .int u4), (3, .long u5), (5, .int u6)] → (∀ (y7 : Int64) (I8 : gI), some (y7, I8) = out → ∀ (H : Heap) (locs : List Loc), gWd G LC ad (gA LC ad) s.heap I8 J H locs → ∀ (ls : Array Slot), lv_has ls 7 [(0, .ref (ad 0)), (1, .int u3), (2, .int u4), (3, .long y7)] → W p l e (gRm 6) s m args below meth c H locs 0 0 Q (F0 m 58 ls [])) → W p l e (gRm 6) s m args below meth c H locs 0 0 Q (F0 m 19 ls []) := by
  have hx := K.1; have hb := K.2.1; have hown := K.2.2.2.1; have hts := K.2.2.2.2.1
  intro n
  induction n with
  | zero => intro u3 u4 u5 u6 I J out h hn; exact absurd h.symm hn
  | succ n ih =>
    intro u3 u4 u5 u6 I J out h hn H locs hW ls hl hx1
    replace h : fX6_month_19b  (fX6_month_19  n) u3 u4 u5 u6 I = out := h
    unfold fX6_month_19b at h
    refine lv_iload hx hb dX6_month_19 (lv_at hl 4 rfl) ?_
    refine lv_iconst (v := (5 : Int32)) hx hb dX6_month_21 (by decide) ?_
    refine lv_icmp_ge (tgt := 58) hx hb dX6_month_22 (by decide) (fun c9 => ?_) (fun c9 => ?_)
    · replace h := gi_t h c9
      exact hx1 u5 I h _ _ hW _ (lv_sub hl [0, 1, 2, 3] rfl)
    · replace h := gi_f h c9
      refine lv_aload_n hx hb dX6_month_25 rfl (lv_at hl 0 rfl) ?_
      refine lv_iconst (v := (0 : Int32)) hx hb dX6_month_26 (by decide) ?_
      refine lv_iload hx hb dX6_month_27 (lv_at hl 4 rfl) ?_
      obtain ⟨⟨u10, I11⟩, e12, h⟩ := bd_o h hn
      replace h := pr_o h
      refine g_callVi (rest := []) K hW hl (kX6_bestSet (l := l) (G := G) (ad := ad) hok (0 : Int32) u6 I J u10 I11 e12) kLC_0 rfl (gG_V q_902 q_904 q_42 q_133 q_905) nm_X6_bestSet ⟨Nat.le_of_ble_eq_true rfl, Nat.le_of_ble_eq_true rfl⟩ rfl rfl (Nat.le_of_ble_eq_true rfl) ⟨Nat.zero_le _, Nat.zero_le _⟩ dX6_month_29 (fun z13 H locs hW => ?_)
      refine lv_istore (lv' := [(6, .int u10), (0, .ref (ad 0)), (1, .int u3), (2, .int u4), (3, .long u5), (5, .int u6)]) hx hb dX6_month_32 hl (by decide) rfl (fun ls hl => ?_)
      refine lv_lload_n hx hb dX6_month_34 rfl (lv_at hl 4 rfl) ?_
      refine lv_aload_n hx hb dX6_month_35 rfl (lv_at hl 1 rfl) ?_
      refine lv_iload hx hb dX6_month_36 (lv_at hl 5 rfl) ?_
      obtain ⟨u14, e15, h⟩ := bd_o h hn
      refine g_callVi (rest := [.long u5]) K hW hl (kX6_likelihood (l := l) (G := G) (ad := ad) hok u6 I11 J u14 e15) kLC_0 rfl (gG_V q_923 q_925 q_45 q_133 q_926) nm_X6_likelihood ⟨Nat.le_of_ble_eq_true rfl, Nat.le_of_ble_eq_true rfl⟩ rfl rfl (Nat.le_of_ble_eq_true rfl) ⟨Nat.zero_le _, Nat.zero_le _⟩ dX6_month_38 (fun z16 H locs hW => ?_)
      refine lv_i2l hx hb dX6_month_41 rfl ?_
      refine lv_aload_n hx hb dX6_month_42 rfl (lv_at hl 1 rfl) ?_
      refine lv_iload hx hb dX6_month_43 (lv_at hl 0 rfl) ?_
      obtain ⟨u17, e18, h⟩ := bd_o h hn
      refine g_callVi (rest := [.long (u14).toInt64, .long u5]) K hW hl (kX6_bidTogether (l := l) (G := G) (ad := ad) hok u10 I11 J u17 e18) kLC_0 rfl (gG_V q_910 q_912 q_44 q_133 q_913) nm_X6_bidTogether ⟨Nat.le_of_ble_eq_true rfl, Nat.le_of_ble_eq_true rfl⟩ rfl rfl (Nat.le_of_ble_eq_true rfl) ⟨Nat.zero_le _, Nat.zero_le _⟩ dX6_month_45 (fun z19 H locs hW => ?_)
      refine lv_i2l hx hb dX6_month_48 rfl ?_
      refine lv_lmul hx hb dX6_month_49 ?_
      refine lv_ladd hx hb dX6_month_50 ?_
      obtain ⟨u20, e21, h⟩ := lz_o h
      refine g_nml e21 ?_
      refine lv_lstore_n (lv' := [(3, .long u20), (6, .int u10), (0, .ref (ad 0)), (1, .int u3), (2, .int u4), (5, .int u6)]) hx hb dX6_month_51 rfl hl (by decide) rfl (fun ls hl => ?_)
      obtain ⟨u22, e23, h⟩ := lz_o h
      refine lv_iinc (v := u22) (lv' := [(5, .int u22), (3, .long u20), (6, .int u10), (0, .ref (ad 0)), (1, .int u3), (2, .int u4)]) hx hb dX6_month_52 hl (k := 5) rfl (by rw [e23]; rfl) (by decide) rfl (fun ls hl => ?_)
      refine lv_goto (tgt := 19) hx hb dX6_month_55 (by decide) ?_
      exact ih u3 u4 u20 u22 I11 J _ h hn _ _ hW _ (lv_sub hl [3, 4, 5, 1, 0] rfl) hx1
noncomputable def fX6_month  (x1 : Int32) (x2 : Int32) (I : gI) : Option (Int64 × gI) :=
  gi ((fX6_within x1 (1 : Int32) (60 : Int32)) = 0)
 (some ((-1 : Int64), I))
 (bd (fX6_month_19 FU x1 x2 (0 : Int64) (0 : Int32) I) (pr (fun (u26 : Int64) (I27 : gI) => bd (fX6_allLikelihood I27) (fun (u29 : Int32) => bd (fX6_lowest ((x1).toInt64 * u26) (u29).toInt64 x2) (fun (u32 : Int64) => some (u32, I27))))))
set_option maxHeartbeats 4000000 in
set_option maxRecDepth 100000 in
theorem kX6_month {l : Launch} {G : gG} {ad : Nat → Nat} (hok : gInj LC ad)    (x1 : Int32) (x2 : Int32) (I : gI) (J : gJ) (r : Int64) (I' : gI) (h : fX6_month x1 x2 I = some (r, I')) : gMl l yX6_month cX6_month 7 (some .long) 6 G LC ad [.ref (ad 0), .int x1, .int x2] I J r I' J := by
  refine gMl_of (lst := [(0, .ref (ad 0)), (1, .int x1), (2, .int x2)]) (by decide) hok (Nat.le_of_ble_eq_true rfl) rfl ?_
  intro p e s m args below meth c Q ls K hW hl hfin
  have hn : (some (r, I') : Option (Int64 × gI)) ≠ none := Option.some_ne_none _
  have hx := K.1; have hb := K.2.1; have hown := K.2.2.2.1; have hts := K.2.2.2.2.1
  unfold fX6_month at h
  refine lv_iload_n hx hb dX6_month_0 rfl (lv_at hl 1 rfl) ?_
  refine lv_iconst (v := (1 : Int32)) hx hb dX6_month_1 (by decide) ?_
  refine lv_bipush (v := (60 : Int32)) hx hb dX6_month_2 (by decide) ?_
  refine g_callSi (rest := []) K hW hl (kX6_within (l := l) (G := G) (ad := ad) hok x1 (1 : Int32) (60 : Int32) I J (fX6_within x1 (1 : Int32) (60 : Int32)) rfl) q_440 q_441 q_133 q_442 nm_X6_within ⟨Nat.le_of_ble_eq_true rfl, Nat.le_of_ble_eq_true rfl⟩ rfl rfl (Nat.le_of_ble_eq_true rfl) ⟨Nat.zero_le _, Nat.zero_le _⟩ dX6_month_4 (fun z1 H locs hW => ?_)
  refine lv_if_ne (tgt := 14) hx hb dX6_month_7 (by decide) (fun c2 => ?_) (fun c2 => ?_)
  · replace h := gi_f h c2
    refine lv_lconst (v := (0 : Int64)) hx hb dX6_month_14 rfl ?_
    refine lv_lstore_n (lv' := [(3, .long (0 : Int64)), (0, .ref (ad 0)), (1, .int x1), (2, .int x2)]) hx hb dX6_month_15 rfl hl (by decide) rfl (fun ls hl => ?_)
    refine lv_iconst (v := (0 : Int32)) hx hb dX6_month_16 (by decide) ?_
    refine lv_istore (lv' := [(5, .int (0 : Int32)), (3, .long (0 : Int64)), (0, .ref (ad 0)), (1, .int x1), (2, .int x2)]) hx hb dX6_month_17 hl (by decide) rfl (fun ls hl => ?_)
    obtain ⟨r24, e25, h⟩ := bd_o h hn
    refine tX6_month_19 hok K FU x1 x2 (0 : Int64) (0 : Int32) I J (some r24) e25 (Option.some_ne_none _) _ _ hW _ (lv_sub hl [2, 3, 4, 1, 0] rfl) ?_
    · intro u26 I27 q28 H locs hW ls hl
      replace q28 := Option.some.inj q28
      subst q28
      replace h := pr_o h
      refine lv_iload_n hx hb dX6_month_58 rfl (lv_at hl 1 rfl) ?_
      refine lv_i2l hx hb dX6_month_59 rfl ?_
      refine lv_lload_n hx hb dX6_month_60 rfl (lv_at hl 3 rfl) ?_
      refine lv_lmul hx hb dX6_month_61 ?_
      refine lv_aload_n hx hb dX6_month_62 rfl (lv_at hl 0 rfl) ?_
      obtain ⟨u29, e30, h⟩ := bd_o h hn
      refine g_callVi (rest := [.long ((x1).toInt64 * u26)]) K hW hl (kX6_allLikelihood (l := l) (G := G) (ad := ad) hok I27 J u29 e30) kLC_0 rfl (gG_V q_927 q_929 q_46 q_133 q_930) nm_X6_allLikelihood ⟨Nat.le_of_ble_eq_true rfl, Nat.le_of_ble_eq_true rfl⟩ rfl rfl (Nat.le_of_ble_eq_true rfl) ⟨Nat.zero_le _, Nat.zero_le _⟩ dX6_month_63 (fun z31 H locs hW => ?_)
      refine lv_i2l hx hb dX6_month_66 rfl ?_
      refine lv_iload_n hx hb dX6_month_67 rfl (lv_at hl 2 rfl) ?_
      obtain ⟨u32, e33, h⟩ := bd_o h hn
      refine g_callSl (rest := []) K hW hl (kX6_lowest (l := l) (G := G) (ad := ad) hok ((x1).toInt64 * u26) (u29).toInt64 x2 I27 J u32 e33) q_932 q_933 q_133 q_934 nm_X6_lowest ⟨Nat.le_of_ble_eq_true rfl, Nat.le_of_ble_eq_true rfl⟩ rfl rfl (Nat.le_of_ble_eq_true rfl) ⟨Nat.zero_le _, Nat.zero_le _⟩ dX6_month_68 (fun H locs hW => ?_)
      obtain ⟨a1, a2⟩ := so2 h
      replace hW := gWd_nI a2 hW
      exact g_nml a1 (hfin _ _ _ _ hW dX6_month_71)
  · replace h := gi_t h c2
    refine lv_ldc2 (v := (-1 : Int64)) hx hb hown (hts _ q_922) dX6_month_10 ?_
    obtain ⟨a1, a2⟩ := so2 h
    replace hW := gWd_nI a2 hW
    exact g_nml a1 (hfin _ _ _ _ hW dX6_month_13)
noncomputable def fX6_hoped_20b  (rec : Int32 → Int32 → Int64 → Int64 → Int32 → Int64 → Int32 → gI → Option ((Int64))) (u9 : Int32) (u10 : Int32) (u11 : Int64) (u12 : Int64) (u13 : Int32) (u14 : Int64) (u15 : Int32) (I : gI) : Option ((Int64)) :=
  gi ((5 : Int32) ≤ u15)
 (some u14)
 (bd (fX6_likelihood u15 I) (fun (u18 : Int32) => gd (vp_in u15 5) (lz ((u14 + ((u18).toInt64 * (jlmax (((I 3 (u15).toNatClampNeg)).toInt64 * u12) u11)))) (fun (u22 : Int64) => lz ((u15 + (1 : Int32))) (fun (u24 : Int32) => rec u9 u10 u11 u12 u13 u22 u24 I)))))
noncomputable def fX6_hoped_20  : Nat → Int32 → Int32 → Int64 → Int64 → Int32 → Int64 → Int32 → gI → Option ((Int64))
  | 0 => fun _ _ _ _ _ _ _ _ => none
  | n + 1 => fX6_hoped_20b  (fX6_hoped_20  n)
set_option maxHeartbeats 4000000 in
set_option maxRecDepth 100000 in
theorem tX6_hoped_20 {l : Launch} {G : gG} {ad : Nat → Nat} {p : Program} {e : Env} {s : State} {m : MethodId} {args : Array Value} {below : List Frame} {meth : Method} {c : Code} {Q : State → Prop} (hok : gInj LC ad) (K : gCx G (gA LC ad) p s m args c cX6_hoped 11 RX6)  : ∀ (n : Nat) (u9 : Int32) (u10 : Int32) (u11 : Int64) (u12 : Int64) (u13 : Int32) (u14 : Int64) (u15 : Int32) (I : gI) (J : gJ) (out : Option ((Int64))), fX6_hoped_20  n u9 u10 u11 u12 u13 u14 u15 I = out → out ≠ none → ∀ (H : Heap) (locs : List Loc), gWd G LC ad (gA LC ad) s.heap I J H locs → ∀ (ls : Array Slot), lv_has ls 11 [(0, .ref (ad 0)), (1, .int u9), (2, .int u10), (3, .long u11), (5, .long u12), (7, .int u13), (8, .long u14), (10, .int u15)] → (∀ (y16 : Int64), some y16 = out → ∀ (H : Heap) (locs : List Loc), gWd G LC ad (gA LC ad) s.heap I J H locs → ∀ (ls : Array Slot), lv_has ls 11 [(0, .ref (ad 0)), (1, .int u9), (2, .int u10), (5, .long u12), (7, .int u13), (8, .long y16)] → W p l e (gRm 3) s m args below meth c H locs 0 0 Q (F0 m 63 ls [])) → W p l e (gRm 3) s m args below meth c H locs 0 0 Q (F0 m 20 ls []) := by
  have hx := K.1; have hb := K.2.1; have hown := K.2.2.2.1; have hts := K.2.2.2.2.1
  intro n
  induction n with
  | zero => intro u9 u10 u11 u12 u13 u14 u15 I J out h hn; exact absurd h.symm hn
  | succ n ih =>
    intro u9 u10 u11 u12 u13 u14 u15 I J out h hn H locs hW ls hl hx1
    replace h : fX6_hoped_20b  (fX6_hoped_20  n) u9 u10 u11 u12 u13 u14 u15 I = out := h
    unfold fX6_hoped_20b at h
    refine lv_iload hx hb dX6_hoped_20 (lv_at hl 7 rfl) ?_
    refine lv_iconst (v := (5 : Int32)) hx hb dX6_hoped_22 (by decide) ?_
    refine lv_icmp_ge (tgt := 63) hx hb dX6_hoped_23 (by decide) (fun c17 => ?_) (fun c17 => ?_)
    · replace h := gi_t h c17
      exact hx1 u14 h _ _ hW _ (lv_sub hl [0, 1, 2, 4, 5, 6] rfl)
    · replace h := gi_f h c17
      refine lv_lload hx hb dX6_hoped_26 (lv_at hl 6 rfl) ?_
      refine lv_aload_n hx hb dX6_hoped_28 rfl (lv_at hl 0 rfl) ?_
      refine lv_iload hx hb dX6_hoped_29 (lv_at hl 7 rfl) ?_
      obtain ⟨u18, e19, h⟩ := bd_o h hn
      refine g_callVi (rest := [.long u14]) K hW hl (kX6_likelihood (l := l) (G := G) (ad := ad) hok u15 I J u18 e19) kLC_0 rfl (gG_V q_923 q_925 q_45 q_133 q_926) nm_X6_likelihood ⟨Nat.le_of_ble_eq_true rfl, Nat.le_of_ble_eq_true rfl⟩ rfl rfl (Nat.le_of_ble_eq_true rfl) ⟨Nat.zero_le _, Nat.zero_le _⟩ dX6_hoped_31 (fun z20 H locs hW => ?_)
      refine lv_i2l hx hb dX6_hoped_34 rfl ?_
      refine lv_aload_n hx hb dX6_hoped_35 rfl (lv_at hl 0 rfl) ?_
      refine g_get K hW (t := 2) (ci := 5) (k := 0) (v := .ref (ad 1)) kLC_0 rfl rfl i_X6 (by decide) q_393 rfl (gfv2 rLC_0_0) dX6_hoped_36 ?_
      refine g_get K hW (t := 2) (ci := 0) (k := 1) (v := .ref (ad 3)) kLC_1 rfl rfl i_X0 (by decide) q_214 rfl (gfv2 rLC_1_1) dX6_hoped_39 ?_
      refine lv_iload hx hb dX6_hoped_42 (lv_at hl 7 rfl) ?_
      obtain ⟨g21, h⟩ := gd_o h hn
      refine g_iald K hW kLC_3 g21 rfl dX6_hoped_44 ?_
      refine lv_i2l hx hb dX6_hoped_45 rfl ?_
      refine lv_lload hx hb dX6_hoped_46 (lv_at hl 4 rfl) ?_
      refine lv_lmul hx hb dX6_hoped_48 ?_
      refine lv_lload_n hx hb dX6_hoped_49 rfl (lv_at hl 3 rfl) ?_
      refine g_lmax K hl q_943 (by decide) (Nat.le_of_ble_eq_true rfl) ⟨Nat.zero_le _, Nat.zero_le _⟩ dX6_hoped_50 ?_
      refine lv_lmul hx hb dX6_hoped_53 ?_
      refine lv_ladd hx hb dX6_hoped_54 ?_
      obtain ⟨u22, e23, h⟩ := lz_o h
      refine g_nml e23 ?_
      refine lv_lstore (lv' := [(8, .long u22), (0, .ref (ad 0)), (1, .int u9), (2, .int u10), (3, .long u11), (5, .long u12), (7, .int u13), (10, .int u15)]) hx hb dX6_hoped_55 hl (by decide) rfl (fun ls hl => ?_)
      obtain ⟨u24, e25, h⟩ := lz_o h
      refine lv_iinc (v := u24) (lv' := [(10, .int u24), (8, .long u22), (0, .ref (ad 0)), (1, .int u9), (2, .int u10), (3, .long u11), (5, .long u12), (7, .int u13)]) hx hb dX6_hoped_57 hl (k := 7) rfl (by rw [e25]; rfl) (by decide) rfl (fun ls hl => ?_)
      refine lv_goto (tgt := 20) hx hb dX6_hoped_60 (by decide) ?_
      exact ih u9 u10 u11 u12 u13 u22 u24 I J _ h hn _ _ hW _ (lv_sub hl [2, 3, 4, 5, 6, 7, 1, 0] rfl) hx1
noncomputable def fX6_hoped_8b  (rec : Int32 → Int32 → Int64 → Int64 → Int32 → gI → Option ((Int64 × Int64))) (u1 : Int32) (u2 : Int32) (u3 : Int64) (u4 : Int64) (u5 : Int32) (I : gI) : Option ((Int64 × Int64)) :=
  gi (u1 ≤ u5)
 (some (u3, u4))
 (bd (fX6_hoped_20 FU u1 u2 u3 u4 u5 (0 : Int64) (0 : Int32) I) (fun (u28 : Int64) => bd (fX6_allLikelihood I) (fun (u30 : Int32) => lz ((u4 * (u30).toInt64)) (fun (u33 : Int64) => lz ((u5 + (1 : Int32))) (fun (u35 : Int32) => rec u1 u2 u28 u33 u35 I)))))
noncomputable def fX6_hoped_8  : Nat → Int32 → Int32 → Int64 → Int64 → Int32 → gI → Option ((Int64 × Int64))
  | 0 => fun _ _ _ _ _ _ => none
  | n + 1 => fX6_hoped_8b  (fX6_hoped_8  n)
set_option maxHeartbeats 4000000 in
set_option maxRecDepth 100000 in
theorem tX6_hoped_8 {l : Launch} {G : gG} {ad : Nat → Nat} {p : Program} {e : Env} {s : State} {m : MethodId} {args : Array Value} {below : List Frame} {meth : Method} {c : Code} {Q : State → Prop} (hok : gInj LC ad) (K : gCx G (gA LC ad) p s m args c cX6_hoped 11 RX6)  : ∀ (n : Nat) (u1 : Int32) (u2 : Int32) (u3 : Int64) (u4 : Int64) (u5 : Int32) (I : gI) (J : gJ) (out : Option ((Int64 × Int64))), fX6_hoped_8  n u1 u2 u3 u4 u5 I = out → out ≠ none → ∀ (H : Heap) (locs : List Loc), gWd G LC ad (gA LC ad) s.heap I J H locs → ∀ (ls : Array Slot), lv_has ls 11 [(0, .ref (ad 0)), (1, .int u1), (2, .int u2), (3, .long u3), (5, .long u4), (7, .int u5)] → (∀ (y6 : Int64) (y7 : Int64), some (y6, y7) = out → ∀ (H : Heap) (locs : List Loc), gWd G LC ad (gA LC ad) s.heap I J H locs → ∀ (ls : Array Slot), lv_has ls 11 [(2, .int u2), (3, .long y6), (5, .long y7)] → W p l e (gRm 3) s m args below meth c H locs 0 0 Q (F0 m 82 ls [])) → W p l e (gRm 3) s m args below meth c H locs 0 0 Q (F0 m 8 ls []) := by
  have hx := K.1; have hb := K.2.1; have hown := K.2.2.2.1; have hts := K.2.2.2.2.1
  intro n
  induction n with
  | zero => intro u1 u2 u3 u4 u5 I J out h hn; exact absurd h.symm hn
  | succ n ih =>
    intro u1 u2 u3 u4 u5 I J out h hn H locs hW ls hl hx1
    replace h : fX6_hoped_8b  (fX6_hoped_8  n) u1 u2 u3 u4 u5 I = out := h
    unfold fX6_hoped_8b at h
    refine lv_iload hx hb dX6_hoped_8 (lv_at hl 5 rfl) ?_
    refine lv_iload_n hx hb dX6_hoped_10 rfl (lv_at hl 1 rfl) ?_
    refine lv_icmp_ge (tgt := 82) hx hb dX6_hoped_11 (by decide) (fun c8 => ?_) (fun c8 => ?_)
    · replace h := gi_t h c8
      exact hx1 u3 u4 h _ _ hW _ (lv_sub hl [2, 3, 4] rfl)
    · replace h := gi_f h c8
      refine lv_lconst (v := (0 : Int64)) hx hb dX6_hoped_14 rfl ?_
      refine lv_lstore (lv' := [(8, .long (0 : Int64)), (0, .ref (ad 0)), (1, .int u1), (2, .int u2), (3, .long u3), (5, .long u4), (7, .int u5)]) hx hb dX6_hoped_15 hl (by decide) rfl (fun ls hl => ?_)
      refine lv_iconst (v := (0 : Int32)) hx hb dX6_hoped_17 (by decide) ?_
      refine lv_istore (lv' := [(10, .int (0 : Int32)), (8, .long (0 : Int64)), (0, .ref (ad 0)), (1, .int u1), (2, .int u2), (3, .long u3), (5, .long u4), (7, .int u5)]) hx hb dX6_hoped_18 hl (by decide) rfl (fun ls hl => ?_)
      obtain ⟨r26, e27, h⟩ := bd_o h hn
      refine tX6_hoped_20 hok K FU u1 u2 u3 u4 u5 (0 : Int64) (0 : Int32) I J (some r26) e27 (Option.some_ne_none _) _ _ hW _ (lv_sub hl [2, 3, 4, 5, 6, 7, 1, 0] rfl) ?_
      · intro u28 q29 H locs hW ls hl
        replace q29 := Option.some.inj q29
        subst q29
        refine lv_lload hx hb dX6_hoped_63 (lv_at hl 5 rfl) ?_
        refine lv_lstore_n (lv' := [(3, .long u28), (0, .ref (ad 0)), (1, .int u1), (2, .int u2), (5, .long u4), (7, .int u5), (8, .long u28)]) hx hb dX6_hoped_65 rfl hl (by decide) rfl (fun ls hl => ?_)
        refine lv_lload hx hb dX6_hoped_66 (lv_at hl 4 rfl) ?_
        refine lv_aload_n hx hb dX6_hoped_68 rfl (lv_at hl 1 rfl) ?_
        obtain ⟨u30, e31, h⟩ := bd_o h hn
        refine g_callVi (rest := [.long u4]) K hW hl (kX6_allLikelihood (l := l) (G := G) (ad := ad) hok I J u30 e31) kLC_0 rfl (gG_V q_927 q_929 q_46 q_133 q_930) nm_X6_allLikelihood ⟨Nat.le_of_ble_eq_true rfl, Nat.le_of_ble_eq_true rfl⟩ rfl rfl (Nat.le_of_ble_eq_true rfl) ⟨Nat.zero_le _, Nat.zero_le _⟩ dX6_hoped_69 (fun z32 H locs hW => ?_)
        refine lv_i2l hx hb dX6_hoped_72 rfl ?_
        refine lv_lmul hx hb dX6_hoped_73 ?_
        obtain ⟨u33, e34, h⟩ := lz_o h
        refine g_nml e34 ?_
        refine lv_lstore (lv' := [(5, .long u33), (3, .long u28), (0, .ref (ad 0)), (1, .int u1), (2, .int u2), (7, .int u5), (8, .long u28)]) hx hb dX6_hoped_74 hl (by decide) rfl (fun ls hl => ?_)
        obtain ⟨u35, e36, h⟩ := lz_o h
        refine lv_iinc (v := u35) (lv' := [(7, .int u35), (5, .long u33), (3, .long u28), (0, .ref (ad 0)), (1, .int u1), (2, .int u2), (8, .long u28)]) hx hb dX6_hoped_76 hl (k := 5) rfl (by rw [e36]; rfl) (by decide) rfl (fun ls hl => ?_)
        refine lv_goto (tgt := 8) hx hb dX6_hoped_79 (by decide) ?_
        exact ih u1 u2 u28 u33 u35 I J _ h hn _ _ hW _ (lv_sub hl [3, 4, 5, 2, 1, 0] rfl) hx1
noncomputable def fX6_hoped  (x1 : Int32) (x2 : Int32) (I : gI) : Option (Int64) :=
  bd (fX6_hoped_8 FU x1 x2 (0 : Int64) (1 : Int64) (0 : Int32) I) (pr (fun (u39 : Int64) (u40 : Int64) => bd (fX6_lowest u39 u40 x2) (fun (u42 : Int64) => some u42)))
set_option maxHeartbeats 4000000 in
set_option maxRecDepth 100000 in
theorem kX6_hoped {l : Launch} {G : gG} {ad : Nat → Nat} (hok : gInj LC ad)    (x1 : Int32) (x2 : Int32) (I : gI) (J : gJ) (r : Int64) (h : fX6_hoped x1 x2 I = some r) : gMl l yX6_hoped cX6_hoped 11 (some .long) 3 G LC ad [.ref (ad 0), .int x1, .int x2] I J r I J := by
  refine gMl_of (lst := [(0, .ref (ad 0)), (1, .int x1), (2, .int x2)]) (by decide) hok (Nat.le_of_ble_eq_true rfl) rfl ?_
  intro p e s m args below meth c Q ls K hW hl hfin
  have hn : (some r : Option (Int64)) ≠ none := Option.some_ne_none _
  have hx := K.1; have hb := K.2.1; have hown := K.2.2.2.1; have hts := K.2.2.2.2.1
  unfold fX6_hoped at h
  refine lv_lconst (v := (0 : Int64)) hx hb dX6_hoped_0 rfl ?_
  refine lv_lstore_n (lv' := [(3, .long (0 : Int64)), (0, .ref (ad 0)), (1, .int x1), (2, .int x2)]) hx hb dX6_hoped_1 rfl hl (by decide) rfl (fun ls hl => ?_)
  refine lv_lconst (v := (1 : Int64)) hx hb dX6_hoped_2 rfl ?_
  refine lv_lstore (lv' := [(5, .long (1 : Int64)), (3, .long (0 : Int64)), (0, .ref (ad 0)), (1, .int x1), (2, .int x2)]) hx hb dX6_hoped_3 hl (by decide) rfl (fun ls hl => ?_)
  refine lv_iconst (v := (0 : Int32)) hx hb dX6_hoped_5 (by decide) ?_
  refine lv_istore (lv' := [(7, .int (0 : Int32)), (5, .long (1 : Int64)), (3, .long (0 : Int64)), (0, .ref (ad 0)), (1, .int x1), (2, .int x2)]) hx hb dX6_hoped_6 hl (by decide) rfl (fun ls hl => ?_)
  obtain ⟨r37, e38, h⟩ := bd_o h hn
  refine tX6_hoped_8 hok K FU x1 x2 (0 : Int64) (1 : Int64) (0 : Int32) I J (some r37) e38 (Option.some_ne_none _) _ _ hW _ (lv_sub hl [3, 4, 5, 2, 1, 0] rfl) ?_
  · intro u39 u40 q41 H locs hW ls hl
    replace q41 := Option.some.inj q41
    subst q41
    replace h := pr_o h
    refine lv_lload_n hx hb dX6_hoped_82 rfl (lv_at hl 1 rfl) ?_
    refine lv_lload hx hb dX6_hoped_83 (lv_at hl 2 rfl) ?_
    refine lv_iload_n hx hb dX6_hoped_85 rfl (lv_at hl 0 rfl) ?_
    obtain ⟨u42, e43, h⟩ := bd_o h hn
    refine g_callSl (rest := []) K hW hl (kX6_lowest (l := l) (G := G) (ad := ad) hok u39 u40 x2 I J u42 e43) q_932 q_933 q_133 q_934 nm_X6_lowest ⟨Nat.le_of_ble_eq_true rfl, Nat.le_of_ble_eq_true rfl⟩ rfl rfl (Nat.le_of_ble_eq_true rfl) ⟨Nat.zero_le _, Nat.zero_le _⟩ dX6_hoped_86 (fun H locs hW => ?_)
    obtain a1 := so1 h
    exact g_nml a1 (hfin _ _ _ _ hW dX6_hoped_89)
theorem nm_X6_hoped : gNm yX6_hoped 2 := by decide +kernel
noncomputable def fX6_hope  (x1 : Int32) (x2 : Int32) (I : gI) : Option (Int64) :=
  gi ((fX6_within x1 (0 : Int32) (6 : Int32)) = 0)
 (some (-1 : Int64))
 (bd (fX6_hoped x1 x2 I) (fun (u3 : Int64) => some u3))
set_option maxHeartbeats 4000000 in
set_option maxRecDepth 100000 in
theorem kX6_hope {l : Launch} {G : gG} {ad : Nat → Nat} (hok : gInj LC ad)    (x1 : Int32) (x2 : Int32) (I : gI) (J : gJ) (r : Int64) (h : fX6_hope x1 x2 I = some r) : gMl l yX6_hope cX6_hope 3 (some .long) 4 G LC ad [.ref (ad 0), .int x1, .int x2] I J r I J := by
  refine gMl_of (lst := [(0, .ref (ad 0)), (1, .int x1), (2, .int x2)]) (by decide) hok (Nat.le_of_ble_eq_true rfl) rfl ?_
  intro p e s m args below meth c Q ls K hW hl hfin
  have hn : (some r : Option (Int64)) ≠ none := Option.some_ne_none _
  have hx := K.1; have hb := K.2.1; have hown := K.2.2.2.1; have hts := K.2.2.2.2.1
  unfold fX6_hope at h
  refine lv_iload_n hx hb dX6_hope_0 rfl (lv_at hl 1 rfl) ?_
  refine lv_iconst (v := (0 : Int32)) hx hb dX6_hope_1 (by decide) ?_
  refine lv_bipush (v := (6 : Int32)) hx hb dX6_hope_2 (by decide) ?_
  refine g_callSi (rest := []) K hW hl (kX6_within (l := l) (G := G) (ad := ad) hok x1 (0 : Int32) (6 : Int32) I J (fX6_within x1 (0 : Int32) (6 : Int32)) rfl) q_440 q_441 q_133 q_442 nm_X6_within ⟨Nat.le_of_ble_eq_true rfl, Nat.le_of_ble_eq_true rfl⟩ rfl rfl (Nat.le_of_ble_eq_true rfl) ⟨Nat.zero_le _, Nat.zero_le _⟩ dX6_hope_4 (fun z1 H locs hW => ?_)
  refine lv_if_eq (tgt := 19) hx hb dX6_hope_7 (by decide) (fun c2 => ?_) (fun c2 => ?_)
  · replace h := gi_t h c2
    refine lv_ldc2 (v := (-1 : Int64)) hx hb hown (hts _ q_922) dX6_hope_19 ?_
    obtain a1 := so1 h
    exact g_nml a1 (hfin _ _ _ _ hW dX6_hope_22)
  · replace h := gi_f h c2
    refine lv_aload_n hx hb dX6_hope_10 rfl (lv_at hl 0 rfl) ?_
    refine lv_iload_n hx hb dX6_hope_11 rfl (lv_at hl 1 rfl) ?_
    refine lv_iload_n hx hb dX6_hope_12 rfl (lv_at hl 2 rfl) ?_
    obtain ⟨u3, e4, h⟩ := bd_o h hn
    refine g_callVl (rest := []) K hW hl (kX6_hoped (l := l) (G := G) (ad := ad) hok x1 x2 I J u3 e4) kLC_0 rfl (gG_V q_939 q_941 q_47 q_133 q_942) nm_X6_hoped ⟨Nat.le_of_ble_eq_true rfl, Nat.le_of_ble_eq_true rfl⟩ rfl rfl (Nat.le_of_ble_eq_true rfl) ⟨Nat.zero_le _, Nat.zero_le _⟩ dX6_hope_13 (fun H locs hW => ?_)
    refine lv_goto (tgt := 22) hx hb dX6_hope_16 (by decide) ?_
    obtain a1 := so1 h
    exact g_nml a1 (hfin _ _ _ _ hW dX6_hope_22)
noncomputable def fX6_keep  (x1 : Int32) (I : gI) : Option (Int32) :=
  gi ((fX6_within x1 (0 : Int32) (6 : Int32)) = 0)
 (some (0 : Int32))
 (bd (fX6_hoped x1 (0 : Int32) I) (fun (u3 : Int64) => gd (vp_in (I 11 5) 5) (bd (fX6_hoped x1 (1 : Int32) I) (fun (u7 : Int64) => gi ((lg_cmp u3 (((I 3 ((I 11 5)).toNatClampNeg)).toInt64 * u7)) ≤ 0)
 (some (0 : Int32))
 (some (1 : Int32))))))
set_option maxHeartbeats 4000000 in
set_option maxRecDepth 100000 in
theorem kX6_keep {l : Launch} {G : gG} {ad : Nat → Nat} (hok : gInj LC ad)    (x1 : Int32) (I : gI) (J : gJ) (r : Int32) (h : fX6_keep x1 I = some r) : gMi l yX6_keep cX6_keep 2 (some .boolean) 4 G LC ad [.ref (ad 0), .int x1] I J r (r = 0 ∨ r = 1) I J := by
  refine gMz_of (lst := [(0, .ref (ad 0)), (1, .int x1)]) (by decide) hok (Nat.le_of_ble_eq_true rfl) rfl ?_
  intro p e s m args below meth c Q ls K hW hl hfin
  have hn : (some r : Option (Int32)) ≠ none := Option.some_ne_none _
  have hx := K.1; have hb := K.2.1; have hown := K.2.2.2.1; have hts := K.2.2.2.2.1
  unfold fX6_keep at h
  refine lv_iload_n hx hb dX6_keep_0 rfl (lv_at hl 1 rfl) ?_
  refine lv_iconst (v := (0 : Int32)) hx hb dX6_keep_1 (by decide) ?_
  refine lv_bipush (v := (6 : Int32)) hx hb dX6_keep_2 (by decide) ?_
  refine g_callSi (rest := []) K hW hl (kX6_within (l := l) (G := G) (ad := ad) hok x1 (0 : Int32) (6 : Int32) I J (fX6_within x1 (0 : Int32) (6 : Int32)) rfl) q_440 q_441 q_133 q_442 nm_X6_within ⟨Nat.le_of_ble_eq_true rfl, Nat.le_of_ble_eq_true rfl⟩ rfl rfl (Nat.le_of_ble_eq_true rfl) ⟨Nat.zero_le _, Nat.zero_le _⟩ dX6_keep_4 (fun z1 H locs hW => ?_)
  refine lv_if_ne (tgt := 12) hx hb dX6_keep_7 (by decide) (fun c2 => ?_) (fun c2 => ?_)
  · replace h := gi_f h c2
    refine lv_aload_n hx hb dX6_keep_12 rfl (lv_at hl 0 rfl) ?_
    refine lv_iload_n hx hb dX6_keep_13 rfl (lv_at hl 1 rfl) ?_
    refine lv_iconst (v := (0 : Int32)) hx hb dX6_keep_14 (by decide) ?_
    obtain ⟨u3, e4, h⟩ := bd_o h hn
    refine g_callVl (rest := []) K hW hl (kX6_hoped (l := l) (G := G) (ad := ad) hok x1 (0 : Int32) I J u3 e4) kLC_0 rfl (gG_V q_939 q_941 q_47 q_133 q_942) nm_X6_hoped ⟨Nat.le_of_ble_eq_true rfl, Nat.le_of_ble_eq_true rfl⟩ rfl rfl (Nat.le_of_ble_eq_true rfl) ⟨Nat.zero_le _, Nat.zero_le _⟩ dX6_keep_15 (fun H locs hW => ?_)
    refine lv_aload_n hx hb dX6_keep_18 rfl (lv_at hl 0 rfl) ?_
    refine g_get K hW (t := 2) (ci := 5) (k := 0) (v := .ref (ad 1)) kLC_0 rfl rfl i_X6 (by decide) q_393 rfl (gfv2 rLC_0_0) dX6_keep_19 ?_
    refine g_get K hW (t := 2) (ci := 0) (k := 1) (v := .ref (ad 3)) kLC_1 rfl rfl i_X0 (by decide) q_214 rfl (gfv2 rLC_1_1) dX6_keep_22 ?_
    refine lv_aload_n hx hb dX6_keep_25 rfl (lv_at hl 0 rfl) ?_
    refine g_get K hW (t := 2) (ci := 5) (k := 0) (v := .ref (ad 1)) kLC_0 rfl rfl i_X6 (by decide) q_393 rfl (gfv2 rLC_0_0) dX6_keep_26 ?_
    refine g_get K hW (t := 2) (ci := 0) (k := 9) (v := .ref (ad 11)) kLC_1 rfl rfl i_X0 (by decide) q_232 rfl (gfv2 rLC_1_9) dX6_keep_29 ?_
    refine g_get K hW (t := 0) (ci := 4) (k := 5) (v := .int (I 11 5)) kLC_11 rfl rfl i_X5 (by decide) q_182 rfl rfl dX6_keep_32 ?_
    obtain ⟨g6, h⟩ := gd_o h hn
    refine g_iald K hW kLC_3 g6 rfl dX6_keep_35 ?_
    refine lv_i2l hx hb dX6_keep_36 rfl ?_
    refine lv_aload_n hx hb dX6_keep_37 rfl (lv_at hl 0 rfl) ?_
    refine lv_iload_n hx hb dX6_keep_38 rfl (lv_at hl 1 rfl) ?_
    refine lv_iconst (v := (1 : Int32)) hx hb dX6_keep_39 (by decide) ?_
    obtain ⟨u7, e8, h⟩ := bd_o h hn
    refine g_callVl (rest := [.long ((I 3 ((I 11 5)).toNatClampNeg)).toInt64, .long u3]) K hW hl (kX6_hoped (l := l) (G := G) (ad := ad) hok x1 (1 : Int32) I J u7 e8) kLC_0 rfl (gG_V q_939 q_941 q_47 q_133 q_942) nm_X6_hoped ⟨Nat.le_of_ble_eq_true rfl, Nat.le_of_ble_eq_true rfl⟩ rfl rfl (Nat.le_of_ble_eq_true rfl) ⟨Nat.zero_le _, Nat.zero_le _⟩ dX6_keep_40 (fun H locs hW => ?_)
    refine lv_lmul hx hb dX6_keep_43 ?_
    refine W.lcmp hx hb dX6_keep_44 ?_
    refine lv_if_le (tgt := 52) hx hb dX6_keep_45 (by decide) (fun c10 => ?_) (fun c10 => ?_)
    · replace h := gi_t h c10
      refine lv_iconst (v := (0 : Int32)) hx hb dX6_keep_52 (by decide) ?_
      obtain a1 := so1 h
      exact g_nmi a1 (hfin _ _ _ _ (a1 ▸ (Or.inl rfl)) hW dX6_keep_53)
    · replace h := gi_f h c10
      refine lv_iconst (v := (1 : Int32)) hx hb dX6_keep_48 (by decide) ?_
      refine lv_goto (tgt := 53) hx hb dX6_keep_49 (by decide) ?_
      obtain a1 := so1 h
      exact g_nmi a1 (hfin _ _ _ _ (a1 ▸ (Or.inr rfl)) hW dX6_keep_53)
  · replace h := gi_t h c2
    refine lv_iconst (v := (0 : Int32)) hx hb dX6_keep_10 (by decide) ?_
    obtain a1 := so1 h
    exact g_nmi a1 (hfin _ _ _ _ (a1 ▸ (Or.inl rfl)) hW dX6_keep_11)
noncomputable def fX6_chance  (x1 : Int32) (x2 : Int32) (I : gI) : Option (Int64) :=
  gi ((fX6_isSort x1) = 0)
 (some (-1 : Int64))
 (bd (fX6_likelihood x1 I) (fun (u3 : Int32) => bd (fX6_allLikelihood I) (fun (u6 : Int32) => bd (fX6_lowest (u3).toInt64 (u6).toInt64 x2) (fun (u9 : Int64) => some u9))))
set_option maxHeartbeats 4000000 in
set_option maxRecDepth 100000 in
theorem kX6_chance {l : Launch} {G : gG} {ad : Nat → Nat} (hok : gInj LC ad)    (x1 : Int32) (x2 : Int32) (I : gI) (J : gJ) (r : Int64) (h : fX6_chance x1 x2 I = some r) : gMl l yX6_chance cX6_chance 3 (some .long) 3 G LC ad [.ref (ad 0), .int x1, .int x2] I J r I J := by
  refine gMl_of (lst := [(0, .ref (ad 0)), (1, .int x1), (2, .int x2)]) (by decide) hok (Nat.le_of_ble_eq_true rfl) rfl ?_
  intro p e s m args below meth c Q ls K hW hl hfin
  have hn : (some r : Option (Int64)) ≠ none := Option.some_ne_none _
  have hx := K.1; have hb := K.2.1; have hown := K.2.2.2.1; have hts := K.2.2.2.2.1
  unfold fX6_chance at h
  refine lv_iload_n hx hb dX6_chance_0 rfl (lv_at hl 1 rfl) ?_
  refine g_callSi (rest := []) K hW hl (kX6_isSort (l := l) (G := G) (ad := ad) hok x1 I J (fX6_isSort x1) rfl) q_437 q_438 q_133 q_439 nm_X6_isSort ⟨Nat.le_of_ble_eq_true rfl, Nat.le_of_ble_eq_true rfl⟩ rfl rfl (Nat.le_of_ble_eq_true rfl) ⟨Nat.zero_le _, Nat.zero_le _⟩ dX6_chance_1 (fun z1 H locs hW => ?_)
  refine lv_if_eq (tgt := 25) hx hb dX6_chance_4 (by decide) (fun c2 => ?_) (fun c2 => ?_)
  · replace h := gi_t h c2
    refine lv_ldc2 (v := (-1 : Int64)) hx hb hown (hts _ q_922) dX6_chance_25 ?_
    obtain a1 := so1 h
    exact g_nml a1 (hfin _ _ _ _ hW dX6_chance_28)
  · replace h := gi_f h c2
    refine lv_aload_n hx hb dX6_chance_7 rfl (lv_at hl 0 rfl) ?_
    refine lv_iload_n hx hb dX6_chance_8 rfl (lv_at hl 1 rfl) ?_
    obtain ⟨u3, e4, h⟩ := bd_o h hn
    refine g_callVi (rest := []) K hW hl (kX6_likelihood (l := l) (G := G) (ad := ad) hok x1 I J u3 e4) kLC_0 rfl (gG_V q_923 q_925 q_45 q_133 q_926) nm_X6_likelihood ⟨Nat.le_of_ble_eq_true rfl, Nat.le_of_ble_eq_true rfl⟩ rfl rfl (Nat.le_of_ble_eq_true rfl) ⟨Nat.zero_le _, Nat.zero_le _⟩ dX6_chance_9 (fun z5 H locs hW => ?_)
    refine lv_i2l hx hb dX6_chance_12 rfl ?_
    refine lv_aload_n hx hb dX6_chance_13 rfl (lv_at hl 0 rfl) ?_
    obtain ⟨u6, e7, h⟩ := bd_o h hn
    refine g_callVi (rest := [.long (u3).toInt64]) K hW hl (kX6_allLikelihood (l := l) (G := G) (ad := ad) hok I J u6 e7) kLC_0 rfl (gG_V q_927 q_929 q_46 q_133 q_930) nm_X6_allLikelihood ⟨Nat.le_of_ble_eq_true rfl, Nat.le_of_ble_eq_true rfl⟩ rfl rfl (Nat.le_of_ble_eq_true rfl) ⟨Nat.zero_le _, Nat.zero_le _⟩ dX6_chance_14 (fun z8 H locs hW => ?_)
    refine lv_i2l hx hb dX6_chance_17 rfl ?_
    refine lv_iload_n hx hb dX6_chance_18 rfl (lv_at hl 2 rfl) ?_
    obtain ⟨u9, e10, h⟩ := bd_o h hn
    refine g_callSl (rest := []) K hW hl (kX6_lowest (l := l) (G := G) (ad := ad) hok (u3).toInt64 (u6).toInt64 x2 I J u9 e10) q_932 q_933 q_133 q_934 nm_X6_lowest ⟨Nat.le_of_ble_eq_true rfl, Nat.le_of_ble_eq_true rfl⟩ rfl rfl (Nat.le_of_ble_eq_true rfl) ⟨Nat.zero_le _, Nat.zero_le _⟩ dX6_chance_19 (fun H locs hW => ?_)
    refine lv_goto (tgt := 28) hx hb dX6_chance_22 (by decide) ?_
    obtain a1 := so1 h
    exact g_nml a1 (hfin _ _ _ _ hW dX6_chance_28)
noncomputable def fX6_first_22b  (rec : Int32 → Int32 → Int64 → Int64 → Int32 → gI → Option ((Int32) ⊕ (Unit))) (u6 : Int32) (u7 : Int32) (u8 : Int64) (u9 : Int64) (u10 : Int32) (I : gI) : Option ((Int32) ⊕ (Unit)) :=
  gi ((10 : Int32) < u10)
 (some (Sum.inr ()))
 (bd (fX6_likelihood u6 I) (fun (u13 : Int32) => lz ((u8 * ((u7 - u13)).toInt64)) (fun (u16 : Int64) => lz ((u9 * (u7).toInt64)) (fun (u18 : Int64) => gi (0 < (lg_cmp ((2 : Int64) * u16) u18))
 (lz ((u10 + (1 : Int32))) (fun (u21 : Int32) => rec u6 u7 u16 u18 u21 I))
 (some (Sum.inl u10))))))
noncomputable def fX6_first_22  : Nat → Int32 → Int32 → Int64 → Int64 → Int32 → gI → Option ((Int32) ⊕ (Unit))
  | 0 => fun _ _ _ _ _ _ => none
  | n + 1 => fX6_first_22b  (fX6_first_22  n)
set_option maxHeartbeats 4000000 in
set_option maxRecDepth 100000 in
theorem tX6_first_22 {l : Launch} {G : gG} {ad : Nat → Nat} {p : Program} {e : Env} {s : State} {m : MethodId} {args : Array Value} {below : List Frame} {meth : Method} {c : Code} {Q : State → Prop} (hok : gInj LC ad) (K : gCx G (gA LC ad) p s m args c cX6_first 8 RX6)  : ∀ (n : Nat) (u6 : Int32) (u7 : Int32) (u8 : Int64) (u9 : Int64) (u10 : Int32) (I : gI) (J : gJ) (out : Option ((Int32) ⊕ (Unit))), fX6_first_22  n u6 u7 u8 u9 u10 I = out → out ≠ none → ∀ (H : Heap) (locs : List Loc), gWd G LC ad (gA LC ad) s.heap I J H locs → ∀ (ls : Array Slot), lv_has ls 8 [(0, .ref (ad 0)), (1, .int u6), (2, .int u7), (3, .long u8), (5, .long u9), (7, .int u10)] → (∀ (y11 : Int32), some (Sum.inl y11) = out → ∀ (H : Heap) (locs : List Loc), gWd G LC ad (gA LC ad) s.heap I J H locs → ∀ (ls : Array Slot), lv_has ls 8 [(7, .int y11)] → W p l e (gRm 3) s m args below meth c H locs 0 0 Q (F0 m 58 ls [])) → (some (Sum.inr ()) = out → ∀ (H : Heap) (locs : List Loc), gWd G LC ad (gA LC ad) s.heap I J H locs → ∀ (ls : Array Slot), lv_has ls 8 [] → W p l e (gRm 3) s m args below meth c H locs 0 0 Q (F0 m 67 ls [])) → W p l e (gRm 3) s m args below meth c H locs 0 0 Q (F0 m 22 ls []) := by
  have hx := K.1; have hb := K.2.1; have hown := K.2.2.2.1; have hts := K.2.2.2.2.1
  intro n
  induction n with
  | zero => intro u6 u7 u8 u9 u10 I J out h hn; exact absurd h.symm hn
  | succ n ih =>
    intro u6 u7 u8 u9 u10 I J out h hn H locs hW ls hl hx1 hx2
    replace h : fX6_first_22b  (fX6_first_22  n) u6 u7 u8 u9 u10 I = out := h
    unfold fX6_first_22b at h
    refine lv_iload hx hb dX6_first_22 (lv_at hl 5 rfl) ?_
    refine lv_bipush (v := (10 : Int32)) hx hb dX6_first_24 (by decide) ?_
    refine lv_icmp_gt (tgt := 67) hx hb dX6_first_26 (by decide) (fun c12 => ?_) (fun c12 => ?_)
    · replace h := gi_t h c12
      exact hx2 h _ _ hW _ (lv_sub hl [] rfl)
    · replace h := gi_f h c12
      refine lv_lload_n hx hb dX6_first_29 rfl (lv_at hl 3 rfl) ?_
      refine lv_iload_n hx hb dX6_first_30 rfl (lv_at hl 2 rfl) ?_
      refine lv_aload_n hx hb dX6_first_31 rfl (lv_at hl 0 rfl) ?_
      refine lv_iload_n hx hb dX6_first_32 rfl (lv_at hl 1 rfl) ?_
      obtain ⟨u13, e14, h⟩ := bd_o h hn
      refine g_callVi (rest := [.int u7, .long u8]) K hW hl (kX6_likelihood (l := l) (G := G) (ad := ad) hok u6 I J u13 e14) kLC_0 rfl (gG_V q_923 q_925 q_45 q_133 q_926) nm_X6_likelihood ⟨Nat.le_of_ble_eq_true rfl, Nat.le_of_ble_eq_true rfl⟩ rfl rfl (Nat.le_of_ble_eq_true rfl) ⟨Nat.zero_le _, Nat.zero_le _⟩ dX6_first_33 (fun z15 H locs hW => ?_)
      refine lv_isub hx hb dX6_first_36 ?_
      refine lv_i2l hx hb dX6_first_37 rfl ?_
      refine lv_lmul hx hb dX6_first_38 ?_
      obtain ⟨u16, e17, h⟩ := lz_o h
      refine g_nml e17 ?_
      refine lv_lstore_n (lv' := [(3, .long u16), (0, .ref (ad 0)), (1, .int u6), (2, .int u7), (5, .long u9), (7, .int u10)]) hx hb dX6_first_39 rfl hl (by decide) rfl (fun ls hl => ?_)
      refine lv_lload hx hb dX6_first_40 (lv_at hl 4 rfl) ?_
      refine lv_iload_n hx hb dX6_first_42 rfl (lv_at hl 3 rfl) ?_
      refine lv_i2l hx hb dX6_first_43 rfl ?_
      refine lv_lmul hx hb dX6_first_44 ?_
      obtain ⟨u18, e19, h⟩ := lz_o h
      refine g_nml e19 ?_
      refine lv_lstore (lv' := [(5, .long u18), (3, .long u16), (0, .ref (ad 0)), (1, .int u6), (2, .int u7), (7, .int u10)]) hx hb dX6_first_45 hl (by decide) rfl (fun ls hl => ?_)
      refine lv_ldc2 (v := (2 : Int64)) hx hb hown (hts _ q_958) dX6_first_47 ?_
      refine lv_lload_n hx hb dX6_first_50 rfl (lv_at hl 1 rfl) ?_
      refine lv_lmul hx hb dX6_first_51 ?_
      refine lv_lload hx hb dX6_first_52 (lv_at hl 0 rfl) ?_
      refine W.lcmp hx hb dX6_first_54 ?_
      refine lv_if_gt (tgt := 61) hx hb dX6_first_55 (by decide) (fun c20 => ?_) (fun c20 => ?_)
      · replace h := gi_t h c20
        obtain ⟨u21, e22, h⟩ := lz_o h
        refine lv_iinc (v := u21) (lv' := [(7, .int u21), (5, .long u18), (3, .long u16), (0, .ref (ad 0)), (1, .int u6), (2, .int u7)]) hx hb dX6_first_61 hl (k := 5) rfl (by rw [e22]; rfl) (by decide) rfl (fun ls hl => ?_)
        refine lv_goto (tgt := 22) hx hb dX6_first_64 (by decide) ?_
        exact ih u6 u7 u16 u18 u21 I J _ h hn _ _ hW _ (lv_sub hl [3, 4, 5, 2, 1, 0] rfl) hx1 hx2
      · replace h := gi_f h c20
        exact hx1 u10 h _ _ hW _ (lv_sub hl [5] rfl)
noncomputable def fX6_first  (x1 : Int32) (I : gI) : Option (Int32) :=
  gi ((fX6_isSort x1) = 0)
 (some (-1 : Int32))
 (bd (fX6_allLikelihood I) (fun (u3 : Int32) => bd (fX6_first_22 FU x1 u3 (1 : Int64) (1 : Int64) (1 : Int32) I) (sm (fun (u25 : Int32) => some u25) (fun _ => some (-1 : Int32)))))
set_option maxHeartbeats 4000000 in
set_option maxRecDepth 100000 in
theorem kX6_first {l : Launch} {G : gG} {ad : Nat → Nat} (hok : gInj LC ad)    (x1 : Int32) (I : gI) (J : gJ) (r : Int32) (h : fX6_first x1 I = some r) : gMi l yX6_first cX6_first 8 (some .int) 3 G LC ad [.ref (ad 0), .int x1] I J r True I J := by
  refine gMi_of (lst := [(0, .ref (ad 0)), (1, .int x1)]) (by decide) hok (Nat.le_of_ble_eq_true rfl) rfl ?_
  intro p e s m args below meth c Q ls K hW hl hfin
  have hn : (some r : Option (Int32)) ≠ none := Option.some_ne_none _
  have hx := K.1; have hb := K.2.1; have hown := K.2.2.2.1; have hts := K.2.2.2.2.1
  unfold fX6_first at h
  refine lv_iload_n hx hb dX6_first_0 rfl (lv_at hl 1 rfl) ?_
  refine g_callSi (rest := []) K hW hl (kX6_isSort (l := l) (G := G) (ad := ad) hok x1 I J (fX6_isSort x1) rfl) q_437 q_438 q_133 q_439 nm_X6_isSort ⟨Nat.le_of_ble_eq_true rfl, Nat.le_of_ble_eq_true rfl⟩ rfl rfl (Nat.le_of_ble_eq_true rfl) ⟨Nat.zero_le _, Nat.zero_le _⟩ dX6_first_1 (fun z1 H locs hW => ?_)
  refine lv_if_ne (tgt := 9) hx hb dX6_first_4 (by decide) (fun c2 => ?_) (fun c2 => ?_)
  · replace h := gi_f h c2
    refine lv_aload_n hx hb dX6_first_9 rfl (lv_at hl 0 rfl) ?_
    obtain ⟨u3, e4, h⟩ := bd_o h hn
    refine g_callVi (rest := []) K hW hl (kX6_allLikelihood (l := l) (G := G) (ad := ad) hok I J u3 e4) kLC_0 rfl (gG_V q_927 q_929 q_46 q_133 q_930) nm_X6_allLikelihood ⟨Nat.le_of_ble_eq_true rfl, Nat.le_of_ble_eq_true rfl⟩ rfl rfl (Nat.le_of_ble_eq_true rfl) ⟨Nat.zero_le _, Nat.zero_le _⟩ dX6_first_10 (fun z5 H locs hW => ?_)
    refine lv_istore_n (lv' := [(2, .int u3), (0, .ref (ad 0)), (1, .int x1)]) hx hb dX6_first_13 rfl hl (by decide) rfl (fun ls hl => ?_)
    refine lv_lconst (v := (1 : Int64)) hx hb dX6_first_14 rfl ?_
    refine lv_lstore_n (lv' := [(3, .long (1 : Int64)), (2, .int u3), (0, .ref (ad 0)), (1, .int x1)]) hx hb dX6_first_15 rfl hl (by decide) rfl (fun ls hl => ?_)
    refine lv_lconst (v := (1 : Int64)) hx hb dX6_first_16 rfl ?_
    refine lv_lstore (lv' := [(5, .long (1 : Int64)), (3, .long (1 : Int64)), (2, .int u3), (0, .ref (ad 0)), (1, .int x1)]) hx hb dX6_first_17 hl (by decide) rfl (fun ls hl => ?_)
    refine lv_iconst (v := (1 : Int32)) hx hb dX6_first_19 (by decide) ?_
    refine lv_istore (lv' := [(7, .int (1 : Int32)), (5, .long (1 : Int64)), (3, .long (1 : Int64)), (2, .int u3), (0, .ref (ad 0)), (1, .int x1)]) hx hb dX6_first_20 hl (by decide) rfl (fun ls hl => ?_)
    obtain ⟨r23, e24, h⟩ := bd_o h hn
    refine tX6_first_22 hok K FU x1 u3 (1 : Int64) (1 : Int64) (1 : Int32) I J (some r23) e24 (Option.some_ne_none _) _ _ hW _ (lv_sub hl [4, 5, 3, 2, 1, 0] rfl) ?_ ?_
    · intro u25 q26 H locs hW ls hl
      replace q26 := Option.some.inj q26
      subst q26
      replace h := sm_l h
      refine lv_iload hx hb dX6_first_58 (lv_at hl 0 rfl) ?_
      obtain a1 := so1 h
      exact g_nmi a1 (hfin _ _ _ _ hW dX6_first_60)
    · intro q27 H locs hW ls hl
      replace q27 := Option.some.inj q27
      subst q27
      replace h := sm_r h
      refine lv_iconst (v := (-1 : Int32)) hx hb dX6_first_67 (by decide) ?_
      obtain a1 := so1 h
      exact g_nmi a1 (hfin _ _ _ _ hW dX6_first_68)
  · replace h := gi_t h c2
    refine lv_iconst (v := (-1 : Int32)) hx hb dX6_first_7 (by decide) ?_
    obtain a1 := so1 h
    exact g_nmi a1 (hfin _ _ _ _ hW dX6_first_8)
noncomputable def fX6_was_4b  (rec : Int32 → Int32 → gI → Option ((Int32))) (u1 : Int32) (u2 : Int32) (I : gI) : Option ((Int32)) :=
  gi ((5 : Int32) ≤ u2)
 (some u1)
 (bd (fX6_likelihood u2 I) (fun (u5 : Int32) => lz (fun (u8 : Int32) => lz ((u2 + (1 : Int32))) (fun (u12 : Int32) => rec u8 u12 I)) (fun j9 => gi (u5 ≤ 0)
 (j9 u1)
 (lz ((u1 ||| (jshl (1 : Int32) u2))) (fun (u15 : Int32) => j9 u15)))))
noncomputable def fX6_was_4  : Nat → Int32 → Int32 → gI → Option ((Int32))
  | 0 => fun _ _ _ => none
  | n + 1 => fX6_was_4b  (fX6_was_4  n)
set_option maxHeartbeats 4000000 in
set_option maxRecDepth 100000 in
theorem tX6_was_4 {l : Launch} {G : gG} {ad : Nat → Nat} {p : Program} {e : Env} {s : State} {m : MethodId} {args : Array Value} {below : List Frame} {meth : Method} {c : Code} {Q : State → Prop} (hok : gInj LC ad) (K : gCx G (gA LC ad) p s m args c cX6_was 4 RX6)  : ∀ (n : Nat) (u1 : Int32) (u2 : Int32) (I : gI) (J : gJ) (out : Option ((Int32))), fX6_was_4  n u1 u2 I = out → out ≠ none → ∀ (H : Heap) (locs : List Loc), gWd G LC ad (gA LC ad) s.heap I J H locs → ∀ (ls : Array Slot), lv_has ls 4 [(0, .ref (ad 0)), (1, .int u1), (2, .int u2)] → (∀ (y3 : Int32), some y3 = out → ∀ (H : Heap) (locs : List Loc), gWd G LC ad (gA LC ad) s.heap I J H locs → ∀ (ls : Array Slot), lv_has ls 4 [(0, .ref (ad 0)), (1, .int y3)] → W p l e (gRm 3) s m args below meth c H locs 0 0 Q (F0 m 29 ls [])) → W p l e (gRm 3) s m args below meth c H locs 0 0 Q (F0 m 4 ls []) := by
  have hx := K.1; have hb := K.2.1; have hown := K.2.2.2.1; have hts := K.2.2.2.2.1
  intro n
  induction n with
  | zero => intro u1 u2 I J out h hn; exact absurd h.symm hn
  | succ n ih =>
    intro u1 u2 I J out h hn H locs hW ls hl hx1
    replace h : fX6_was_4b  (fX6_was_4  n) u1 u2 I = out := h
    unfold fX6_was_4b at h
    refine lv_iload_n hx hb dX6_was_4 rfl (lv_at hl 2 rfl) ?_
    refine lv_iconst (v := (5 : Int32)) hx hb dX6_was_5 (by decide) ?_
    refine lv_icmp_ge (tgt := 29) hx hb dX6_was_6 (by decide) (fun c4 => ?_) (fun c4 => ?_)
    · replace h := gi_t h c4
      exact hx1 u1 h _ _ hW _ (lv_sub hl [0, 1] rfl)
    · replace h := gi_f h c4
      refine lv_aload_n hx hb dX6_was_9 rfl (lv_at hl 0 rfl) ?_
      refine lv_iload_n hx hb dX6_was_10 rfl (lv_at hl 2 rfl) ?_
      obtain ⟨u5, e6, h⟩ := bd_o h hn
      refine g_callVi (rest := []) K hW hl (kX6_likelihood (l := l) (G := G) (ad := ad) hok u2 I J u5 e6) kLC_0 rfl (gG_V q_923 q_925 q_45 q_133 q_926) nm_X6_likelihood ⟨Nat.le_of_ble_eq_true rfl, Nat.le_of_ble_eq_true rfl⟩ rfl rfl (Nat.le_of_ble_eq_true rfl) ⟨Nat.zero_le _, Nat.zero_le _⟩ dX6_was_11 (fun z7 H locs hW => ?_)
      obtain ⟨j9, e10, h⟩ := lz_o h
      have hj11 : ∀ (u8 : Int32), j9 u8 = out → ∀ (H : Heap) (locs : List Loc), gWd G LC ad (gA LC ad) s.heap I J H locs → ∀ (ls : Array Slot), lv_has ls 4 [(0, .ref (ad 0)), (1, .int u8), (2, .int u2)] → W p l e (gRm 3) s m args below meth c H locs 0 0 Q (F0 m 23 ls []) := by
        intro u8 h H locs hW ls hl
        replace h := jn1 e10 h
        obtain ⟨u12, e13, h⟩ := lz_o h
        refine lv_iinc (v := u12) (lv' := [(2, .int u12), (0, .ref (ad 0)), (1, .int u8)]) hx hb dX6_was_23 hl (k := 2) rfl (by rw [e13]; rfl) (by decide) rfl (fun ls hl => ?_)
        refine lv_goto (tgt := 4) hx hb dX6_was_26 (by decide) ?_
        exact ih u8 u12 I J _ h hn _ _ hW _ (lv_sub hl [1, 2, 0] rfl) hx1
      refine lv_if_le (tgt := 23) hx hb dX6_was_14 (by decide) (fun c14 => ?_) (fun c14 => ?_)
      · replace h := gi_t h c14
        exact hj11 u1 h _ _ hW _ (lv_sub hl [0, 1, 2] rfl)
      · replace h := gi_f h c14
        refine lv_iload_n hx hb dX6_was_17 rfl (lv_at hl 1 rfl) ?_
        refine lv_iconst (v := (1 : Int32)) hx hb dX6_was_18 (by decide) ?_
        refine lv_iload_n hx hb dX6_was_19 rfl (lv_at hl 2 rfl) ?_
        refine g_ishl hx hb dX6_was_20 ?_
        refine lv_ior hx hb dX6_was_21 ?_
        obtain ⟨u15, e16, h⟩ := lz_o h
        refine g_nmi e16 ?_
        refine lv_istore_n (lv' := [(1, .int u15), (0, .ref (ad 0)), (2, .int u2)]) hx hb dX6_was_22 rfl hl (by decide) rfl (fun ls hl => ?_)
        exact hj11 u15 h _ _ hW _ (lv_sub hl [1, 0, 2] rfl)
noncomputable def fX6_was_31b  (rec : Int32 → Int32 → gI → Option ((Int32))) (u21 : Int32) (u22 : Int32) (I : gI) : Option ((Int32)) :=
  gi ((I 1 12) ≤ u22)
 (some u21)
 (lz (fun (u25 : Int32) => lz ((u22 + (1 : Int32))) (fun (u29 : Int32) => rec u25 u29 I)) (fun j26 => gi (((jshr (I 1 16) u22) &&& (1 : Int32)) = (1 : Int32))
 (lz (fun (u32 : Int32) => lz (fun (u36 : Int32) => lz ((u21 &&& u36)) (fun (u40 : Int32) => j26 u40)) (fun j37 => gi (u32 = 0)
 (gd (vp_in u22 6) (j37 ((I 4 (u22).toNatClampNeg) ^^^ (-1 : Int32))))
 (gd (vp_in u22 6) (j37 (I 4 (u22).toNatClampNeg))))) (fun j33 => gi (((jshr (I 1 17) u22) &&& (1 : Int32)) = (1 : Int32))
 (j33 (1 : Int32))
 (j33 (0 : Int32))))
 (j26 u21)))
noncomputable def fX6_was_31  : Nat → Int32 → Int32 → gI → Option ((Int32))
  | 0 => fun _ _ _ => none
  | n + 1 => fX6_was_31b  (fX6_was_31  n)
set_option maxHeartbeats 4000000 in
set_option maxRecDepth 100000 in
theorem tX6_was_31 {l : Launch} {G : gG} {ad : Nat → Nat} {p : Program} {e : Env} {s : State} {m : MethodId} {args : Array Value} {below : List Frame} {meth : Method} {c : Code} {Q : State → Prop} (hok : gInj LC ad) (K : gCx G (gA LC ad) p s m args c cX6_was 4 RX6)  : ∀ (n : Nat) (u21 : Int32) (u22 : Int32) (I : gI) (J : gJ) (out : Option ((Int32))), fX6_was_31  n u21 u22 I = out → out ≠ none → ∀ (H : Heap) (locs : List Loc), gWd G LC ad (gA LC ad) s.heap I J H locs → ∀ (ls : Array Slot), lv_has ls 4 [(0, .ref (ad 0)), (1, .int u21), (2, .int u22)] → (∀ (y23 : Int32), some y23 = out → ∀ (H : Heap) (locs : List Loc), gWd G LC ad (gA LC ad) s.heap I J H locs → ∀ (ls : Array Slot), lv_has ls 4 [(1, .int y23)] → W p l e (gRm 3) s m args below meth c H locs 0 0 Q (F0 m 114 ls [])) → W p l e (gRm 3) s m args below meth c H locs 0 0 Q (F0 m 31 ls []) := by
  have hx := K.1; have hb := K.2.1; have hown := K.2.2.2.1; have hts := K.2.2.2.2.1
  intro n
  induction n with
  | zero => intro u21 u22 I J out h hn; exact absurd h.symm hn
  | succ n ih =>
    intro u21 u22 I J out h hn H locs hW ls hl hx1
    replace h : fX6_was_31b  (fX6_was_31  n) u21 u22 I = out := h
    unfold fX6_was_31b at h
    refine lv_iload_n hx hb dX6_was_31 rfl (lv_at hl 2 rfl) ?_
    refine lv_aload_n hx hb dX6_was_32 rfl (lv_at hl 0 rfl) ?_
    refine g_get K hW (t := 2) (ci := 5) (k := 0) (v := .ref (ad 1)) kLC_0 rfl rfl i_X6 (by decide) q_393 rfl (gfv2 rLC_0_0) dX6_was_33 ?_
    refine g_get K hW (t := 0) (ci := 0) (k := 12) (v := .int (I 1 12)) kLC_1 rfl rfl i_X0 (by decide) q_238 rfl rfl dX6_was_36 ?_
    refine lv_icmp_ge (tgt := 114) hx hb dX6_was_39 (by decide) (fun c24 => ?_) (fun c24 => ?_)
    · replace h := gi_t h c24
      exact hx1 u21 h _ _ hW _ (lv_sub hl [1] rfl)
    · replace h := gi_f h c24
      refine lv_aload_n hx hb dX6_was_42 rfl (lv_at hl 0 rfl) ?_
      refine g_get K hW (t := 2) (ci := 5) (k := 0) (v := .ref (ad 1)) kLC_0 rfl rfl i_X6 (by decide) q_393 rfl (gfv2 rLC_0_0) dX6_was_43 ?_
      refine g_get K hW (t := 0) (ci := 0) (k := 16) (v := .int (I 1 16)) kLC_1 rfl rfl i_X0 (by decide) q_247 rfl rfl dX6_was_46 ?_
      refine lv_iload_n hx hb dX6_was_49 rfl (lv_at hl 2 rfl) ?_
      refine g_ishr hx hb dX6_was_50 ?_
      refine lv_iconst (v := (1 : Int32)) hx hb dX6_was_51 (by decide) ?_
      refine lv_iand hx hb dX6_was_52 ?_
      refine lv_iconst (v := (1 : Int32)) hx hb dX6_was_53 (by decide) ?_
      obtain ⟨j26, e27, h⟩ := lz_o h
      have hj28 : ∀ (u25 : Int32), j26 u25 = out → ∀ (H : Heap) (locs : List Loc), gWd G LC ad (gA LC ad) s.heap I J H locs → ∀ (ls : Array Slot), lv_has ls 4 [(0, .ref (ad 0)), (1, .int u25), (2, .int u22)] → W p l e (gRm 3) s m args below meth c H locs 0 0 Q (F0 m 108 ls []) := by
        intro u25 h H locs hW ls hl
        replace h := jn1 e27 h
        obtain ⟨u29, e30, h⟩ := lz_o h
        refine lv_iinc (v := u29) (lv' := [(2, .int u29), (0, .ref (ad 0)), (1, .int u25)]) hx hb dX6_was_108 hl (k := 2) rfl (by rw [e30]; rfl) (by decide) rfl (fun ls hl => ?_)
        refine lv_goto (tgt := 31) hx hb dX6_was_111 (by decide) ?_
        exact ih u25 u29 I J _ h hn _ _ hW _ (lv_sub hl [1, 2, 0] rfl) hx1
      refine lv_icmp_ne (tgt := 108) hx hb dX6_was_54 (by decide) (fun c31 => ?_) (fun c31 => ?_)
      · replace h := gi_f h c31
        exact hj28 u21 h _ _ hW _ (lv_sub hl [0, 1, 2] rfl)
      · replace h := gi_t h c31
        refine lv_aload_n hx hb dX6_was_57 rfl (lv_at hl 0 rfl) ?_
        refine g_get K hW (t := 2) (ci := 5) (k := 0) (v := .ref (ad 1)) kLC_0 rfl rfl i_X6 (by decide) q_393 rfl (gfv2 rLC_0_0) dX6_was_58 ?_
        refine g_get K hW (t := 0) (ci := 0) (k := 17) (v := .int (I 1 17)) kLC_1 rfl rfl i_X0 (by decide) q_249 rfl rfl dX6_was_61 ?_
        refine lv_iload_n hx hb dX6_was_64 rfl (lv_at hl 2 rfl) ?_
        refine g_ishr hx hb dX6_was_65 ?_
        refine lv_iconst (v := (1 : Int32)) hx hb dX6_was_66 (by decide) ?_
        refine lv_iand hx hb dX6_was_67 ?_
        refine lv_iconst (v := (1 : Int32)) hx hb dX6_was_68 (by decide) ?_
        obtain ⟨j33, e34, h⟩ := lz_o h
        have hj35 : ∀ (u32 : Int32), j33 u32 = out → ∀ (H : Heap) (locs : List Loc), gWd G LC ad (gA LC ad) s.heap I J H locs → ∀ (ls : Array Slot), lv_has ls 4 [(0, .ref (ad 0)), (1, .int u21), (2, .int u22)] → W p l e (gRm 3) s m args below meth c H locs 0 0 Q (F0 m 77 ls [.int u32]) := by
          intro u32 h H locs hW ls hl
          replace h := jn1 e34 h
          refine lv_istore_n (lv' := [(3, .int u32), (0, .ref (ad 0)), (1, .int u21), (2, .int u22)]) hx hb dX6_was_77 rfl hl (by decide) rfl (fun ls hl => ?_)
          refine lv_iload_n hx hb dX6_was_78 rfl (lv_at hl 2 rfl) ?_
          refine lv_iload_n hx hb dX6_was_79 rfl (lv_at hl 0 rfl) ?_
          obtain ⟨j37, e38, h⟩ := lz_o h
          have hj39 : ∀ (u36 : Int32), j37 u36 = out → ∀ (H : Heap) (locs : List Loc), gWd G LC ad (gA LC ad) s.heap I J H locs → ∀ (ls : Array Slot), lv_has ls 4 [(0, .ref (ad 0)), (2, .int u22)] → W p l e (gRm 3) s m args below meth c H locs 0 0 Q (F0 m 106 ls [.int u36, .int u21]) := by
            intro u36 h H locs hW ls hl
            replace h := jn1 e38 h
            refine lv_iand hx hb dX6_was_106 ?_
            obtain ⟨u40, e41, h⟩ := lz_o h
            refine g_nmi e41 ?_
            refine lv_istore_n (lv' := [(1, .int u40), (0, .ref (ad 0)), (2, .int u22)]) hx hb dX6_was_107 rfl hl (by decide) rfl (fun ls hl => ?_)
            exact hj28 u40 h _ _ hW _ (lv_sub hl [1, 0, 2] rfl)
          refine lv_if_eq (tgt := 95) hx hb dX6_was_80 (by decide) (fun c42 => ?_) (fun c42 => ?_)
          · replace h := gi_t h c42
            refine lv_aload_n hx hb dX6_was_95 rfl (lv_at hl 1 rfl) ?_
            refine g_get K hW (t := 2) (ci := 5) (k := 0) (v := .ref (ad 1)) kLC_0 rfl rfl i_X6 (by decide) q_393 rfl (gfv2 rLC_0_0) dX6_was_96 ?_
            refine g_get K hW (t := 2) (ci := 0) (k := 2) (v := .ref (ad 4)) kLC_1 rfl rfl i_X0 (by decide) q_217 rfl (gfv2 rLC_1_2) dX6_was_99 ?_
            refine lv_iload_n hx hb dX6_was_102 rfl (lv_at hl 3 rfl) ?_
            obtain ⟨g43, h⟩ := gd_o h hn
            refine g_iald K hW kLC_4 g43 rfl dX6_was_103 ?_
            refine lv_iconst (v := (-1 : Int32)) hx hb dX6_was_104 (by decide) ?_
            refine lv_ixor hx hb dX6_was_105 ?_
            exact hj39 ((I 4 (u22).toNatClampNeg) ^^^ (-1 : Int32)) h _ _ hW _ (lv_sub hl [1, 3] rfl)
          · replace h := gi_f h c42
            refine lv_aload_n hx hb dX6_was_83 rfl (lv_at hl 1 rfl) ?_
            refine g_get K hW (t := 2) (ci := 5) (k := 0) (v := .ref (ad 1)) kLC_0 rfl rfl i_X6 (by decide) q_393 rfl (gfv2 rLC_0_0) dX6_was_84 ?_
            refine g_get K hW (t := 2) (ci := 0) (k := 2) (v := .ref (ad 4)) kLC_1 rfl rfl i_X0 (by decide) q_217 rfl (gfv2 rLC_1_2) dX6_was_87 ?_
            refine lv_iload_n hx hb dX6_was_90 rfl (lv_at hl 3 rfl) ?_
            obtain ⟨g44, h⟩ := gd_o h hn
            refine g_iald K hW kLC_4 g44 rfl dX6_was_91 ?_
            refine lv_goto (tgt := 106) hx hb dX6_was_92 (by decide) ?_
            exact hj39 (I 4 (u22).toNatClampNeg) h _ _ hW _ (lv_sub hl [1, 3] rfl)
        refine lv_icmp_ne (tgt := 76) hx hb dX6_was_69 (by decide) (fun c45 => ?_) (fun c45 => ?_)
        · replace h := gi_f h c45
          refine lv_iconst (v := (0 : Int32)) hx hb dX6_was_76 (by decide) ?_
          exact hj35 (0 : Int32) h _ _ hW _ (lv_sub hl [0, 1, 2] rfl)
        · replace h := gi_t h c45
          refine lv_iconst (v := (1 : Int32)) hx hb dX6_was_72 (by decide) ?_
          refine lv_goto (tgt := 77) hx hb dX6_was_73 (by decide) ?_
          exact hj35 (1 : Int32) h _ _ hW _ (lv_sub hl [0, 1, 2] rfl)
noncomputable def fX6_was   (I : gI) : Option (Int32) :=
  bd (fX6_was_4 FU (0 : Int32) (0 : Int32) I) (fun (u19 : Int32) => bd (fX6_was_31 FU u19 (0 : Int32) I) (fun (u48 : Int32) => some u48))
set_option maxHeartbeats 4000000 in
set_option maxRecDepth 100000 in
theorem kX6_was {l : Launch} {G : gG} {ad : Nat → Nat} (hok : gInj LC ad)     (I : gI) (J : gJ) (r : Int32) (h : fX6_was I = some r) : gMi l yX6_was cX6_was 4 (some .int) 3 G LC ad [.ref (ad 0)] I J r True I J := by
  refine gMi_of (lst := [(0, .ref (ad 0))]) (by decide) hok (Nat.le_of_ble_eq_true rfl) rfl ?_
  intro p e s m args below meth c Q ls K hW hl hfin
  have hn : (some r : Option (Int32)) ≠ none := Option.some_ne_none _
  have hx := K.1; have hb := K.2.1; have hown := K.2.2.2.1; have hts := K.2.2.2.2.1
  unfold fX6_was at h
  refine lv_iconst (v := (0 : Int32)) hx hb dX6_was_0 (by decide) ?_
  refine lv_istore_n (lv' := [(1, .int (0 : Int32)), (0, .ref (ad 0))]) hx hb dX6_was_1 rfl hl (by decide) rfl (fun ls hl => ?_)
  refine lv_iconst (v := (0 : Int32)) hx hb dX6_was_2 (by decide) ?_
  refine lv_istore_n (lv' := [(2, .int (0 : Int32)), (1, .int (0 : Int32)), (0, .ref (ad 0))]) hx hb dX6_was_3 rfl hl (by decide) rfl (fun ls hl => ?_)
  obtain ⟨r17, e18, h⟩ := bd_o h hn
  refine tX6_was_4 hok K FU (0 : Int32) (0 : Int32) I J (some r17) e18 (Option.some_ne_none _) _ _ hW _ (lv_sub hl [2, 1, 0] rfl) ?_
  · intro u19 q20 H locs hW ls hl
    replace q20 := Option.some.inj q20
    subst q20
    refine lv_iconst (v := (0 : Int32)) hx hb dX6_was_29 (by decide) ?_
    refine lv_istore_n (lv' := [(2, .int (0 : Int32)), (0, .ref (ad 0)), (1, .int u19)]) hx hb dX6_was_30 rfl hl (by decide) rfl (fun ls hl => ?_)
    obtain ⟨r46, e47, h⟩ := bd_o h hn
    refine tX6_was_31 hok K FU u19 (0 : Int32) I J (some r46) e47 (Option.some_ne_none _) _ _ hW _ (lv_sub hl [1, 2, 0] rfl) ?_
    · intro u48 q49 H locs hW ls hl
      replace q49 := Option.some.inj q49
      subst q49
      refine lv_iload_n hx hb dX6_was_114 rfl (lv_at hl 0 rfl) ?_
      obtain a1 := so1 h
      exact g_nmi a1 (hfin _ _ _ _ hW dX6_was_115)
theorem nm_X6_was : gNm yX6_was 0 := by decide +kernel
noncomputable def fX6_likeliest_9b  (rec : Int32 → Int32 → Int32 → gI → Option ((Int32))) (u4 : Int32) (u5 : Int32) (u6 : Int32) (I : gI) : Option ((Int32)) :=
  gi ((5 : Int32) ≤ u6)
 (some u5)
 (lz (fun (u9 : Int32) => lz (fun (u13 : Int32) => lz ((u6 + (1 : Int32))) (fun (u17 : Int32) => rec u4 u13 u17 I)) (fun j14 => gi (u9 = 0)
 (j14 u5)
 (lz (j14 u6) (fun j20 => gi (u5 = (-1 : Int32))
 (j20)
 (bd (fX6_likelihood u6 I) (fun (u24 : Int32) => bd (fX6_likelihood u5 I) (fun (u27 : Int32) => gi (u24 ≤ u27)
 (j14 u5)
 (j20)))))))) (fun j10 => gi (((jshr u4 u6) &&& (1 : Int32)) = (1 : Int32))
 (j10 (1 : Int32))
 (j10 (0 : Int32))))
noncomputable def fX6_likeliest_9  : Nat → Int32 → Int32 → Int32 → gI → Option ((Int32))
  | 0 => fun _ _ _ _ => none
  | n + 1 => fX6_likeliest_9b  (fX6_likeliest_9  n)
set_option maxHeartbeats 4000000 in
set_option maxRecDepth 100000 in
theorem tX6_likeliest_9 {l : Launch} {G : gG} {ad : Nat → Nat} {p : Program} {e : Env} {s : State} {m : MethodId} {args : Array Value} {below : List Frame} {meth : Method} {c : Code} {Q : State → Prop} (hok : gInj LC ad) (K : gCx G (gA LC ad) p s m args c cX6_likeliest 5 RX6)  : ∀ (n : Nat) (u4 : Int32) (u5 : Int32) (u6 : Int32) (I : gI) (J : gJ) (out : Option ((Int32))), fX6_likeliest_9  n u4 u5 u6 I = out → out ≠ none → ∀ (H : Heap) (locs : List Loc), gWd G LC ad (gA LC ad) s.heap I J H locs → ∀ (ls : Array Slot), lv_has ls 5 [(0, .ref (ad 0)), (1, .int u4), (2, .int u5), (3, .int u6)] → (∀ (y7 : Int32), some y7 = out → ∀ (H : Heap) (locs : List Loc), gWd G LC ad (gA LC ad) s.heap I J H locs → ∀ (ls : Array Slot), lv_has ls 5 [(2, .int y7)] → W p l e (gRm 4) s m args below meth c H locs 0 0 Q (F0 m 61 ls [])) → W p l e (gRm 4) s m args below meth c H locs 0 0 Q (F0 m 9 ls []) := by
  have hx := K.1; have hb := K.2.1; have hown := K.2.2.2.1; have hts := K.2.2.2.2.1
  intro n
  induction n with
  | zero => intro u4 u5 u6 I J out h hn; exact absurd h.symm hn
  | succ n ih =>
    intro u4 u5 u6 I J out h hn H locs hW ls hl hx1
    replace h : fX6_likeliest_9b  (fX6_likeliest_9  n) u4 u5 u6 I = out := h
    unfold fX6_likeliest_9b at h
    refine lv_iload_n hx hb dX6_likeliest_9 rfl (lv_at hl 3 rfl) ?_
    refine lv_iconst (v := (5 : Int32)) hx hb dX6_likeliest_10 (by decide) ?_
    refine lv_icmp_ge (tgt := 61) hx hb dX6_likeliest_11 (by decide) (fun c8 => ?_) (fun c8 => ?_)
    · replace h := gi_t h c8
      exact hx1 u5 h _ _ hW _ (lv_sub hl [2] rfl)
    · replace h := gi_f h c8
      refine lv_iload_n hx hb dX6_likeliest_14 rfl (lv_at hl 1 rfl) ?_
      refine lv_iload_n hx hb dX6_likeliest_15 rfl (lv_at hl 3 rfl) ?_
      refine g_ishr hx hb dX6_likeliest_16 ?_
      refine lv_iconst (v := (1 : Int32)) hx hb dX6_likeliest_17 (by decide) ?_
      refine lv_iand hx hb dX6_likeliest_18 ?_
      refine lv_iconst (v := (1 : Int32)) hx hb dX6_likeliest_19 (by decide) ?_
      obtain ⟨j10, e11, h⟩ := lz_o h
      have hj12 : ∀ (u9 : Int32), j10 u9 = out → ∀ (H : Heap) (locs : List Loc), gWd G LC ad (gA LC ad) s.heap I J H locs → ∀ (ls : Array Slot), lv_has ls 5 [(0, .ref (ad 0)), (1, .int u4), (2, .int u5), (3, .int u6)] → W p l e (gRm 4) s m args below meth c H locs 0 0 Q (F0 m 28 ls [.int u9]) := by
        intro u9 h H locs hW ls hl
        replace h := jn1 e11 h
        refine lv_istore (lv' := [(4, .int u9), (0, .ref (ad 0)), (1, .int u4), (2, .int u5), (3, .int u6)]) hx hb dX6_likeliest_28 hl (by decide) rfl (fun ls hl => ?_)
        refine lv_iload hx hb dX6_likeliest_30 (lv_at hl 0 rfl) ?_
        obtain ⟨j14, e15, h⟩ := lz_o h
        have hj16 : ∀ (u13 : Int32), j14 u13 = out → ∀ (H : Heap) (locs : List Loc), gWd G LC ad (gA LC ad) s.heap I J H locs → ∀ (ls : Array Slot), lv_has ls 5 [(0, .ref (ad 0)), (1, .int u4), (2, .int u13), (3, .int u6)] → W p l e (gRm 4) s m args below meth c H locs 0 0 Q (F0 m 55 ls []) := by
          intro u13 h H locs hW ls hl
          replace h := jn1 e15 h
          obtain ⟨u17, e18, h⟩ := lz_o h
          refine lv_iinc (v := u17) (lv' := [(3, .int u17), (0, .ref (ad 0)), (1, .int u4), (2, .int u13)]) hx hb dX6_likeliest_55 hl (k := 3) rfl (by rw [e18]; rfl) (by decide) rfl (fun ls hl => ?_)
          refine lv_goto (tgt := 9) hx hb dX6_likeliest_58 (by decide) ?_
          exact ih u4 u13 u17 I J _ h hn _ _ hW _ (lv_sub hl [1, 2, 3, 0] rfl) hx1
        refine lv_if_eq (tgt := 55) hx hb dX6_likeliest_32 (by decide) (fun c19 => ?_) (fun c19 => ?_)
        · replace h := gi_t h c19
          exact hj16 u5 h _ _ hW _ (lv_sub hl [1, 2, 3, 4] rfl)
        · replace h := gi_f h c19
          refine lv_iload_n hx hb dX6_likeliest_35 rfl (lv_at hl 3 rfl) ?_
          refine lv_iconst (v := (-1 : Int32)) hx hb dX6_likeliest_36 (by decide) ?_
          obtain ⟨j20, e21, h⟩ := lz_o h
          have hj22 : j20 = out → ∀ (H : Heap) (locs : List Loc), gWd G LC ad (gA LC ad) s.heap I J H locs → ∀ (ls : Array Slot), lv_has ls 5 [(0, .ref (ad 0)), (1, .int u4), (3, .int u6)] → W p l e (gRm 4) s m args below meth c H locs 0 0 Q (F0 m 53 ls []) := by
            intro h H locs hW ls hl
            replace h := jn0 e21 h
            refine lv_iload_n hx hb dX6_likeliest_53 rfl (lv_at hl 2 rfl) ?_
            refine lv_istore_n (lv' := [(2, .int u6), (0, .ref (ad 0)), (1, .int u4), (3, .int u6)]) hx hb dX6_likeliest_54 rfl hl (by decide) rfl (fun ls hl => ?_)
            exact hj16 u6 h _ _ hW _ (lv_sub hl [1, 2, 0, 3] rfl)
          refine lv_icmp_eq (tgt := 53) hx hb dX6_likeliest_37 (by decide) (fun c23 => ?_) (fun c23 => ?_)
          · replace h := gi_t h c23
            exact hj22 h _ _ hW _ (lv_sub hl [1, 2, 4] rfl)
          · replace h := gi_f h c23
            refine lv_aload_n hx hb dX6_likeliest_40 rfl (lv_at hl 1 rfl) ?_
            refine lv_iload_n hx hb dX6_likeliest_41 rfl (lv_at hl 4 rfl) ?_
            obtain ⟨u24, e25, h⟩ := bd_o h hn
            refine g_callVi (rest := []) K hW hl (kX6_likelihood (l := l) (G := G) (ad := ad) hok u6 I J u24 e25) kLC_0 rfl (gG_V q_923 q_925 q_45 q_133 q_926) nm_X6_likelihood ⟨Nat.le_of_ble_eq_true rfl, Nat.le_of_ble_eq_true rfl⟩ rfl rfl (Nat.le_of_ble_eq_true rfl) ⟨Nat.zero_le _, Nat.zero_le _⟩ dX6_likeliest_42 (fun z26 H locs hW => ?_)
            refine lv_aload_n hx hb dX6_likeliest_45 rfl (lv_at hl 1 rfl) ?_
            refine lv_iload_n hx hb dX6_likeliest_46 rfl (lv_at hl 3 rfl) ?_
            obtain ⟨u27, e28, h⟩ := bd_o h hn
            refine g_callVi (rest := [.int u24]) K hW hl (kX6_likelihood (l := l) (G := G) (ad := ad) hok u5 I J u27 e28) kLC_0 rfl (gG_V q_923 q_925 q_45 q_133 q_926) nm_X6_likelihood ⟨Nat.le_of_ble_eq_true rfl, Nat.le_of_ble_eq_true rfl⟩ rfl rfl (Nat.le_of_ble_eq_true rfl) ⟨Nat.zero_le _, Nat.zero_le _⟩ dX6_likeliest_47 (fun z29 H locs hW => ?_)
            refine lv_icmp_le (tgt := 55) hx hb dX6_likeliest_50 (by decide) (fun c30 => ?_) (fun c30 => ?_)
            · replace h := gi_t h c30
              exact hj16 u5 h _ _ hW _ (lv_sub hl [1, 2, 3, 4] rfl)
            · replace h := gi_f h c30
              exact hj22 h _ _ hW _ (lv_sub hl [1, 2, 4] rfl)
      refine lv_icmp_ne (tgt := 27) hx hb dX6_likeliest_20 (by decide) (fun c31 => ?_) (fun c31 => ?_)
      · replace h := gi_f h c31
        refine lv_iconst (v := (0 : Int32)) hx hb dX6_likeliest_27 (by decide) ?_
        exact hj12 (0 : Int32) h _ _ hW _ (lv_sub hl [0, 1, 2, 3] rfl)
      · replace h := gi_t h c31
        refine lv_iconst (v := (1 : Int32)) hx hb dX6_likeliest_23 (by decide) ?_
        refine lv_goto (tgt := 28) hx hb dX6_likeliest_24 (by decide) ?_
        exact hj12 (1 : Int32) h _ _ hW _ (lv_sub hl [0, 1, 2, 3] rfl)
noncomputable def fX6_likeliest   (I : gI) : Option (Int32) :=
  bd (fX6_was I) (fun (u1 : Int32) => bd (fX6_likeliest_9 FU u1 (-1 : Int32) (0 : Int32) I) (fun (u34 : Int32) => some u34))
set_option maxHeartbeats 4000000 in
set_option maxRecDepth 100000 in
theorem kX6_likeliest {l : Launch} {G : gG} {ad : Nat → Nat} (hok : gInj LC ad)     (I : gI) (J : gJ) (r : Int32) (h : fX6_likeliest I = some r) : gMi l yX6_likeliest cX6_likeliest 5 (some .int) 4 G LC ad [.ref (ad 0)] I J r True I J := by
  refine gMi_of (lst := [(0, .ref (ad 0))]) (by decide) hok (Nat.le_of_ble_eq_true rfl) rfl ?_
  intro p e s m args below meth c Q ls K hW hl hfin
  have hn : (some r : Option (Int32)) ≠ none := Option.some_ne_none _
  have hx := K.1; have hb := K.2.1; have hown := K.2.2.2.1; have hts := K.2.2.2.2.1
  unfold fX6_likeliest at h
  refine lv_aload_n hx hb dX6_likeliest_0 rfl (lv_at hl 0 rfl) ?_
  obtain ⟨u1, e2, h⟩ := bd_o h hn
  refine g_callVi (rest := []) K hW hl (kX6_was (l := l) (G := G) (ad := ad) hok I J u1 e2) kLC_0 rfl (gG_V q_967 q_960 q_961 q_133 q_962) nm_X6_was ⟨Nat.le_of_ble_eq_true rfl, Nat.le_of_ble_eq_true rfl⟩ rfl rfl (Nat.le_of_ble_eq_true rfl) ⟨Nat.zero_le _, Nat.zero_le _⟩ dX6_likeliest_1 (fun z3 H locs hW => ?_)
  refine lv_istore_n (lv' := [(1, .int u1), (0, .ref (ad 0))]) hx hb dX6_likeliest_4 rfl hl (by decide) rfl (fun ls hl => ?_)
  refine lv_iconst (v := (-1 : Int32)) hx hb dX6_likeliest_5 (by decide) ?_
  refine lv_istore_n (lv' := [(2, .int (-1 : Int32)), (1, .int u1), (0, .ref (ad 0))]) hx hb dX6_likeliest_6 rfl hl (by decide) rfl (fun ls hl => ?_)
  refine lv_iconst (v := (0 : Int32)) hx hb dX6_likeliest_7 (by decide) ?_
  refine lv_istore_n (lv' := [(3, .int (0 : Int32)), (2, .int (-1 : Int32)), (1, .int u1), (0, .ref (ad 0))]) hx hb dX6_likeliest_8 rfl hl (by decide) rfl (fun ls hl => ?_)
  obtain ⟨r32, e33, h⟩ := bd_o h hn
  refine tX6_likeliest_9 hok K FU u1 (-1 : Int32) (0 : Int32) I J (some r32) e33 (Option.some_ne_none _) _ _ hW _ (lv_sub hl [3, 2, 1, 0] rfl) ?_
  · intro u34 q35 H locs hW ls hl
    replace q35 := Option.some.inj q35
    subst q35
    refine lv_iload_n hx hb dX6_likeliest_61 rfl (lv_at hl 0 rfl) ?_
    obtain a1 := so1 h
    exact g_nmi a1 (hfin _ _ _ _ hW dX6_likeliest_62)
noncomputable def fX6_likelihoodOf_4b  (rec : Int32 → Int32 → Int32 → gI → Option ((Int32))) (u1 : Int32) (u2 : Int32) (u3 : Int32) (I : gI) : Option ((Int32)) :=
  gi ((5 : Int32) ≤ u3)
 (some u2)
 (lz (fun (u6 : Int32) => lz ((u3 + (1 : Int32))) (fun (u10 : Int32) => rec u1 u6 u10 I)) (fun j7 => gi (((jshr u1 u3) &&& (1 : Int32)) = (1 : Int32))
 (bd (fX6_likelihood u3 I) (fun (u13 : Int32) => lz ((u2 + u13)) (fun (u16 : Int32) => j7 u16)))
 (j7 u2)))
noncomputable def fX6_likelihoodOf_4  : Nat → Int32 → Int32 → Int32 → gI → Option ((Int32))
  | 0 => fun _ _ _ _ => none
  | n + 1 => fX6_likelihoodOf_4b  (fX6_likelihoodOf_4  n)
set_option maxHeartbeats 4000000 in
set_option maxRecDepth 100000 in
theorem tX6_likelihoodOf_4 {l : Launch} {G : gG} {ad : Nat → Nat} {p : Program} {e : Env} {s : State} {m : MethodId} {args : Array Value} {below : List Frame} {meth : Method} {c : Code} {Q : State → Prop} (hok : gInj LC ad) (K : gCx G (gA LC ad) p s m args c cX6_likelihoodOf 4 RX6)  : ∀ (n : Nat) (u1 : Int32) (u2 : Int32) (u3 : Int32) (I : gI) (J : gJ) (out : Option ((Int32))), fX6_likelihoodOf_4  n u1 u2 u3 I = out → out ≠ none → ∀ (H : Heap) (locs : List Loc), gWd G LC ad (gA LC ad) s.heap I J H locs → ∀ (ls : Array Slot), lv_has ls 4 [(0, .ref (ad 0)), (1, .int u1), (2, .int u2), (3, .int u3)] → (∀ (y4 : Int32), some y4 = out → ∀ (H : Heap) (locs : List Loc), gWd G LC ad (gA LC ad) s.heap I J H locs → ∀ (ls : Array Slot), lv_has ls 4 [(2, .int y4)] → W p l e (gRm 3) s m args below meth c H locs 0 0 Q (F0 m 32 ls [])) → W p l e (gRm 3) s m args below meth c H locs 0 0 Q (F0 m 4 ls []) := by
  have hx := K.1; have hb := K.2.1; have hown := K.2.2.2.1; have hts := K.2.2.2.2.1
  intro n
  induction n with
  | zero => intro u1 u2 u3 I J out h hn; exact absurd h.symm hn
  | succ n ih =>
    intro u1 u2 u3 I J out h hn H locs hW ls hl hx1
    replace h : fX6_likelihoodOf_4b  (fX6_likelihoodOf_4  n) u1 u2 u3 I = out := h
    unfold fX6_likelihoodOf_4b at h
    refine lv_iload_n hx hb dX6_likelihoodOf_4 rfl (lv_at hl 3 rfl) ?_
    refine lv_iconst (v := (5 : Int32)) hx hb dX6_likelihoodOf_5 (by decide) ?_
    refine lv_icmp_ge (tgt := 32) hx hb dX6_likelihoodOf_6 (by decide) (fun c5 => ?_) (fun c5 => ?_)
    · replace h := gi_t h c5
      exact hx1 u2 h _ _ hW _ (lv_sub hl [2] rfl)
    · replace h := gi_f h c5
      refine lv_iload_n hx hb dX6_likelihoodOf_9 rfl (lv_at hl 1 rfl) ?_
      refine lv_iload_n hx hb dX6_likelihoodOf_10 rfl (lv_at hl 3 rfl) ?_
      refine g_ishr hx hb dX6_likelihoodOf_11 ?_
      refine lv_iconst (v := (1 : Int32)) hx hb dX6_likelihoodOf_12 (by decide) ?_
      refine lv_iand hx hb dX6_likelihoodOf_13 ?_
      refine lv_iconst (v := (1 : Int32)) hx hb dX6_likelihoodOf_14 (by decide) ?_
      obtain ⟨j7, e8, h⟩ := lz_o h
      have hj9 : ∀ (u6 : Int32), j7 u6 = out → ∀ (H : Heap) (locs : List Loc), gWd G LC ad (gA LC ad) s.heap I J H locs → ∀ (ls : Array Slot), lv_has ls 4 [(0, .ref (ad 0)), (1, .int u1), (2, .int u6), (3, .int u3)] → W p l e (gRm 3) s m args below meth c H locs 0 0 Q (F0 m 26 ls []) := by
        intro u6 h H locs hW ls hl
        replace h := jn1 e8 h
        obtain ⟨u10, e11, h⟩ := lz_o h
        refine lv_iinc (v := u10) (lv' := [(3, .int u10), (0, .ref (ad 0)), (1, .int u1), (2, .int u6)]) hx hb dX6_likelihoodOf_26 hl (k := 3) rfl (by rw [e11]; rfl) (by decide) rfl (fun ls hl => ?_)
        refine lv_goto (tgt := 4) hx hb dX6_likelihoodOf_29 (by decide) ?_
        exact ih u1 u6 u10 I J _ h hn _ _ hW _ (lv_sub hl [1, 2, 3, 0] rfl) hx1
      refine lv_icmp_ne (tgt := 26) hx hb dX6_likelihoodOf_15 (by decide) (fun c12 => ?_) (fun c12 => ?_)
      · replace h := gi_f h c12
        exact hj9 u2 h _ _ hW _ (lv_sub hl [0, 1, 2, 3] rfl)
      · replace h := gi_t h c12
        refine lv_iload_n hx hb dX6_likelihoodOf_18 rfl (lv_at hl 2 rfl) ?_
        refine lv_aload_n hx hb dX6_likelihoodOf_19 rfl (lv_at hl 0 rfl) ?_
        refine lv_iload_n hx hb dX6_likelihoodOf_20 rfl (lv_at hl 3 rfl) ?_
        obtain ⟨u13, e14, h⟩ := bd_o h hn
        refine g_callVi (rest := [.int u2]) K hW hl (kX6_likelihood (l := l) (G := G) (ad := ad) hok u3 I J u13 e14) kLC_0 rfl (gG_V q_923 q_925 q_45 q_133 q_926) nm_X6_likelihood ⟨Nat.le_of_ble_eq_true rfl, Nat.le_of_ble_eq_true rfl⟩ rfl rfl (Nat.le_of_ble_eq_true rfl) ⟨Nat.zero_le _, Nat.zero_le _⟩ dX6_likelihoodOf_21 (fun z15 H locs hW => ?_)
        refine lv_iadd hx hb dX6_likelihoodOf_24 ?_
        obtain ⟨u16, e17, h⟩ := lz_o h
        refine g_nmi e17 ?_
        refine lv_istore_n (lv' := [(2, .int u16), (0, .ref (ad 0)), (1, .int u1), (3, .int u3)]) hx hb dX6_likelihoodOf_25 rfl hl (by decide) rfl (fun ls hl => ?_)
        exact hj9 u16 h _ _ hW _ (lv_sub hl [1, 2, 0, 3] rfl)
noncomputable def fX6_likelihoodOf  (x1 : Int32) (I : gI) : Option (Int32) :=
  bd (fX6_likelihoodOf_4 FU x1 (0 : Int32) (0 : Int32) I) (fun (u20 : Int32) => some u20)
set_option maxHeartbeats 4000000 in
set_option maxRecDepth 100000 in
theorem kX6_likelihoodOf {l : Launch} {G : gG} {ad : Nat → Nat} (hok : gInj LC ad)    (x1 : Int32) (I : gI) (J : gJ) (r : Int32) (h : fX6_likelihoodOf x1 I = some r) : gMi l yX6_likelihoodOf cX6_likelihoodOf 4 (some .int) 3 G LC ad [.ref (ad 0), .int x1] I J r True I J := by
  refine gMi_of (lst := [(0, .ref (ad 0)), (1, .int x1)]) (by decide) hok (Nat.le_of_ble_eq_true rfl) rfl ?_
  intro p e s m args below meth c Q ls K hW hl hfin
  have hn : (some r : Option (Int32)) ≠ none := Option.some_ne_none _
  have hx := K.1; have hb := K.2.1; have hown := K.2.2.2.1; have hts := K.2.2.2.2.1
  unfold fX6_likelihoodOf at h
  refine lv_iconst (v := (0 : Int32)) hx hb dX6_likelihoodOf_0 (by decide) ?_
  refine lv_istore_n (lv' := [(2, .int (0 : Int32)), (0, .ref (ad 0)), (1, .int x1)]) hx hb dX6_likelihoodOf_1 rfl hl (by decide) rfl (fun ls hl => ?_)
  refine lv_iconst (v := (0 : Int32)) hx hb dX6_likelihoodOf_2 (by decide) ?_
  refine lv_istore_n (lv' := [(3, .int (0 : Int32)), (2, .int (0 : Int32)), (0, .ref (ad 0)), (1, .int x1)]) hx hb dX6_likelihoodOf_3 rfl hl (by decide) rfl (fun ls hl => ?_)
  obtain ⟨r18, e19, h⟩ := bd_o h hn
  refine tX6_likelihoodOf_4 hok K FU x1 (0 : Int32) (0 : Int32) I J (some r18) e19 (Option.some_ne_none _) _ _ hW _ (lv_sub hl [2, 3, 1, 0] rfl) ?_
  · intro u20 q21 H locs hW ls hl
    replace q21 := Option.some.inj q21
    subst q21
    refine lv_iload_n hx hb dX6_likelihoodOf_32 rfl (lv_at hl 0 rfl) ?_
    obtain a1 := so1 h
    exact g_nmi a1 (hfin _ _ _ _ hW dX6_likelihoodOf_33)
theorem nm_X6_likeliest : gNm yX6_likeliest 0 := by decide +kernel
theorem nm_X6_likelihoodOf : gNm yX6_likelihoodOf 1 := by decide +kernel
noncomputable def fX6_surest  (x1 : Int32) (I : gI) : Option (Int64) :=
  bd (fX6_likeliest I) (fun (u1 : Int32) => gi (u1 = (-1 : Int32))
 (bd (fX6_lowest (0 : Int64) (1 : Int64) x1) (fun (u17 : Int64) => some u17))
 (bd (fX6_likelihood u1 I) (fun (u5 : Int32) => bd (fX6_was I) (fun (u8 : Int32) => bd (fX6_likelihoodOf u8 I) (fun (u11 : Int32) => bd (fX6_lowest (u5).toInt64 (u11).toInt64 x1) (fun (u14 : Int64) => some u14))))))
set_option maxHeartbeats 4000000 in
set_option maxRecDepth 100000 in
theorem kX6_surest {l : Launch} {G : gG} {ad : Nat → Nat} (hok : gInj LC ad)    (x1 : Int32) (I : gI) (J : gJ) (r : Int64) (h : fX6_surest x1 I = some r) : gMl l yX6_surest cX6_surest 3 (some .long) 5 G LC ad [.ref (ad 0), .int x1] I J r I J := by
  refine gMl_of (lst := [(0, .ref (ad 0)), (1, .int x1)]) (by decide) hok (Nat.le_of_ble_eq_true rfl) rfl ?_
  intro p e s m args below meth c Q ls K hW hl hfin
  have hn : (some r : Option (Int64)) ≠ none := Option.some_ne_none _
  have hx := K.1; have hb := K.2.1; have hown := K.2.2.2.1; have hts := K.2.2.2.2.1
  unfold fX6_surest at h
  refine lv_aload_n hx hb dX6_surest_0 rfl (lv_at hl 0 rfl) ?_
  obtain ⟨u1, e2, h⟩ := bd_o h hn
  refine g_callVi (rest := []) K hW hl (kX6_likeliest (l := l) (G := G) (ad := ad) hok I J u1 e2) kLC_0 rfl (gG_V q_972 q_964 q_965 q_133 q_966) nm_X6_likeliest ⟨Nat.le_of_ble_eq_true rfl, Nat.le_of_ble_eq_true rfl⟩ rfl rfl (Nat.le_of_ble_eq_true rfl) ⟨Nat.zero_le _, Nat.zero_le _⟩ dX6_surest_1 (fun z3 H locs hW => ?_)
  refine lv_istore_n (lv' := [(2, .int u1), (0, .ref (ad 0)), (1, .int x1)]) hx hb dX6_surest_4 rfl hl (by decide) rfl (fun ls hl => ?_)
  refine lv_iload_n hx hb dX6_surest_5 rfl (lv_at hl 0 rfl) ?_
  refine lv_iconst (v := (-1 : Int32)) hx hb dX6_surest_6 (by decide) ?_
  refine lv_icmp_ne (tgt := 19) hx hb dX6_surest_7 (by decide) (fun c4 => ?_) (fun c4 => ?_)
  · replace h := gi_f h c4
    refine lv_aload_n hx hb dX6_surest_19 rfl (lv_at hl 1 rfl) ?_
    refine lv_iload_n hx hb dX6_surest_20 rfl (lv_at hl 0 rfl) ?_
    obtain ⟨u5, e6, h⟩ := bd_o h hn
    refine g_callVi (rest := []) K hW hl (kX6_likelihood (l := l) (G := G) (ad := ad) hok u1 I J u5 e6) kLC_0 rfl (gG_V q_923 q_925 q_45 q_133 q_926) nm_X6_likelihood ⟨Nat.le_of_ble_eq_true rfl, Nat.le_of_ble_eq_true rfl⟩ rfl rfl (Nat.le_of_ble_eq_true rfl) ⟨Nat.zero_le _, Nat.zero_le _⟩ dX6_surest_21 (fun z7 H locs hW => ?_)
    refine lv_i2l hx hb dX6_surest_24 rfl ?_
    refine lv_aload_n hx hb dX6_surest_25 rfl (lv_at hl 1 rfl) ?_
    refine lv_aload_n hx hb dX6_surest_26 rfl (lv_at hl 1 rfl) ?_
    obtain ⟨u8, e9, h⟩ := bd_o h hn
    refine g_callVi (rest := [.ref (ad 0), .long (u5).toInt64]) K hW hl (kX6_was (l := l) (G := G) (ad := ad) hok I J u8 e9) kLC_0 rfl (gG_V q_967 q_960 q_961 q_133 q_962) nm_X6_was ⟨Nat.le_of_ble_eq_true rfl, Nat.le_of_ble_eq_true rfl⟩ rfl rfl (Nat.le_of_ble_eq_true rfl) ⟨Nat.zero_le _, Nat.zero_le _⟩ dX6_surest_27 (fun z10 H locs hW => ?_)
    obtain ⟨u11, e12, h⟩ := bd_o h hn
    refine g_callVi (rest := [.long (u5).toInt64]) K hW hl (kX6_likelihoodOf (l := l) (G := G) (ad := ad) hok u8 I J u11 e12) kLC_0 rfl (gG_V q_973 q_975 q_48 q_133 q_976) nm_X6_likelihoodOf ⟨Nat.le_of_ble_eq_true rfl, Nat.le_of_ble_eq_true rfl⟩ rfl rfl (Nat.le_of_ble_eq_true rfl) ⟨Nat.zero_le _, Nat.zero_le _⟩ dX6_surest_30 (fun z13 H locs hW => ?_)
    refine lv_i2l hx hb dX6_surest_33 rfl ?_
    refine lv_iload_n hx hb dX6_surest_34 rfl (lv_at hl 2 rfl) ?_
    obtain ⟨u14, e15, h⟩ := bd_o h hn
    refine g_callSl (rest := []) K hW hl (kX6_lowest (l := l) (G := G) (ad := ad) hok (u5).toInt64 (u11).toInt64 x1 I J u14 e15) q_932 q_933 q_133 q_934 nm_X6_lowest ⟨Nat.le_of_ble_eq_true rfl, Nat.le_of_ble_eq_true rfl⟩ rfl rfl (Nat.le_of_ble_eq_true rfl) ⟨Nat.zero_le _, Nat.zero_le _⟩ dX6_surest_35 (fun H locs hW => ?_)
    obtain a1 := so1 h
    exact g_nml a1 (hfin _ _ _ _ hW dX6_surest_38)
  · replace h := gi_t h c4
    refine lv_lconst (v := (0 : Int64)) hx hb dX6_surest_10 rfl ?_
    refine lv_lconst (v := (1 : Int64)) hx hb dX6_surest_11 rfl ?_
    refine lv_iload_n hx hb dX6_surest_12 rfl (lv_at hl 2 rfl) ?_
    obtain ⟨u17, e18, h⟩ := bd_o h hn
    refine g_callSl (rest := []) K hW hl (kX6_lowest (l := l) (G := G) (ad := ad) hok (0 : Int64) (1 : Int64) x1 I J u17 e18) q_932 q_933 q_133 q_934 nm_X6_lowest ⟨Nat.le_of_ble_eq_true rfl, Nat.le_of_ble_eq_true rfl⟩ rfl rfl (Nat.le_of_ble_eq_true rfl) ⟨Nat.zero_le _, Nat.zero_le _⟩ dX6_surest_13 (fun H locs hW => ?_)
    refine lv_goto (tgt := 38) hx hb dX6_surest_16 (by decide) ?_
    obtain a1 := so1 h
    exact g_nml a1 (hfin _ _ _ _ hW dX6_surest_38)
