-- 13.c08: the class: X6.whose X6.richest X6.rival X6.isDawnOf X6.learnt X6.since X6.wanted X6.alone X6.idle X6.poor X6.room X6.can
noncomputable def fX6_whose_20b  (rec : Int32 → Int32 → Int32 → Int32 → gI → Option ((Int32 × gI))) (u6 : Int32) (u7 : Int32) (u8 : Int32) (u9 : Int32) (I : gI) : Option ((Int32 × gI)) :=
  gi ((I 1 15) ≤ u9)
 (some (u8, I))
 (gi ((8 : Int32) ≤ u9)
 (some (u8, I))
 (gd (vp_in u9 8) (bd (fX6_bidsBy u7 (I 9 (u9).toNatClampNeg) (I 11 5) I) (pr (fun (u15 : Int32) (I16 : gI) => lz (fun (u19 : Int32) => lz ((u8 &&& u19)) (fun (u23 : Int32) => lz ((u9 + (1 : Int32))) (fun (u25 : Int32) => rec u6 u7 u23 u25 I16))) (fun j20 => gi (u15 = (I16 10 (u9).toNatClampNeg))
 (j20 (1 : Int32))
 (j20 (0 : Int32))))))))
noncomputable def fX6_whose_20  : Nat → Int32 → Int32 → Int32 → Int32 → gI → Option ((Int32 × gI))
  | 0 => fun _ _ _ _ _ => none
  | n + 1 => fX6_whose_20b  (fX6_whose_20  n)
set_option maxHeartbeats 4000000 in
set_option maxRecDepth 100000 in
theorem tX6_whose_20 {l : Launch} {G : gG} {ad : Nat → Nat} {p : Program} {e : Env} {s : State} {m : MethodId} {args : Array Value} {below : List Frame} {meth : Method} {c : Code} {Q : State → Prop} (hok : gInj LC ad) (K : gCx G (gA LC ad) p s m args c cX6_whose 5 RX6)  : ∀ (n : Nat) (u6 : Int32) (u7 : Int32) (u8 : Int32) (u9 : Int32) (I : gI) (J : gJ) (out : Option ((Int32 × gI))), fX6_whose_20  n u6 u7 u8 u9 I = out → out ≠ none → ∀ (H : Heap) (locs : List Loc), gWd G LC ad (gA LC ad) s.heap I J H locs → ∀ (ls : Array Slot), lv_has ls 5 [(0, .ref (ad 0)), (1, .int u6), (2, .int u7), (3, .int u8), (4, .int u9)] → (∀ (y10 : Int32) (I11 : gI), some (y10, I11) = out → ∀ (H : Heap) (locs : List Loc), gWd G LC ad (gA LC ad) s.heap I11 J H locs → ∀ (ls : Array Slot), lv_has ls 5 [(0, .ref (ad 0)), (1, .int u6), (2, .int u7), (3, .int y10)] → W p l e (gRm 5) s m args below meth c H locs 0 0 Q (F0 m 91 ls [])) → W p l e (gRm 5) s m args below meth c H locs 0 0 Q (F0 m 20 ls []) := by
  have hx := K.1; have hb := K.2.1; have hown := K.2.2.2.1; have hts := K.2.2.2.2.1
  intro n
  induction n with
  | zero => intro u6 u7 u8 u9 I J out h hn; exact absurd h.symm hn
  | succ n ih =>
    intro u6 u7 u8 u9 I J out h hn H locs hW ls hl hx1
    replace h : fX6_whose_20b  (fX6_whose_20  n) u6 u7 u8 u9 I = out := h
    unfold fX6_whose_20b at h
    refine lv_iload hx hb dX6_whose_20 (lv_at hl 4 rfl) ?_
    refine lv_aload_n hx hb dX6_whose_22 rfl (lv_at hl 0 rfl) ?_
    refine g_get K hW (t := 2) (ci := 5) (k := 0) (v := .ref (ad 1)) kLC_0 rfl rfl i_X6 (by decide) q_393 rfl (gfv2 rLC_0_0) dX6_whose_23 ?_
    refine g_get K hW (t := 0) (ci := 0) (k := 15) (v := .int (I 1 15)) kLC_1 rfl rfl i_X0 (by decide) q_245 rfl rfl dX6_whose_26 ?_
    refine lv_icmp_ge (tgt := 91) hx hb dX6_whose_29 (by decide) (fun c12 => ?_) (fun c12 => ?_)
    · replace h := gi_t h c12
      exact hx1 u8 I h _ _ hW _ (lv_sub hl [0, 1, 2, 3] rfl)
    · replace h := gi_f h c12
      refine lv_iload hx hb dX6_whose_32 (lv_at hl 4 rfl) ?_
      refine lv_bipush (v := (8 : Int32)) hx hb dX6_whose_34 (by decide) ?_
      refine lv_icmp_ge (tgt := 91) hx hb dX6_whose_36 (by decide) (fun c13 => ?_) (fun c13 => ?_)
      · replace h := gi_t h c13
        exact hx1 u8 I h _ _ hW _ (lv_sub hl [0, 1, 2, 3] rfl)
      · replace h := gi_f h c13
        refine lv_iload_n hx hb dX6_whose_39 rfl (lv_at hl 3 rfl) ?_
        refine lv_aload_n hx hb dX6_whose_40 rfl (lv_at hl 0 rfl) ?_
        refine lv_iload_n hx hb dX6_whose_41 rfl (lv_at hl 2 rfl) ?_
        refine lv_aload_n hx hb dX6_whose_42 rfl (lv_at hl 0 rfl) ?_
        refine g_get K hW (t := 2) (ci := 5) (k := 0) (v := .ref (ad 1)) kLC_0 rfl rfl i_X6 (by decide) q_393 rfl (gfv2 rLC_0_0) dX6_whose_43 ?_
        refine g_get K hW (t := 2) (ci := 0) (k := 7) (v := .ref (ad 9)) kLC_1 rfl rfl i_X0 (by decide) q_228 rfl (gfv2 rLC_1_7) dX6_whose_46 ?_
        refine lv_iload hx hb dX6_whose_49 (lv_at hl 4 rfl) ?_
        obtain ⟨g14, h⟩ := gd_o h hn
        refine g_iald K hW kLC_9 g14 rfl dX6_whose_51 ?_
        refine lv_aload_n hx hb dX6_whose_52 rfl (lv_at hl 0 rfl) ?_
        refine g_get K hW (t := 2) (ci := 5) (k := 0) (v := .ref (ad 1)) kLC_0 rfl rfl i_X6 (by decide) q_393 rfl (gfv2 rLC_0_0) dX6_whose_53 ?_
        refine g_get K hW (t := 2) (ci := 0) (k := 9) (v := .ref (ad 11)) kLC_1 rfl rfl i_X0 (by decide) q_232 rfl (gfv2 rLC_1_9) dX6_whose_56 ?_
        refine g_get K hW (t := 0) (ci := 4) (k := 5) (v := .int (I 11 5)) kLC_11 rfl rfl i_X5 (by decide) q_182 rfl rfl dX6_whose_59 ?_
        obtain ⟨⟨u15, I16⟩, e17, h⟩ := bd_o h hn
        replace h := pr_o h
        refine g_callVi (rest := [.int u8]) K hW hl (kX6_bidsBy (l := l) (G := G) (ad := ad) hok u7 (I 9 (u9).toNatClampNeg) (I 11 5) I J u15 I16 e17) kLC_0 rfl (gG_V q_688 q_690 q_26 q_133 q_691) nm_X6_bidsBy ⟨Nat.le_of_ble_eq_true rfl, Nat.le_of_ble_eq_true rfl⟩ rfl rfl (Nat.le_of_ble_eq_true rfl) ⟨Nat.zero_le _, Nat.zero_le _⟩ dX6_whose_62 (fun z18 H locs hW => ?_)
        refine lv_aload_n hx hb dX6_whose_65 rfl (lv_at hl 0 rfl) ?_
        refine g_get K hW (t := 2) (ci := 5) (k := 0) (v := .ref (ad 1)) kLC_0 rfl rfl i_X6 (by decide) q_393 rfl (gfv2 rLC_0_0) dX6_whose_66 ?_
        refine g_get K hW (t := 2) (ci := 0) (k := 8) (v := .ref (ad 10)) kLC_1 rfl rfl i_X0 (by decide) q_230 rfl (gfv2 rLC_1_8) dX6_whose_69 ?_
        refine lv_iload hx hb dX6_whose_72 (lv_at hl 4 rfl) ?_
        refine g_iald K hW kLC_10 g14 rfl dX6_whose_74 ?_
        obtain ⟨j20, e21, h⟩ := lz_o h
        have hj22 : ∀ (u19 : Int32), j20 u19 = out → ∀ (H : Heap) (locs : List Loc), gWd G LC ad (gA LC ad) s.heap I16 J H locs → ∀ (ls : Array Slot), lv_has ls 5 [(0, .ref (ad 0)), (1, .int u6), (2, .int u7), (4, .int u9)] → W p l e (gRm 5) s m args below meth c H locs 0 0 Q (F0 m 83 ls [.int u19, .int u8]) := by
          intro u19 h H locs hW ls hl
          replace h := jn1 e21 h
          refine lv_iand hx hb dX6_whose_83 ?_
          obtain ⟨u23, e24, h⟩ := lz_o h
          refine g_nmi e24 ?_
          refine lv_istore_n (lv' := [(3, .int u23), (0, .ref (ad 0)), (1, .int u6), (2, .int u7), (4, .int u9)]) hx hb dX6_whose_84 rfl hl (by decide) rfl (fun ls hl => ?_)
          obtain ⟨u25, e26, h⟩ := lz_o h
          refine lv_iinc (v := u25) (lv' := [(4, .int u25), (3, .int u23), (0, .ref (ad 0)), (1, .int u6), (2, .int u7)]) hx hb dX6_whose_85 hl (k := 4) rfl (by rw [e26]; rfl) (by decide) rfl (fun ls hl => ?_)
          refine lv_goto (tgt := 20) hx hb dX6_whose_88 (by decide) ?_
          exact ih u6 u7 u23 u25 I16 J _ h hn _ _ hW _ (lv_sub hl [2, 3, 4, 1, 0] rfl) hx1
        refine lv_icmp_ne (tgt := 82) hx hb dX6_whose_75 (by decide) (fun c27 => ?_) (fun c27 => ?_)
        · replace h := gi_f h c27
          refine lv_iconst (v := (0 : Int32)) hx hb dX6_whose_82 (by decide) ?_
          exact hj22 (0 : Int32) h _ _ hW _ (lv_sub hl [0, 1, 2, 4] rfl)
        · replace h := gi_t h c27
          refine lv_iconst (v := (1 : Int32)) hx hb dX6_whose_78 (by decide) ?_
          refine lv_goto (tgt := 83) hx hb dX6_whose_79 (by decide) ?_
          exact hj22 (1 : Int32) h _ _ hW _ (lv_sub hl [0, 1, 2, 4] rfl)
noncomputable def fX6_whose_4b  (rec : Int32 → Int32 → gI → Option ((Int32 × gI))) (u1 : Int32) (u2 : Int32) (I : gI) : Option ((Int32 × gI)) :=
  gi ((I 1 13) ≤ u2)
 (some (u1, I))
 (bd (fX6_whose_20 FU u1 u2 (1 : Int32) (0 : Int32) I) (pr (fun (u30 : Int32) (I31 : gI) => lz (fun (u33 : Int32) => lz ((u2 + (1 : Int32))) (fun (u37 : Int32) => rec u33 u37 I31)) (fun j34 => gi (u30 = 0)
 (j34 u1)
 (lz ((u1 ||| (jshl (1 : Int32) u2))) (fun (u40 : Int32) => j34 u40))))))
noncomputable def fX6_whose_4  : Nat → Int32 → Int32 → gI → Option ((Int32 × gI))
  | 0 => fun _ _ _ => none
  | n + 1 => fX6_whose_4b  (fX6_whose_4  n)
set_option maxHeartbeats 4000000 in
set_option maxRecDepth 100000 in
theorem tX6_whose_4 {l : Launch} {G : gG} {ad : Nat → Nat} {p : Program} {e : Env} {s : State} {m : MethodId} {args : Array Value} {below : List Frame} {meth : Method} {c : Code} {Q : State → Prop} (hok : gInj LC ad) (K : gCx G (gA LC ad) p s m args c cX6_whose 5 RX6)  : ∀ (n : Nat) (u1 : Int32) (u2 : Int32) (I : gI) (J : gJ) (out : Option ((Int32 × gI))), fX6_whose_4  n u1 u2 I = out → out ≠ none → ∀ (H : Heap) (locs : List Loc), gWd G LC ad (gA LC ad) s.heap I J H locs → ∀ (ls : Array Slot), lv_has ls 5 [(0, .ref (ad 0)), (1, .int u1), (2, .int u2)] → (∀ (y3 : Int32) (I4 : gI), some (y3, I4) = out → ∀ (H : Heap) (locs : List Loc), gWd G LC ad (gA LC ad) s.heap I4 J H locs → ∀ (ls : Array Slot), lv_has ls 5 [(1, .int y3)] → W p l e (gRm 5) s m args below meth c H locs 0 0 Q (F0 m 107 ls [])) → W p l e (gRm 5) s m args below meth c H locs 0 0 Q (F0 m 4 ls []) := by
  have hx := K.1; have hb := K.2.1; have hown := K.2.2.2.1; have hts := K.2.2.2.2.1
  intro n
  induction n with
  | zero => intro u1 u2 I J out h hn; exact absurd h.symm hn
  | succ n ih =>
    intro u1 u2 I J out h hn H locs hW ls hl hx1
    replace h : fX6_whose_4b  (fX6_whose_4  n) u1 u2 I = out := h
    unfold fX6_whose_4b at h
    refine lv_iload_n hx hb dX6_whose_4 rfl (lv_at hl 2 rfl) ?_
    refine lv_aload_n hx hb dX6_whose_5 rfl (lv_at hl 0 rfl) ?_
    refine g_get K hW (t := 2) (ci := 5) (k := 0) (v := .ref (ad 1)) kLC_0 rfl rfl i_X6 (by decide) q_393 rfl (gfv2 rLC_0_0) dX6_whose_6 ?_
    refine g_get K hW (t := 0) (ci := 0) (k := 13) (v := .int (I 1 13)) kLC_1 rfl rfl i_X0 (by decide) q_241 rfl rfl dX6_whose_9 ?_
    refine lv_icmp_ge (tgt := 107) hx hb dX6_whose_12 (by decide) (fun c5 => ?_) (fun c5 => ?_)
    · replace h := gi_t h c5
      exact hx1 u1 I h _ _ hW _ (lv_sub hl [1] rfl)
    · replace h := gi_f h c5
      refine lv_iconst (v := (1 : Int32)) hx hb dX6_whose_15 (by decide) ?_
      refine lv_istore_n (lv' := [(3, .int (1 : Int32)), (0, .ref (ad 0)), (1, .int u1), (2, .int u2)]) hx hb dX6_whose_16 rfl hl (by decide) rfl (fun ls hl => ?_)
      refine lv_iconst (v := (0 : Int32)) hx hb dX6_whose_17 (by decide) ?_
      refine lv_istore (lv' := [(4, .int (0 : Int32)), (3, .int (1 : Int32)), (0, .ref (ad 0)), (1, .int u1), (2, .int u2)]) hx hb dX6_whose_18 hl (by decide) rfl (fun ls hl => ?_)
      obtain ⟨r28, e29, h⟩ := bd_o h hn
      refine tX6_whose_20 hok K FU u1 u2 (1 : Int32) (0 : Int32) I J (some r28) e29 (Option.some_ne_none _) _ _ hW _ (lv_sub hl [2, 3, 4, 1, 0] rfl) ?_
      · intro u30 I31 q32 H locs hW ls hl
        replace q32 := Option.some.inj q32
        subst q32
        replace h := pr_o h
        refine lv_iload_n hx hb dX6_whose_91 rfl (lv_at hl 3 rfl) ?_
        obtain ⟨j34, e35, h⟩ := lz_o h
        have hj36 : ∀ (u33 : Int32), j34 u33 = out → ∀ (H : Heap) (locs : List Loc), gWd G LC ad (gA LC ad) s.heap I31 J H locs → ∀ (ls : Array Slot), lv_has ls 5 [(0, .ref (ad 0)), (1, .int u33), (2, .int u2)] → W p l e (gRm 5) s m args below meth c H locs 0 0 Q (F0 m 101 ls []) := by
          intro u33 h H locs hW ls hl
          replace h := jn1 e35 h
          obtain ⟨u37, e38, h⟩ := lz_o h
          refine lv_iinc (v := u37) (lv' := [(2, .int u37), (0, .ref (ad 0)), (1, .int u33)]) hx hb dX6_whose_101 hl (k := 2) rfl (by rw [e38]; rfl) (by decide) rfl (fun ls hl => ?_)
          refine lv_goto (tgt := 4) hx hb dX6_whose_104 (by decide) ?_
          exact ih u33 u37 I31 J _ h hn _ _ hW _ (lv_sub hl [1, 2, 0] rfl) hx1
        refine lv_if_eq (tgt := 101) hx hb dX6_whose_92 (by decide) (fun c39 => ?_) (fun c39 => ?_)
        · replace h := gi_t h c39
          exact hj36 u1 h _ _ hW _ (lv_sub hl [0, 1, 2] rfl)
        · replace h := gi_f h c39
          refine lv_iload_n hx hb dX6_whose_95 rfl (lv_at hl 1 rfl) ?_
          refine lv_iconst (v := (1 : Int32)) hx hb dX6_whose_96 (by decide) ?_
          refine lv_iload_n hx hb dX6_whose_97 rfl (lv_at hl 2 rfl) ?_
          refine g_ishl hx hb dX6_whose_98 ?_
          refine lv_ior hx hb dX6_whose_99 ?_
          obtain ⟨u40, e41, h⟩ := lz_o h
          refine g_nmi e41 ?_
          refine lv_istore_n (lv' := [(1, .int u40), (0, .ref (ad 0)), (2, .int u2), (3, .int u30)]) hx hb dX6_whose_100 rfl hl (by decide) rfl (fun ls hl => ?_)
          exact hj36 u40 h _ _ hW _ (lv_sub hl [1, 0, 2] rfl)
noncomputable def fX6_whose   (I : gI) : Option (Int32 × gI) :=
  bd (fX6_whose_4 FU (0 : Int32) (0 : Int32) I) (pr (fun (u44 : Int32) (I45 : gI) => some (u44, I45)))
set_option maxHeartbeats 4000000 in
set_option maxRecDepth 100000 in
theorem kX6_whose {l : Launch} {G : gG} {ad : Nat → Nat} (hok : gInj LC ad)     (I : gI) (J : gJ) (r : Int32) (I' : gI) (h : fX6_whose I = some (r, I')) : gMi l yX6_whose cX6_whose 5 (some .int) 5 G LC ad [.ref (ad 0)] I J r True I' J := by
  refine gMi_of (lst := [(0, .ref (ad 0))]) (by decide) hok (Nat.le_of_ble_eq_true rfl) rfl ?_
  intro p e s m args below meth c Q ls K hW hl hfin
  have hn : (some (r, I') : Option (Int32 × gI)) ≠ none := Option.some_ne_none _
  have hx := K.1; have hb := K.2.1; have hown := K.2.2.2.1; have hts := K.2.2.2.2.1
  unfold fX6_whose at h
  refine lv_iconst (v := (0 : Int32)) hx hb dX6_whose_0 (by decide) ?_
  refine lv_istore_n (lv' := [(1, .int (0 : Int32)), (0, .ref (ad 0))]) hx hb dX6_whose_1 rfl hl (by decide) rfl (fun ls hl => ?_)
  refine lv_iconst (v := (0 : Int32)) hx hb dX6_whose_2 (by decide) ?_
  refine lv_istore_n (lv' := [(2, .int (0 : Int32)), (1, .int (0 : Int32)), (0, .ref (ad 0))]) hx hb dX6_whose_3 rfl hl (by decide) rfl (fun ls hl => ?_)
  obtain ⟨r42, e43, h⟩ := bd_o h hn
  refine tX6_whose_4 hok K FU (0 : Int32) (0 : Int32) I J (some r42) e43 (Option.some_ne_none _) _ _ hW _ (lv_sub hl [2, 1, 0] rfl) ?_
  · intro u44 I45 q46 H locs hW ls hl
    replace q46 := Option.some.inj q46
    subst q46
    replace h := pr_o h
    refine lv_iload_n hx hb dX6_whose_107 rfl (lv_at hl 0 rfl) ?_
    obtain ⟨a1, a2⟩ := so2 h
    replace hW := gWd_nI a2 hW
    exact g_nmi a1 (hfin _ _ _ _ hW dX6_whose_108)
noncomputable def fX6_richest_6b  (rec : Int32 → Int32 → Int32 → gI → Option ((Int32))) (u1 : Int32) (u2 : Int32) (u3 : Int32) (I : gI) : Option ((Int32)) :=
  gi ((I 1 12) ≤ u3)
 (some u1)
 (gd (vp_in u3 6) (lz (fun (u7 : Int32) => fun (u8 : Int32) => lz ((u3 + (1 : Int32))) (fun (u12 : Int32) => rec u7 u8 u12 I)) (fun j9 => gi ((I 12 (u3).toNatClampNeg) ≤ u2)
 (j9 u1 u2)
 (lz ((I 12 (u3).toNatClampNeg)) (fun (u15 : Int32) => j9 u3 u15)))))
noncomputable def fX6_richest_6  : Nat → Int32 → Int32 → Int32 → gI → Option ((Int32))
  | 0 => fun _ _ _ _ => none
  | n + 1 => fX6_richest_6b  (fX6_richest_6  n)
set_option maxHeartbeats 4000000 in
set_option maxRecDepth 100000 in
theorem tX6_richest_6 {l : Launch} {G : gG} {ad : Nat → Nat} {p : Program} {e : Env} {s : State} {m : MethodId} {args : Array Value} {below : List Frame} {meth : Method} {c : Code} {Q : State → Prop} (hok : gInj LC ad) (K : gCx G (gA LC ad) p s m args c cX6_richest 4 RX6)  : ∀ (n : Nat) (u1 : Int32) (u2 : Int32) (u3 : Int32) (I : gI) (J : gJ) (out : Option ((Int32))), fX6_richest_6  n u1 u2 u3 I = out → out ≠ none → ∀ (H : Heap) (locs : List Loc), gWd G LC ad (gA LC ad) s.heap I J H locs → ∀ (ls : Array Slot), lv_has ls 4 [(0, .ref (ad 0)), (1, .int u1), (2, .int u2), (3, .int u3)] → (∀ (y4 : Int32), some y4 = out → ∀ (H : Heap) (locs : List Loc), gWd G LC ad (gA LC ad) s.heap I J H locs → ∀ (ls : Array Slot), lv_has ls 4 [(1, .int y4)] → W p l e (gRm 1) s m args below meth c H locs 0 0 Q (F0 m 54 ls [])) → W p l e (gRm 1) s m args below meth c H locs 0 0 Q (F0 m 6 ls []) := by
  have hx := K.1; have hb := K.2.1; have hown := K.2.2.2.1; have hts := K.2.2.2.2.1
  intro n
  induction n with
  | zero => intro u1 u2 u3 I J out h hn; exact absurd h.symm hn
  | succ n ih =>
    intro u1 u2 u3 I J out h hn H locs hW ls hl hx1
    replace h : fX6_richest_6b  (fX6_richest_6  n) u1 u2 u3 I = out := h
    unfold fX6_richest_6b at h
    refine lv_iload_n hx hb dX6_richest_6 rfl (lv_at hl 3 rfl) ?_
    refine lv_aload_n hx hb dX6_richest_7 rfl (lv_at hl 0 rfl) ?_
    refine g_get K hW (t := 2) (ci := 5) (k := 0) (v := .ref (ad 1)) kLC_0 rfl rfl i_X6 (by decide) q_393 rfl (gfv2 rLC_0_0) dX6_richest_8 ?_
    refine g_get K hW (t := 0) (ci := 0) (k := 12) (v := .int (I 1 12)) kLC_1 rfl rfl i_X0 (by decide) q_238 rfl rfl dX6_richest_11 ?_
    refine lv_icmp_ge (tgt := 54) hx hb dX6_richest_14 (by decide) (fun c5 => ?_) (fun c5 => ?_)
    · replace h := gi_t h c5
      exact hx1 u1 h _ _ hW _ (lv_sub hl [1] rfl)
    · replace h := gi_f h c5
      refine lv_aload_n hx hb dX6_richest_17 rfl (lv_at hl 0 rfl) ?_
      refine g_get K hW (t := 2) (ci := 5) (k := 0) (v := .ref (ad 1)) kLC_0 rfl rfl i_X6 (by decide) q_393 rfl (gfv2 rLC_0_0) dX6_richest_18 ?_
      refine g_get K hW (t := 2) (ci := 0) (k := 9) (v := .ref (ad 11)) kLC_1 rfl rfl i_X0 (by decide) q_232 rfl (gfv2 rLC_1_9) dX6_richest_21 ?_
      refine g_get K hW (t := 2) (ci := 4) (k := 0) (v := .ref (ad 12)) kLC_11 rfl rfl i_X5 (by decide) q_169 rfl (gfv2 rLC_11_0) dX6_richest_24 ?_
      refine lv_iload_n hx hb dX6_richest_27 rfl (lv_at hl 3 rfl) ?_
      obtain ⟨g6, h⟩ := gd_o h hn
      refine g_iald K hW kLC_12 g6 rfl dX6_richest_28 ?_
      refine lv_iload_n hx hb dX6_richest_29 rfl (lv_at hl 2 rfl) ?_
      obtain ⟨j9, e10, h⟩ := lz_o h
      have hj11 : ∀ (u7 : Int32) (u8 : Int32), j9 u7 u8 = out → ∀ (H : Heap) (locs : List Loc), gWd G LC ad (gA LC ad) s.heap I J H locs → ∀ (ls : Array Slot), lv_has ls 4 [(0, .ref (ad 0)), (1, .int u7), (2, .int u8), (3, .int u3)] → W p l e (gRm 1) s m args below meth c H locs 0 0 Q (F0 m 48 ls []) := by
        intro u7 u8 h H locs hW ls hl
        replace h := jn2 e10 h
        obtain ⟨u12, e13, h⟩ := lz_o h
        refine lv_iinc (v := u12) (lv' := [(3, .int u12), (0, .ref (ad 0)), (1, .int u7), (2, .int u8)]) hx hb dX6_richest_48 hl (k := 3) rfl (by rw [e13]; rfl) (by decide) rfl (fun ls hl => ?_)
        refine lv_goto (tgt := 6) hx hb dX6_richest_51 (by decide) ?_
        exact ih u7 u8 u12 I J _ h hn _ _ hW _ (lv_sub hl [1, 2, 3, 0] rfl) hx1
      refine lv_icmp_le (tgt := 48) hx hb dX6_richest_30 (by decide) (fun c14 => ?_) (fun c14 => ?_)
      · replace h := gi_t h c14
        exact hj11 u1 u2 h _ _ hW _ (lv_sub hl [0, 1, 2, 3] rfl)
      · replace h := gi_f h c14
        refine lv_aload_n hx hb dX6_richest_33 rfl (lv_at hl 0 rfl) ?_
        refine g_get K hW (t := 2) (ci := 5) (k := 0) (v := .ref (ad 1)) kLC_0 rfl rfl i_X6 (by decide) q_393 rfl (gfv2 rLC_0_0) dX6_richest_34 ?_
        refine g_get K hW (t := 2) (ci := 0) (k := 9) (v := .ref (ad 11)) kLC_1 rfl rfl i_X0 (by decide) q_232 rfl (gfv2 rLC_1_9) dX6_richest_37 ?_
        refine g_get K hW (t := 2) (ci := 4) (k := 0) (v := .ref (ad 12)) kLC_11 rfl rfl i_X5 (by decide) q_169 rfl (gfv2 rLC_11_0) dX6_richest_40 ?_
        refine lv_iload_n hx hb dX6_richest_43 rfl (lv_at hl 3 rfl) ?_
        refine g_iald K hW kLC_12 g6 rfl dX6_richest_44 ?_
        obtain ⟨u15, e16, h⟩ := lz_o h
        refine g_nmi e16 ?_
        refine lv_istore_n (lv' := [(2, .int u15), (0, .ref (ad 0)), (1, .int u1), (3, .int u3)]) hx hb dX6_richest_45 rfl hl (by decide) rfl (fun ls hl => ?_)
        refine lv_iload_n hx hb dX6_richest_46 rfl (lv_at hl 3 rfl) ?_
        refine lv_istore_n (lv' := [(1, .int u3), (2, .int u15), (0, .ref (ad 0)), (3, .int u3)]) hx hb dX6_richest_47 rfl hl (by decide) rfl (fun ls hl => ?_)
        exact hj11 u3 u15 h _ _ hW _ (lv_sub hl [2, 0, 1, 3] rfl)
noncomputable def fX6_richest   (I : gI) : Option (Int32) :=
  bd (fX6_richest_6 FU (-1 : Int32) (0 : Int32) (0 : Int32) I) (fun (u19 : Int32) => some u19)
set_option maxHeartbeats 4000000 in
set_option maxRecDepth 100000 in
theorem kX6_richest {l : Launch} {G : gG} {ad : Nat → Nat} (hok : gInj LC ad)     (I : gI) (J : gJ) (r : Int32) (h : fX6_richest I = some r) : gMi l yX6_richest cX6_richest 4 (some .int) 1 G LC ad [.ref (ad 0)] I J r True I J := by
  refine gMi_of (lst := [(0, .ref (ad 0))]) (by decide) hok (Nat.le_of_ble_eq_true rfl) rfl ?_
  intro p e s m args below meth c Q ls K hW hl hfin
  have hn : (some r : Option (Int32)) ≠ none := Option.some_ne_none _
  have hx := K.1; have hb := K.2.1; have hown := K.2.2.2.1; have hts := K.2.2.2.2.1
  unfold fX6_richest at h
  refine lv_iconst (v := (-1 : Int32)) hx hb dX6_richest_0 (by decide) ?_
  refine lv_istore_n (lv' := [(1, .int (-1 : Int32)), (0, .ref (ad 0))]) hx hb dX6_richest_1 rfl hl (by decide) rfl (fun ls hl => ?_)
  refine lv_iconst (v := (0 : Int32)) hx hb dX6_richest_2 (by decide) ?_
  refine lv_istore_n (lv' := [(2, .int (0 : Int32)), (1, .int (-1 : Int32)), (0, .ref (ad 0))]) hx hb dX6_richest_3 rfl hl (by decide) rfl (fun ls hl => ?_)
  refine lv_iconst (v := (0 : Int32)) hx hb dX6_richest_4 (by decide) ?_
  refine lv_istore_n (lv' := [(3, .int (0 : Int32)), (2, .int (0 : Int32)), (1, .int (-1 : Int32)), (0, .ref (ad 0))]) hx hb dX6_richest_5 rfl hl (by decide) rfl (fun ls hl => ?_)
  obtain ⟨r17, e18, h⟩ := bd_o h hn
  refine tX6_richest_6 hok K FU (-1 : Int32) (0 : Int32) (0 : Int32) I J (some r17) e18 (Option.some_ne_none _) _ _ hW _ (lv_sub hl [3, 2, 1, 0] rfl) ?_
  · intro u19 q20 H locs hW ls hl
    replace q20 := Option.some.inj q20
    subst q20
    refine lv_iload_n hx hb dX6_richest_54 rfl (lv_at hl 0 rfl) ?_
    obtain a1 := so1 h
    exact g_nmi a1 (hfin _ _ _ _ hW dX6_richest_55)
noncomputable def fX6_rival_14b  (rec : Int32 → Int32 → Int32 → gI → Option ((Int32))) (u3 : Int32) (u4 : Int32) (u5 : Int32) (I : gI) : Option ((Int32)) :=
  gi ((I 1 12) ≤ u5)
 (some u4)
 (gd (vp_in u5 6) (gd (vp_in u3 6) (lz (fun (u10 : Int32) => bd (fX0_slicesOf u5 I) (fun (u14 : Int32) => bd (fX0_slicesOf u3 I) (fun (u17 : Int32) => lz (fun (u20 : Int32) => lz (fun (u24 : Int32) => lz ((u5 + (1 : Int32))) (fun (u28 : Int32) => rec u3 u24 u28 I)) (fun j25 => gi (u5 = u3)
 (j25 u4)
 (gi (u10 = 0)
 (j25 u4)
 (gi (u20 = 0)
 (j25 u4)
 (lz ((u4 ||| (jshl (1 : Int32) u5))) (fun (u33 : Int32) => j25 u33)))))) (fun j21 => gi ((u14 &&& u17) = 0)
 (j21 (0 : Int32))
 (j21 (1 : Int32)))))) (fun j11 => gi (((I 4 (u5).toNatClampNeg) &&& (I 4 (u3).toNatClampNeg)) = 0)
 (j11 (0 : Int32))
 (j11 (1 : Int32))))))
noncomputable def fX6_rival_14  : Nat → Int32 → Int32 → Int32 → gI → Option ((Int32))
  | 0 => fun _ _ _ _ => none
  | n + 1 => fX6_rival_14b  (fX6_rival_14  n)
set_option maxHeartbeats 4000000 in
set_option maxRecDepth 100000 in
theorem tX6_rival_14 {l : Launch} {G : gG} {ad : Nat → Nat} {p : Program} {e : Env} {s : State} {m : MethodId} {args : Array Value} {below : List Frame} {meth : Method} {c : Code} {Q : State → Prop} (hok : gInj LC ad) (K : gCx G (gA LC ad) p s m args c cX6_rival 6 RX6)  : ∀ (n : Nat) (u3 : Int32) (u4 : Int32) (u5 : Int32) (I : gI) (J : gJ) (out : Option ((Int32))), fX6_rival_14  n u3 u4 u5 I = out → out ≠ none → ∀ (H : Heap) (locs : List Loc), gWd G LC ad (gA LC ad) s.heap I J H locs → ∀ (ls : Array Slot), lv_has ls 6 [(0, .ref (ad 0)), (1, .int u3), (2, .int u4), (3, .int u5)] → (∀ (y6 : Int32), some y6 = out → ∀ (H : Heap) (locs : List Loc), gWd G LC ad (gA LC ad) s.heap I J H locs → ∀ (ls : Array Slot), lv_has ls 6 [(2, .int y6)] → W p l e (gRm 2) s m args below meth c H locs 0 0 Q (F0 m 108 ls [])) → W p l e (gRm 2) s m args below meth c H locs 0 0 Q (F0 m 14 ls []) := by
  have hx := K.1; have hb := K.2.1; have hown := K.2.2.2.1; have hts := K.2.2.2.2.1
  intro n
  induction n with
  | zero => intro u3 u4 u5 I J out h hn; exact absurd h.symm hn
  | succ n ih =>
    intro u3 u4 u5 I J out h hn H locs hW ls hl hx1
    replace h : fX6_rival_14b  (fX6_rival_14  n) u3 u4 u5 I = out := h
    unfold fX6_rival_14b at h
    refine lv_iload_n hx hb dX6_rival_14 rfl (lv_at hl 3 rfl) ?_
    refine lv_aload_n hx hb dX6_rival_15 rfl (lv_at hl 0 rfl) ?_
    refine g_get K hW (t := 2) (ci := 5) (k := 0) (v := .ref (ad 1)) kLC_0 rfl rfl i_X6 (by decide) q_393 rfl (gfv2 rLC_0_0) dX6_rival_16 ?_
    refine g_get K hW (t := 0) (ci := 0) (k := 12) (v := .int (I 1 12)) kLC_1 rfl rfl i_X0 (by decide) q_238 rfl rfl dX6_rival_19 ?_
    refine lv_icmp_ge (tgt := 108) hx hb dX6_rival_22 (by decide) (fun c7 => ?_) (fun c7 => ?_)
    · replace h := gi_t h c7
      exact hx1 u4 h _ _ hW _ (lv_sub hl [2] rfl)
    · replace h := gi_f h c7
      refine lv_aload_n hx hb dX6_rival_25 rfl (lv_at hl 0 rfl) ?_
      refine g_get K hW (t := 2) (ci := 5) (k := 0) (v := .ref (ad 1)) kLC_0 rfl rfl i_X6 (by decide) q_393 rfl (gfv2 rLC_0_0) dX6_rival_26 ?_
      refine g_get K hW (t := 2) (ci := 0) (k := 2) (v := .ref (ad 4)) kLC_1 rfl rfl i_X0 (by decide) q_217 rfl (gfv2 rLC_1_2) dX6_rival_29 ?_
      refine lv_iload_n hx hb dX6_rival_32 rfl (lv_at hl 3 rfl) ?_
      obtain ⟨g8, h⟩ := gd_o h hn
      refine g_iald K hW kLC_4 g8 rfl dX6_rival_33 ?_
      refine lv_aload_n hx hb dX6_rival_34 rfl (lv_at hl 0 rfl) ?_
      refine g_get K hW (t := 2) (ci := 5) (k := 0) (v := .ref (ad 1)) kLC_0 rfl rfl i_X6 (by decide) q_393 rfl (gfv2 rLC_0_0) dX6_rival_35 ?_
      refine g_get K hW (t := 2) (ci := 0) (k := 2) (v := .ref (ad 4)) kLC_1 rfl rfl i_X0 (by decide) q_217 rfl (gfv2 rLC_1_2) dX6_rival_38 ?_
      refine lv_iload_n hx hb dX6_rival_41 rfl (lv_at hl 1 rfl) ?_
      obtain ⟨g9, h⟩ := gd_o h hn
      refine g_iald K hW kLC_4 g9 rfl dX6_rival_42 ?_
      refine lv_iand hx hb dX6_rival_43 ?_
      obtain ⟨j11, e12, h⟩ := lz_o h
      have hj13 : ∀ (u10 : Int32), j11 u10 = out → ∀ (H : Heap) (locs : List Loc), gWd G LC ad (gA LC ad) s.heap I J H locs → ∀ (ls : Array Slot), lv_has ls 6 [(0, .ref (ad 0)), (1, .int u3), (2, .int u4), (3, .int u5)] → W p l e (gRm 2) s m args below meth c H locs 0 0 Q (F0 m 52 ls [.int u10]) := by
        intro u10 h H locs hW ls hl
        replace h := jn1 e12 h
        refine lv_istore (lv' := [(4, .int u10), (0, .ref (ad 0)), (1, .int u3), (2, .int u4), (3, .int u5)]) hx hb dX6_rival_52 hl (by decide) rfl (fun ls hl => ?_)
        refine lv_aload_n hx hb dX6_rival_54 rfl (lv_at hl 1 rfl) ?_
        refine g_get K hW (t := 2) (ci := 5) (k := 0) (v := .ref (ad 1)) kLC_0 rfl rfl i_X6 (by decide) q_393 rfl (gfv2 rLC_0_0) dX6_rival_55 ?_
        refine lv_iload_n hx hb dX6_rival_58 rfl (lv_at hl 4 rfl) ?_
        obtain ⟨u14, e15, h⟩ := bd_o h hn
        refine g_callVi (rest := []) K hW hl (kX0_slicesOf (l := l) (G := G) (ad := ad) hok u5 I J u14 e15) kLC_1 rfl (gG_V q_684 q_685 q_686 q_134 q_687) nm_X0_slicesOf ⟨Nat.le_of_ble_eq_true rfl, Nat.le_of_ble_eq_true rfl⟩ rfl rfl (Nat.le_of_ble_eq_true rfl) ⟨Nat.zero_le _, Nat.zero_le _⟩ dX6_rival_59 (fun z16 H locs hW => ?_)
        refine lv_aload_n hx hb dX6_rival_62 rfl (lv_at hl 1 rfl) ?_
        refine g_get K hW (t := 2) (ci := 5) (k := 0) (v := .ref (ad 1)) kLC_0 rfl rfl i_X6 (by decide) q_393 rfl (gfv2 rLC_0_0) dX6_rival_63 ?_
        refine lv_iload_n hx hb dX6_rival_66 rfl (lv_at hl 2 rfl) ?_
        obtain ⟨u17, e18, h⟩ := bd_o h hn
        refine g_callVi (rest := [.int u14]) K hW hl (kX0_slicesOf (l := l) (G := G) (ad := ad) hok u3 I J u17 e18) kLC_1 rfl (gG_V q_684 q_685 q_686 q_134 q_687) nm_X0_slicesOf ⟨Nat.le_of_ble_eq_true rfl, Nat.le_of_ble_eq_true rfl⟩ rfl rfl (Nat.le_of_ble_eq_true rfl) ⟨Nat.zero_le _, Nat.zero_le _⟩ dX6_rival_67 (fun z19 H locs hW => ?_)
        refine lv_iand hx hb dX6_rival_70 ?_
        obtain ⟨j21, e22, h⟩ := lz_o h
        have hj23 : ∀ (u20 : Int32), j21 u20 = out → ∀ (H : Heap) (locs : List Loc), gWd G LC ad (gA LC ad) s.heap I J H locs → ∀ (ls : Array Slot), lv_has ls 6 [(0, .ref (ad 0)), (1, .int u3), (2, .int u4), (3, .int u5), (4, .int u10)] → W p l e (gRm 2) s m args below meth c H locs 0 0 Q (F0 m 79 ls [.int u20]) := by
          intro u20 h H locs hW ls hl
          replace h := jn1 e22 h
          refine lv_istore (lv' := [(5, .int u20), (0, .ref (ad 0)), (1, .int u3), (2, .int u4), (3, .int u5), (4, .int u10)]) hx hb dX6_rival_79 hl (by decide) rfl (fun ls hl => ?_)
          refine lv_iload_n hx hb dX6_rival_81 rfl (lv_at hl 4 rfl) ?_
          refine lv_iload_n hx hb dX6_rival_82 rfl (lv_at hl 2 rfl) ?_
          obtain ⟨j25, e26, h⟩ := lz_o h
          have hj27 : ∀ (u24 : Int32), j25 u24 = out → ∀ (H : Heap) (locs : List Loc), gWd G LC ad (gA LC ad) s.heap I J H locs → ∀ (ls : Array Slot), lv_has ls 6 [(0, .ref (ad 0)), (1, .int u3), (2, .int u24), (3, .int u5)] → W p l e (gRm 2) s m args below meth c H locs 0 0 Q (F0 m 102 ls []) := by
            intro u24 h H locs hW ls hl
            replace h := jn1 e26 h
            obtain ⟨u28, e29, h⟩ := lz_o h
            refine lv_iinc (v := u28) (lv' := [(3, .int u28), (0, .ref (ad 0)), (1, .int u3), (2, .int u24)]) hx hb dX6_rival_102 hl (k := 3) rfl (by rw [e29]; rfl) (by decide) rfl (fun ls hl => ?_)
            refine lv_goto (tgt := 14) hx hb dX6_rival_105 (by decide) ?_
            exact ih u3 u24 u28 I J _ h hn _ _ hW _ (lv_sub hl [1, 2, 3, 0] rfl) hx1
          refine lv_icmp_eq (tgt := 102) hx hb dX6_rival_83 (by decide) (fun c30 => ?_) (fun c30 => ?_)
          · replace h := gi_t h c30
            exact hj27 u4 h _ _ hW _ (lv_sub hl [1, 2, 3, 4] rfl)
          · replace h := gi_f h c30
            refine lv_iload hx hb dX6_rival_86 (lv_at hl 5 rfl) ?_
            refine lv_if_eq (tgt := 102) hx hb dX6_rival_88 (by decide) (fun c31 => ?_) (fun c31 => ?_)
            · replace h := gi_t h c31
              exact hj27 u4 h _ _ hW _ (lv_sub hl [1, 2, 3, 4] rfl)
            · replace h := gi_f h c31
              refine lv_iload hx hb dX6_rival_91 (lv_at hl 0 rfl) ?_
              refine lv_if_eq (tgt := 102) hx hb dX6_rival_93 (by decide) (fun c32 => ?_) (fun c32 => ?_)
              · replace h := gi_t h c32
                exact hj27 u4 h _ _ hW _ (lv_sub hl [1, 2, 3, 4] rfl)
              · replace h := gi_f h c32
                refine lv_iload_n hx hb dX6_rival_96 rfl (lv_at hl 3 rfl) ?_
                refine lv_iconst (v := (1 : Int32)) hx hb dX6_rival_97 (by decide) ?_
                refine lv_iload_n hx hb dX6_rival_98 rfl (lv_at hl 4 rfl) ?_
                refine g_ishl hx hb dX6_rival_99 ?_
                refine lv_ior hx hb dX6_rival_100 ?_
                obtain ⟨u33, e34, h⟩ := lz_o h
                refine g_nmi e34 ?_
                refine lv_istore_n (lv' := [(2, .int u33), (5, .int u20), (0, .ref (ad 0)), (1, .int u3), (3, .int u5), (4, .int u10)]) hx hb dX6_rival_101 rfl hl (by decide) rfl (fun ls hl => ?_)
                exact hj27 u33 h _ _ hW _ (lv_sub hl [2, 3, 0, 4] rfl)
        refine lv_if_eq (tgt := 78) hx hb dX6_rival_71 (by decide) (fun c35 => ?_) (fun c35 => ?_)
        · replace h := gi_t h c35
          refine lv_iconst (v := (0 : Int32)) hx hb dX6_rival_78 (by decide) ?_
          exact hj23 (0 : Int32) h _ _ hW _ (lv_sub hl [1, 2, 3, 4, 0] rfl)
        · replace h := gi_f h c35
          refine lv_iconst (v := (1 : Int32)) hx hb dX6_rival_74 (by decide) ?_
          refine lv_goto (tgt := 79) hx hb dX6_rival_75 (by decide) ?_
          exact hj23 (1 : Int32) h _ _ hW _ (lv_sub hl [1, 2, 3, 4, 0] rfl)
      refine lv_if_eq (tgt := 51) hx hb dX6_rival_44 (by decide) (fun c36 => ?_) (fun c36 => ?_)
      · replace h := gi_t h c36
        refine lv_iconst (v := (0 : Int32)) hx hb dX6_rival_51 (by decide) ?_
        exact hj13 (0 : Int32) h _ _ hW _ (lv_sub hl [0, 1, 2, 3] rfl)
      · replace h := gi_f h c36
        refine lv_iconst (v := (1 : Int32)) hx hb dX6_rival_47 (by decide) ?_
        refine lv_goto (tgt := 52) hx hb dX6_rival_48 (by decide) ?_
        exact hj13 (1 : Int32) h _ _ hW _ (lv_sub hl [0, 1, 2, 3] rfl)
noncomputable def fX6_rival  (x1 : Int32) (I : gI) : Option (Int32) :=
  gi ((fX6_isBuyer x1 I) = 0)
 (some (-1 : Int32))
 (bd (fX6_rival_14 FU x1 (0 : Int32) (0 : Int32) I) (fun (u39 : Int32) => some u39))
set_option maxHeartbeats 4000000 in
set_option maxRecDepth 100000 in
theorem kX6_rival {l : Launch} {G : gG} {ad : Nat → Nat} (hok : gInj LC ad)    (x1 : Int32) (I : gI) (J : gJ) (r : Int32) (h : fX6_rival x1 I = some r) : gMi l yX6_rival cX6_rival 6 (some .int) 2 G LC ad [.ref (ad 0), .int x1] I J r True I J := by
  refine gMi_of (lst := [(0, .ref (ad 0)), (1, .int x1)]) (by decide) hok (Nat.le_of_ble_eq_true rfl) rfl ?_
  intro p e s m args below meth c Q ls K hW hl hfin
  have hn : (some r : Option (Int32)) ≠ none := Option.some_ne_none _
  have hx := K.1; have hb := K.2.1; have hown := K.2.2.2.1; have hts := K.2.2.2.2.1
  unfold fX6_rival at h
  refine lv_aload_n hx hb dX6_rival_0 rfl (lv_at hl 0 rfl) ?_
  refine lv_iload_n hx hb dX6_rival_1 rfl (lv_at hl 1 rfl) ?_
  refine g_callVi (rest := []) K hW hl (kX6_isBuyer (l := l) (G := G) (ad := ad) hok x1 I J (fX6_isBuyer x1 I) rfl) kLC_0 rfl (gG_V q_461 q_463 q_0 q_133 q_464) nm_X6_isBuyer ⟨Nat.le_of_ble_eq_true rfl, Nat.le_of_ble_eq_true rfl⟩ rfl rfl (Nat.le_of_ble_eq_true rfl) ⟨Nat.zero_le _, Nat.zero_le _⟩ dX6_rival_2 (fun z1 H locs hW => ?_)
  refine lv_if_ne (tgt := 10) hx hb dX6_rival_5 (by decide) (fun c2 => ?_) (fun c2 => ?_)
  · replace h := gi_f h c2
    refine lv_iconst (v := (0 : Int32)) hx hb dX6_rival_10 (by decide) ?_
    refine lv_istore_n (lv' := [(2, .int (0 : Int32)), (0, .ref (ad 0)), (1, .int x1)]) hx hb dX6_rival_11 rfl hl (by decide) rfl (fun ls hl => ?_)
    refine lv_iconst (v := (0 : Int32)) hx hb dX6_rival_12 (by decide) ?_
    refine lv_istore_n (lv' := [(3, .int (0 : Int32)), (2, .int (0 : Int32)), (0, .ref (ad 0)), (1, .int x1)]) hx hb dX6_rival_13 rfl hl (by decide) rfl (fun ls hl => ?_)
    obtain ⟨r37, e38, h⟩ := bd_o h hn
    refine tX6_rival_14 hok K FU x1 (0 : Int32) (0 : Int32) I J (some r37) e38 (Option.some_ne_none _) _ _ hW _ (lv_sub hl [2, 3, 1, 0] rfl) ?_
    · intro u39 q40 H locs hW ls hl
      replace q40 := Option.some.inj q40
      subst q40
      refine lv_iload_n hx hb dX6_rival_108 rfl (lv_at hl 0 rfl) ?_
      obtain a1 := so1 h
      exact g_nmi a1 (hfin _ _ _ _ hW dX6_rival_109)
  · replace h := gi_t h c2
    refine lv_iconst (v := (-1 : Int32)) hx hb dX6_rival_8 (by decide) ?_
    obtain a1 := so1 h
    exact g_nmi a1 (hfin _ _ _ _ hW dX6_rival_9)
noncomputable def fX6_isDawnOf  (x0 : Int32) (x1 : Int32)  : Int32 :=
  gi ((fX5_kindOf x0) = (3 : Int32))
 (gi ((fX5_whomOf x0) = x1)
 ((1 : Int32))
 ((0 : Int32)))
 ((0 : Int32))
set_option maxHeartbeats 4000000 in
set_option maxRecDepth 100000 in
theorem kX6_isDawnOf {l : Launch} {G : gG} {ad : Nat → Nat} (hok : gInj LC ad)    (x0 : Int32) (x1 : Int32) (I : gI) (J : gJ) (r : Int32) (h : fX6_isDawnOf x0 x1 = r) : gMi l yX6_isDawnOf cX6_isDawnOf 2 (some .boolean) 2 G LC ad [.int x0, .int x1] I J r (r = 0 ∨ r = 1) I J := by
  refine gMz_of (lst := [(0, .int x0), (1, .int x1)]) (by decide) hok (Nat.le_of_ble_eq_true rfl) rfl ?_
  intro p e s m args below meth c Q ls K hW hl hfin
  have hx := K.1; have hb := K.2.1; have hown := K.2.2.2.1; have hts := K.2.2.2.2.1
  unfold fX6_isDawnOf at h
  refine lv_iload_n hx hb dX6_isDawnOf_0 rfl (lv_at hl 0 rfl) ?_
  refine g_callSi (rest := []) K hW hl (kX5_kindOf (l := l) (G := G) (ad := ad) hok x0 I J (fX5_kindOf x0) rfl) q_873 q_874 q_135 q_875 nm_X5_kindOf ⟨Nat.le_of_ble_eq_true rfl, Nat.le_of_ble_eq_true rfl⟩ rfl rfl (Nat.le_of_ble_eq_true rfl) ⟨Nat.zero_le _, Nat.zero_le _⟩ dX6_isDawnOf_1 (fun z1 H locs hW => ?_)
  refine lv_iconst (v := (3 : Int32)) hx hb dX6_isDawnOf_4 (by decide) ?_
  refine lv_icmp_ne (tgt := 20) hx hb dX6_isDawnOf_5 (by decide) (fun c2 => ?_) (fun c2 => ?_)
  · replace h := gi_f h c2
    refine lv_iconst (v := (0 : Int32)) hx hb dX6_isDawnOf_20 (by decide) ?_
    obtain a1 := h.symm
    exact g_nmi a1 (hfin _ _ _ _ (a1 ▸ (Or.inl rfl)) hW dX6_isDawnOf_21)
  · replace h := gi_t h c2
    refine lv_iload_n hx hb dX6_isDawnOf_8 rfl (lv_at hl 0 rfl) ?_
    refine g_callSi (rest := []) K hW hl (kX5_whomOf (l := l) (G := G) (ad := ad) hok x0 I J (fX5_whomOf x0) rfl) q_876 q_877 q_135 q_878 nm_X5_whomOf ⟨Nat.le_of_ble_eq_true rfl, Nat.le_of_ble_eq_true rfl⟩ rfl rfl (Nat.le_of_ble_eq_true rfl) ⟨Nat.zero_le _, Nat.zero_le _⟩ dX6_isDawnOf_9 (fun z3 H locs hW => ?_)
    refine lv_iload_n hx hb dX6_isDawnOf_12 rfl (lv_at hl 1 rfl) ?_
    refine lv_icmp_ne (tgt := 20) hx hb dX6_isDawnOf_13 (by decide) (fun c4 => ?_) (fun c4 => ?_)
    · replace h := gi_f h c4
      refine lv_iconst (v := (0 : Int32)) hx hb dX6_isDawnOf_20 (by decide) ?_
      obtain a1 := h.symm
      exact g_nmi a1 (hfin _ _ _ _ (a1 ▸ (Or.inl rfl)) hW dX6_isDawnOf_21)
    · replace h := gi_t h c4
      refine lv_iconst (v := (1 : Int32)) hx hb dX6_isDawnOf_16 (by decide) ?_
      refine lv_goto (tgt := 21) hx hb dX6_isDawnOf_17 (by decide) ?_
      obtain a1 := h.symm
      exact g_nmi a1 (hfin _ _ _ _ (a1 ▸ (Or.inr rfl)) hW dX6_isDawnOf_21)
theorem nm_X6_isDawnOf : gNm yX6_isDawnOf 2 := by decide +kernel
noncomputable def fX6_learnt_16b  (rec : Int32 → Int32 → Int32 → Int32 → gI → Option ((Int32))) (u3 : Int32) (u4 : Int32) (u5 : Int32) (u6 : Int32) (I : gI) : Option ((Int32)) :=
  gi ((I 11 3) ≤ u6)
 (some u5)
 (gi ((25 : Int32) ≤ u6)
 (some u5)
 (gd (vp_in u6 25) (lz (fun (u12 : Int32) => lz ((u6 + (1 : Int32))) (fun (u16 : Int32) => rec u3 u4 u12 u16 I)) (fun j13 => gi ((fX6_isDawnOf (I 14 (u6).toNatClampNeg) u3) = 0)
 (j13 u5)
 (lz ((u5 + (1 : Int32))) (fun (u19 : Int32) => j13 u19))))))
noncomputable def fX6_learnt_16  : Nat → Int32 → Int32 → Int32 → Int32 → gI → Option ((Int32))
  | 0 => fun _ _ _ _ _ => none
  | n + 1 => fX6_learnt_16b  (fX6_learnt_16  n)
set_option maxHeartbeats 4000000 in
set_option maxRecDepth 100000 in
theorem tX6_learnt_16 {l : Launch} {G : gG} {ad : Nat → Nat} {p : Program} {e : Env} {s : State} {m : MethodId} {args : Array Value} {below : List Frame} {meth : Method} {c : Code} {Q : State → Prop} (hok : gInj LC ad) (K : gCx G (gA LC ad) p s m args c cX6_learnt 5 RX6)  : ∀ (n : Nat) (u3 : Int32) (u4 : Int32) (u5 : Int32) (u6 : Int32) (I : gI) (J : gJ) (out : Option ((Int32))), fX6_learnt_16  n u3 u4 u5 u6 I = out → out ≠ none → ∀ (H : Heap) (locs : List Loc), gWd G LC ad (gA LC ad) s.heap I J H locs → ∀ (ls : Array Slot), lv_has ls 5 [(0, .ref (ad 0)), (1, .int u3), (2, .int u4), (3, .int u5), (4, .int u6)] → (∀ (y7 : Int32), some y7 = out → ∀ (H : Heap) (locs : List Loc), gWd G LC ad (gA LC ad) s.heap I J H locs → ∀ (ls : Array Slot), lv_has ls 5 [(0, .ref (ad 0)), (2, .int u4), (3, .int y7)] → W p l e (gRm 3) s m args below meth c H locs 0 0 Q (F0 m 67 ls [])) → W p l e (gRm 3) s m args below meth c H locs 0 0 Q (F0 m 16 ls []) := by
  have hx := K.1; have hb := K.2.1; have hown := K.2.2.2.1; have hts := K.2.2.2.2.1
  intro n
  induction n with
  | zero => intro u3 u4 u5 u6 I J out h hn; exact absurd h.symm hn
  | succ n ih =>
    intro u3 u4 u5 u6 I J out h hn H locs hW ls hl hx1
    replace h : fX6_learnt_16b  (fX6_learnt_16  n) u3 u4 u5 u6 I = out := h
    unfold fX6_learnt_16b at h
    refine lv_iload hx hb dX6_learnt_16 (lv_at hl 4 rfl) ?_
    refine lv_aload_n hx hb dX6_learnt_18 rfl (lv_at hl 0 rfl) ?_
    refine g_get K hW (t := 2) (ci := 5) (k := 0) (v := .ref (ad 1)) kLC_0 rfl rfl i_X6 (by decide) q_393 rfl (gfv2 rLC_0_0) dX6_learnt_19 ?_
    refine g_get K hW (t := 2) (ci := 0) (k := 9) (v := .ref (ad 11)) kLC_1 rfl rfl i_X0 (by decide) q_232 rfl (gfv2 rLC_1_9) dX6_learnt_22 ?_
    refine g_get K hW (t := 0) (ci := 4) (k := 3) (v := .int (I 11 3)) kLC_11 rfl rfl i_X5 (by decide) q_177 rfl rfl dX6_learnt_25 ?_
    refine lv_icmp_ge (tgt := 67) hx hb dX6_learnt_28 (by decide) (fun c8 => ?_) (fun c8 => ?_)
    · replace h := gi_t h c8
      exact hx1 u5 h _ _ hW _ (lv_sub hl [0, 2, 3] rfl)
    · replace h := gi_f h c8
      refine lv_iload hx hb dX6_learnt_31 (lv_at hl 4 rfl) ?_
      refine lv_bipush (v := (25 : Int32)) hx hb dX6_learnt_33 (by decide) ?_
      refine lv_icmp_ge (tgt := 67) hx hb dX6_learnt_35 (by decide) (fun c9 => ?_) (fun c9 => ?_)
      · replace h := gi_t h c9
        exact hx1 u5 h _ _ hW _ (lv_sub hl [0, 2, 3] rfl)
      · replace h := gi_f h c9
        refine lv_aload_n hx hb dX6_learnt_38 rfl (lv_at hl 0 rfl) ?_
        refine g_get K hW (t := 2) (ci := 5) (k := 0) (v := .ref (ad 1)) kLC_0 rfl rfl i_X6 (by decide) q_393 rfl (gfv2 rLC_0_0) dX6_learnt_39 ?_
        refine g_get K hW (t := 2) (ci := 0) (k := 9) (v := .ref (ad 11)) kLC_1 rfl rfl i_X0 (by decide) q_232 rfl (gfv2 rLC_1_9) dX6_learnt_42 ?_
        refine g_get K hW (t := 2) (ci := 4) (k := 2) (v := .ref (ad 14)) kLC_11 rfl rfl i_X5 (by decide) q_175 rfl (gfv2 rLC_11_2) dX6_learnt_45 ?_
        refine lv_iload hx hb dX6_learnt_48 (lv_at hl 4 rfl) ?_
        obtain ⟨g10, h⟩ := gd_o h hn
        refine g_iald K hW kLC_14 g10 rfl dX6_learnt_50 ?_
        refine lv_iload_n hx hb dX6_learnt_51 rfl (lv_at hl 1 rfl) ?_
        refine g_callSi (rest := []) K hW hl (kX6_isDawnOf (l := l) (G := G) (ad := ad) hok (I 14 (u6).toNatClampNeg) u3 I J (fX6_isDawnOf (I 14 (u6).toNatClampNeg) u3) rfl) q_1037 q_1038 q_133 q_1039 nm_X6_isDawnOf ⟨Nat.le_of_ble_eq_true rfl, Nat.le_of_ble_eq_true rfl⟩ rfl rfl (Nat.le_of_ble_eq_true rfl) ⟨Nat.zero_le _, Nat.zero_le _⟩ dX6_learnt_52 (fun z11 H locs hW => ?_)
        obtain ⟨j13, e14, h⟩ := lz_o h
        have hj15 : ∀ (u12 : Int32), j13 u12 = out → ∀ (H : Heap) (locs : List Loc), gWd G LC ad (gA LC ad) s.heap I J H locs → ∀ (ls : Array Slot), lv_has ls 5 [(0, .ref (ad 0)), (1, .int u3), (2, .int u4), (3, .int u12), (4, .int u6)] → W p l e (gRm 3) s m args below meth c H locs 0 0 Q (F0 m 61 ls []) := by
          intro u12 h H locs hW ls hl
          replace h := jn1 e14 h
          obtain ⟨u16, e17, h⟩ := lz_o h
          refine lv_iinc (v := u16) (lv' := [(4, .int u16), (0, .ref (ad 0)), (1, .int u3), (2, .int u4), (3, .int u12)]) hx hb dX6_learnt_61 hl (k := 4) rfl (by rw [e17]; rfl) (by decide) rfl (fun ls hl => ?_)
          refine lv_goto (tgt := 16) hx hb dX6_learnt_64 (by decide) ?_
          exact ih u3 u4 u12 u16 I J _ h hn _ _ hW _ (lv_sub hl [1, 2, 3, 4, 0] rfl) hx1
        refine lv_if_eq (tgt := 61) hx hb dX6_learnt_55 (by decide) (fun c18 => ?_) (fun c18 => ?_)
        · replace h := gi_t h c18
          exact hj15 u5 h _ _ hW _ (lv_sub hl [0, 1, 2, 3, 4] rfl)
        · replace h := gi_f h c18
          obtain ⟨u19, e20, h⟩ := lz_o h
          refine lv_iinc (v := u19) (lv' := [(3, .int u19), (0, .ref (ad 0)), (1, .int u3), (2, .int u4), (4, .int u6)]) hx hb dX6_learnt_58 hl (k := 3) rfl (by rw [e20]; rfl) (by decide) rfl (fun ls hl => ?_)
          exact hj15 u19 h _ _ hW _ (lv_sub hl [1, 2, 3, 0, 4] rfl)
noncomputable def fX6_learnt  (x1 : Int32) (x2 : Int32) (I : gI) : Option (Int64) :=
  gi ((fX6_isSort x1) = 0)
 (some (-1 : Int64))
 (bd (fX6_learnt_16 FU x1 x2 (0 : Int32) (0 : Int32) I) (fun (u23 : Int32) => bd (fX6_linesOf (3 : Int32) I) (fun (u25 : Int32) => bd (fX6_lowest ((u23 + (1 : Int32))).toInt64 ((u25 + (5 : Int32))).toInt64 x2) (fun (u28 : Int64) => some u28))))
set_option maxHeartbeats 4000000 in
set_option maxRecDepth 100000 in
theorem kX6_learnt {l : Launch} {G : gG} {ad : Nat → Nat} (hok : gInj LC ad)    (x1 : Int32) (x2 : Int32) (I : gI) (J : gJ) (r : Int64) (h : fX6_learnt x1 x2 I = some r) : gMl l yX6_learnt cX6_learnt 5 (some .long) 3 G LC ad [.ref (ad 0), .int x1, .int x2] I J r I J := by
  refine gMl_of (lst := [(0, .ref (ad 0)), (1, .int x1), (2, .int x2)]) (by decide) hok (Nat.le_of_ble_eq_true rfl) rfl ?_
  intro p e s m args below meth c Q ls K hW hl hfin
  have hn : (some r : Option (Int64)) ≠ none := Option.some_ne_none _
  have hx := K.1; have hb := K.2.1; have hown := K.2.2.2.1; have hts := K.2.2.2.2.1
  unfold fX6_learnt at h
  refine lv_iload_n hx hb dX6_learnt_0 rfl (lv_at hl 1 rfl) ?_
  refine g_callSi (rest := []) K hW hl (kX6_isSort (l := l) (G := G) (ad := ad) hok x1 I J (fX6_isSort x1) rfl) q_437 q_438 q_133 q_439 nm_X6_isSort ⟨Nat.le_of_ble_eq_true rfl, Nat.le_of_ble_eq_true rfl⟩ rfl rfl (Nat.le_of_ble_eq_true rfl) ⟨Nat.zero_le _, Nat.zero_le _⟩ dX6_learnt_1 (fun z1 H locs hW => ?_)
  refine lv_if_ne (tgt := 11) hx hb dX6_learnt_4 (by decide) (fun c2 => ?_) (fun c2 => ?_)
  · replace h := gi_f h c2
    refine lv_iconst (v := (0 : Int32)) hx hb dX6_learnt_11 (by decide) ?_
    refine lv_istore_n (lv' := [(3, .int (0 : Int32)), (0, .ref (ad 0)), (1, .int x1), (2, .int x2)]) hx hb dX6_learnt_12 rfl hl (by decide) rfl (fun ls hl => ?_)
    refine lv_iconst (v := (0 : Int32)) hx hb dX6_learnt_13 (by decide) ?_
    refine lv_istore (lv' := [(4, .int (0 : Int32)), (3, .int (0 : Int32)), (0, .ref (ad 0)), (1, .int x1), (2, .int x2)]) hx hb dX6_learnt_14 hl (by decide) rfl (fun ls hl => ?_)
    obtain ⟨r21, e22, h⟩ := bd_o h hn
    refine tX6_learnt_16 hok K FU x1 x2 (0 : Int32) (0 : Int32) I J (some r21) e22 (Option.some_ne_none _) _ _ hW _ (lv_sub hl [2, 3, 4, 1, 0] rfl) ?_
    · intro u23 q24 H locs hW ls hl
      replace q24 := Option.some.inj q24
      subst q24
      refine lv_iload_n hx hb dX6_learnt_67 rfl (lv_at hl 2 rfl) ?_
      refine lv_iconst (v := (1 : Int32)) hx hb dX6_learnt_68 (by decide) ?_
      refine lv_iadd hx hb dX6_learnt_69 ?_
      refine lv_i2l hx hb dX6_learnt_70 rfl ?_
      refine lv_aload_n hx hb dX6_learnt_71 rfl (lv_at hl 0 rfl) ?_
      refine lv_iconst (v := (3 : Int32)) hx hb dX6_learnt_72 (by decide) ?_
      obtain ⟨u25, e26, h⟩ := bd_o h hn
      refine g_callVi (rest := [.long ((u23 + (1 : Int32))).toInt64]) K hW hl (kX6_linesOf (l := l) (G := G) (ad := ad) hok (3 : Int32) I J u25 e26) kLC_0 rfl (gG_V q_886 q_888 q_41 q_133 q_889) nm_X6_linesOf ⟨Nat.le_of_ble_eq_true rfl, Nat.le_of_ble_eq_true rfl⟩ rfl rfl (Nat.le_of_ble_eq_true rfl) ⟨Nat.zero_le _, Nat.zero_le _⟩ dX6_learnt_73 (fun z27 H locs hW => ?_)
      refine lv_iconst (v := (5 : Int32)) hx hb dX6_learnt_76 (by decide) ?_
      refine lv_iadd hx hb dX6_learnt_77 ?_
      refine lv_i2l hx hb dX6_learnt_78 rfl ?_
      refine lv_iload_n hx hb dX6_learnt_79 rfl (lv_at hl 1 rfl) ?_
      obtain ⟨u28, e29, h⟩ := bd_o h hn
      refine g_callSl (rest := []) K hW hl (kX6_lowest (l := l) (G := G) (ad := ad) hok ((u23 + (1 : Int32))).toInt64 ((u25 + (5 : Int32))).toInt64 x2 I J u28 e29) q_932 q_933 q_133 q_934 nm_X6_lowest ⟨Nat.le_of_ble_eq_true rfl, Nat.le_of_ble_eq_true rfl⟩ rfl rfl (Nat.le_of_ble_eq_true rfl) ⟨Nat.zero_le _, Nat.zero_le _⟩ dX6_learnt_80 (fun H locs hW => ?_)
      obtain a1 := so1 h
      exact g_nml a1 (hfin _ _ _ _ hW dX6_learnt_83)
  · replace h := gi_t h c2
    refine lv_ldc2 (v := (-1 : Int64)) hx hb hown (hts _ q_922) dX6_learnt_7 ?_
    obtain a1 := so1 h
    exact g_nml a1 (hfin _ _ _ _ hW dX6_learnt_10)
noncomputable def fX6_since_22b  (rec : Int32 → Int32 → gI → Option ((Int32) ⊕ (Unit))) (u5 : Int32) (u6 : Int32) (I : gI) : Option ((Int32) ⊕ (Unit)) :=
  gi (u6 < 0)
 (some (Sum.inr ()))
 (gd (vp_in u6 25) (lz ((I 14 (u6).toNatClampNeg)) (fun (u10 : Int32) => gi ((fX6_isDawnOf u10 u5) = 0)
 (lz ((u6 + (-1 : Int32))) (fun (u14 : Int32) => rec u5 u14 I))
 (some (Sum.inl u10)))))
noncomputable def fX6_since_22  : Nat → Int32 → Int32 → gI → Option ((Int32) ⊕ (Unit))
  | 0 => fun _ _ _ => none
  | n + 1 => fX6_since_22b  (fX6_since_22  n)
set_option maxHeartbeats 4000000 in
set_option maxRecDepth 100000 in
theorem tX6_since_22 {l : Launch} {G : gG} {ad : Nat → Nat} {p : Program} {e : Env} {s : State} {m : MethodId} {args : Array Value} {below : List Frame} {meth : Method} {c : Code} {Q : State → Prop} (hok : gInj LC ad) (K : gCx G (gA LC ad) p s m args c cX6_since 4 RX6)  : ∀ (n : Nat) (u5 : Int32) (u6 : Int32) (I : gI) (J : gJ) (out : Option ((Int32) ⊕ (Unit))), fX6_since_22  n u5 u6 I = out → out ≠ none → ∀ (H : Heap) (locs : List Loc), gWd G LC ad (gA LC ad) s.heap I J H locs → ∀ (ls : Array Slot), lv_has ls 4 [(0, .ref (ad 0)), (1, .int u5), (2, .int u6)] → (∀ (y7 : Int32), some (Sum.inl y7) = out → ∀ (H : Heap) (locs : List Loc), gWd G LC ad (gA LC ad) s.heap I J H locs → ∀ (ls : Array Slot), lv_has ls 4 [(0, .ref (ad 0)), (3, .int y7)] → W p l e (gRm 3) s m args below meth c H locs 0 0 Q (F0 m 47 ls [])) → (some (Sum.inr ()) = out → ∀ (H : Heap) (locs : List Loc), gWd G LC ad (gA LC ad) s.heap I J H locs → ∀ (ls : Array Slot), lv_has ls 4 [] → W p l e (gRm 3) s m args below meth c H locs 0 0 Q (F0 m 69 ls [])) → W p l e (gRm 3) s m args below meth c H locs 0 0 Q (F0 m 22 ls []) := by
  have hx := K.1; have hb := K.2.1; have hown := K.2.2.2.1; have hts := K.2.2.2.2.1
  intro n
  induction n with
  | zero => intro u5 u6 I J out h hn; exact absurd h.symm hn
  | succ n ih =>
    intro u5 u6 I J out h hn H locs hW ls hl hx1 hx2
    replace h : fX6_since_22b  (fX6_since_22  n) u5 u6 I = out := h
    unfold fX6_since_22b at h
    refine lv_iload_n hx hb dX6_since_22 rfl (lv_at hl 2 rfl) ?_
    refine lv_if_lt (tgt := 69) hx hb dX6_since_23 (by decide) (fun c8 => ?_) (fun c8 => ?_)
    · replace h := gi_t h c8
      exact hx2 h _ _ hW _ (lv_sub hl [] rfl)
    · replace h := gi_f h c8
      refine lv_aload_n hx hb dX6_since_26 rfl (lv_at hl 0 rfl) ?_
      refine g_get K hW (t := 2) (ci := 5) (k := 0) (v := .ref (ad 1)) kLC_0 rfl rfl i_X6 (by decide) q_393 rfl (gfv2 rLC_0_0) dX6_since_27 ?_
      refine g_get K hW (t := 2) (ci := 0) (k := 9) (v := .ref (ad 11)) kLC_1 rfl rfl i_X0 (by decide) q_232 rfl (gfv2 rLC_1_9) dX6_since_30 ?_
      refine g_get K hW (t := 2) (ci := 4) (k := 2) (v := .ref (ad 14)) kLC_11 rfl rfl i_X5 (by decide) q_175 rfl (gfv2 rLC_11_2) dX6_since_33 ?_
      refine lv_iload_n hx hb dX6_since_36 rfl (lv_at hl 2 rfl) ?_
      obtain ⟨g9, h⟩ := gd_o h hn
      refine g_iald K hW kLC_14 g9 rfl dX6_since_37 ?_
      obtain ⟨u10, e11, h⟩ := lz_o h
      refine g_nmi e11 ?_
      refine lv_istore_n (lv' := [(3, .int u10), (0, .ref (ad 0)), (1, .int u5), (2, .int u6)]) hx hb dX6_since_38 rfl hl (by decide) rfl (fun ls hl => ?_)
      refine lv_iload_n hx hb dX6_since_39 rfl (lv_at hl 0 rfl) ?_
      refine lv_iload_n hx hb dX6_since_40 rfl (lv_at hl 2 rfl) ?_
      refine g_callSi (rest := []) K hW hl (kX6_isDawnOf (l := l) (G := G) (ad := ad) hok u10 u5 I J (fX6_isDawnOf u10 u5) rfl) q_1037 q_1038 q_133 q_1039 nm_X6_isDawnOf ⟨Nat.le_of_ble_eq_true rfl, Nat.le_of_ble_eq_true rfl⟩ rfl rfl (Nat.le_of_ble_eq_true rfl) ⟨Nat.zero_le _, Nat.zero_le _⟩ dX6_since_41 (fun z12 H locs hW => ?_)
      refine lv_if_eq (tgt := 63) hx hb dX6_since_44 (by decide) (fun c13 => ?_) (fun c13 => ?_)
      · replace h := gi_t h c13
        obtain ⟨u14, e15, h⟩ := lz_o h
        refine lv_iinc (v := u14) (lv' := [(2, .int u14), (3, .int u10), (0, .ref (ad 0)), (1, .int u5)]) hx hb dX6_since_63 hl (k := 3) rfl (by rw [e15]; rfl) (by decide) rfl (fun ls hl => ?_)
        refine lv_goto (tgt := 22) hx hb dX6_since_66 (by decide) ?_
        exact ih u5 u14 I J _ h hn _ _ hW _ (lv_sub hl [2, 3, 0] rfl) hx1 hx2
      · replace h := gi_f h c13
        exact hx1 u10 h _ _ hW _ (lv_sub hl [1, 0] rfl)
noncomputable def fX6_since  (x1 : Int32) (I : gI) : Option (Int32) :=
  gi ((fX6_isSort x1) = 0)
 (some (-1 : Int32))
 (lz (((I 11 3) - (1 : Int32))) (fun (u3 : Int32) => bd (fX6_since_22 FU x1 u3 I) (sm (fun (u18 : Int32) => some ((I 11 7) - (fX5_dayOf u18))) (fun _ => some (-1 : Int32)))))
set_option maxHeartbeats 4000000 in
set_option maxRecDepth 100000 in
theorem kX6_since {l : Launch} {G : gG} {ad : Nat → Nat} (hok : gInj LC ad)    (x1 : Int32) (I : gI) (J : gJ) (r : Int32) (h : fX6_since x1 I = some r) : gMi l yX6_since cX6_since 4 (some .int) 3 G LC ad [.ref (ad 0), .int x1] I J r True I J := by
  refine gMi_of (lst := [(0, .ref (ad 0)), (1, .int x1)]) (by decide) hok (Nat.le_of_ble_eq_true rfl) rfl ?_
  intro p e s m args below meth c Q ls K hW hl hfin
  have hn : (some r : Option (Int32)) ≠ none := Option.some_ne_none _
  have hx := K.1; have hb := K.2.1; have hown := K.2.2.2.1; have hts := K.2.2.2.2.1
  unfold fX6_since at h
  refine lv_iload_n hx hb dX6_since_0 rfl (lv_at hl 1 rfl) ?_
  refine g_callSi (rest := []) K hW hl (kX6_isSort (l := l) (G := G) (ad := ad) hok x1 I J (fX6_isSort x1) rfl) q_437 q_438 q_133 q_439 nm_X6_isSort ⟨Nat.le_of_ble_eq_true rfl, Nat.le_of_ble_eq_true rfl⟩ rfl rfl (Nat.le_of_ble_eq_true rfl) ⟨Nat.zero_le _, Nat.zero_le _⟩ dX6_since_1 (fun z1 H locs hW => ?_)
  refine lv_if_ne (tgt := 9) hx hb dX6_since_4 (by decide) (fun c2 => ?_) (fun c2 => ?_)
  · replace h := gi_f h c2
    refine lv_aload_n hx hb dX6_since_9 rfl (lv_at hl 0 rfl) ?_
    refine g_get K hW (t := 2) (ci := 5) (k := 0) (v := .ref (ad 1)) kLC_0 rfl rfl i_X6 (by decide) q_393 rfl (gfv2 rLC_0_0) dX6_since_10 ?_
    refine g_get K hW (t := 2) (ci := 0) (k := 9) (v := .ref (ad 11)) kLC_1 rfl rfl i_X0 (by decide) q_232 rfl (gfv2 rLC_1_9) dX6_since_13 ?_
    refine g_get K hW (t := 0) (ci := 4) (k := 3) (v := .int (I 11 3)) kLC_11 rfl rfl i_X5 (by decide) q_177 rfl rfl dX6_since_16 ?_
    refine lv_iconst (v := (1 : Int32)) hx hb dX6_since_19 (by decide) ?_
    refine lv_isub hx hb dX6_since_20 ?_
    obtain ⟨u3, e4, h⟩ := lz_o h
    refine g_nmi e4 ?_
    refine lv_istore_n (lv' := [(2, .int u3), (0, .ref (ad 0)), (1, .int x1)]) hx hb dX6_since_21 rfl hl (by decide) rfl (fun ls hl => ?_)
    obtain ⟨r16, e17, h⟩ := bd_o h hn
    refine tX6_since_22 hok K FU x1 u3 I J (some r16) e17 (Option.some_ne_none _) _ _ hW _ (lv_sub hl [1, 2, 0] rfl) ?_ ?_
    · intro u18 q19 H locs hW ls hl
      replace q19 := Option.some.inj q19
      subst q19
      replace h := sm_l h
      refine lv_aload_n hx hb dX6_since_47 rfl (lv_at hl 0 rfl) ?_
      refine g_get K hW (t := 2) (ci := 5) (k := 0) (v := .ref (ad 1)) kLC_0 rfl rfl i_X6 (by decide) q_393 rfl (gfv2 rLC_0_0) dX6_since_48 ?_
      refine g_get K hW (t := 2) (ci := 0) (k := 9) (v := .ref (ad 11)) kLC_1 rfl rfl i_X0 (by decide) q_232 rfl (gfv2 rLC_1_9) dX6_since_51 ?_
      refine g_get K hW (t := 0) (ci := 4) (k := 7) (v := .int (I 11 7)) kLC_11 rfl rfl i_X5 (by decide) q_187 rfl rfl dX6_since_54 ?_
      refine lv_iload_n hx hb dX6_since_57 rfl (lv_at hl 1 rfl) ?_
      refine g_callSi (rest := [.int (I 11 7)]) K hW hl (kX5_dayOf (l := l) (G := G) (ad := ad) hok u18 I J (fX5_dayOf u18) rfl) q_870 q_871 q_135 q_872 nm_X5_dayOf ⟨Nat.le_of_ble_eq_true rfl, Nat.le_of_ble_eq_true rfl⟩ rfl rfl (Nat.le_of_ble_eq_true rfl) ⟨Nat.zero_le _, Nat.zero_le _⟩ dX6_since_58 (fun z20 H locs hW => ?_)
      refine lv_isub hx hb dX6_since_61 ?_
      obtain a1 := so1 h
      exact g_nmi a1 (hfin _ _ _ _ hW dX6_since_62)
    · intro q21 H locs hW ls hl
      replace q21 := Option.some.inj q21
      subst q21
      replace h := sm_r h
      refine lv_iconst (v := (-1 : Int32)) hx hb dX6_since_69 (by decide) ?_
      obtain a1 := so1 h
      exact g_nmi a1 (hfin _ _ _ _ hW dX6_since_70)
  · replace h := gi_t h c2
    refine lv_iconst (v := (-1 : Int32)) hx hb dX6_since_7 (by decide) ?_
    obtain a1 := so1 h
    exact g_nmi a1 (hfin _ _ _ _ hW dX6_since_8)
noncomputable def fX6_wanted_13b  (rec : Int32 → Int32 → Int32 → gI → Option ((Int32))) (u3 : Int32) (u4 : Int32) (u5 : Int32) (I : gI) : Option ((Int32)) :=
  gi ((I 1 12) ≤ u5)
 (some u4)
 (gd (vp_in u5 6) (lz ((u4 + ((jshr (I 4 (u5).toNatClampNeg) u3) &&& (1 : Int32)))) (fun (u9 : Int32) => lz ((u5 + (1 : Int32))) (fun (u11 : Int32) => rec u3 u9 u11 I))))
noncomputable def fX6_wanted_13  : Nat → Int32 → Int32 → Int32 → gI → Option ((Int32))
  | 0 => fun _ _ _ _ => none
  | n + 1 => fX6_wanted_13b  (fX6_wanted_13  n)
set_option maxHeartbeats 4000000 in
set_option maxRecDepth 100000 in
theorem tX6_wanted_13 {l : Launch} {G : gG} {ad : Nat → Nat} {p : Program} {e : Env} {s : State} {m : MethodId} {args : Array Value} {below : List Frame} {meth : Method} {c : Code} {Q : State → Prop} (hok : gInj LC ad) (K : gCx G (gA LC ad) p s m args c cX6_wanted 4 RX6)  : ∀ (n : Nat) (u3 : Int32) (u4 : Int32) (u5 : Int32) (I : gI) (J : gJ) (out : Option ((Int32))), fX6_wanted_13  n u3 u4 u5 I = out → out ≠ none → ∀ (H : Heap) (locs : List Loc), gWd G LC ad (gA LC ad) s.heap I J H locs → ∀ (ls : Array Slot), lv_has ls 4 [(0, .ref (ad 0)), (1, .int u3), (2, .int u4), (3, .int u5)] → (∀ (y6 : Int32), some y6 = out → ∀ (H : Heap) (locs : List Loc), gWd G LC ad (gA LC ad) s.heap I J H locs → ∀ (ls : Array Slot), lv_has ls 4 [(2, .int y6)] → W p l e (gRm 2) s m args below meth c H locs 0 0 Q (F0 m 46 ls [])) → W p l e (gRm 2) s m args below meth c H locs 0 0 Q (F0 m 13 ls []) := by
  have hx := K.1; have hb := K.2.1; have hown := K.2.2.2.1; have hts := K.2.2.2.2.1
  intro n
  induction n with
  | zero => intro u3 u4 u5 I J out h hn; exact absurd h.symm hn
  | succ n ih =>
    intro u3 u4 u5 I J out h hn H locs hW ls hl hx1
    replace h : fX6_wanted_13b  (fX6_wanted_13  n) u3 u4 u5 I = out := h
    unfold fX6_wanted_13b at h
    refine lv_iload_n hx hb dX6_wanted_13 rfl (lv_at hl 3 rfl) ?_
    refine lv_aload_n hx hb dX6_wanted_14 rfl (lv_at hl 0 rfl) ?_
    refine g_get K hW (t := 2) (ci := 5) (k := 0) (v := .ref (ad 1)) kLC_0 rfl rfl i_X6 (by decide) q_393 rfl (gfv2 rLC_0_0) dX6_wanted_15 ?_
    refine g_get K hW (t := 0) (ci := 0) (k := 12) (v := .int (I 1 12)) kLC_1 rfl rfl i_X0 (by decide) q_238 rfl rfl dX6_wanted_18 ?_
    refine lv_icmp_ge (tgt := 46) hx hb dX6_wanted_21 (by decide) (fun c7 => ?_) (fun c7 => ?_)
    · replace h := gi_t h c7
      exact hx1 u4 h _ _ hW _ (lv_sub hl [2] rfl)
    · replace h := gi_f h c7
      refine lv_iload_n hx hb dX6_wanted_24 rfl (lv_at hl 2 rfl) ?_
      refine lv_aload_n hx hb dX6_wanted_25 rfl (lv_at hl 0 rfl) ?_
      refine g_get K hW (t := 2) (ci := 5) (k := 0) (v := .ref (ad 1)) kLC_0 rfl rfl i_X6 (by decide) q_393 rfl (gfv2 rLC_0_0) dX6_wanted_26 ?_
      refine g_get K hW (t := 2) (ci := 0) (k := 2) (v := .ref (ad 4)) kLC_1 rfl rfl i_X0 (by decide) q_217 rfl (gfv2 rLC_1_2) dX6_wanted_29 ?_
      refine lv_iload_n hx hb dX6_wanted_32 rfl (lv_at hl 3 rfl) ?_
      obtain ⟨g8, h⟩ := gd_o h hn
      refine g_iald K hW kLC_4 g8 rfl dX6_wanted_33 ?_
      refine lv_iload_n hx hb dX6_wanted_34 rfl (lv_at hl 1 rfl) ?_
      refine g_ishr hx hb dX6_wanted_35 ?_
      refine lv_iconst (v := (1 : Int32)) hx hb dX6_wanted_36 (by decide) ?_
      refine lv_iand hx hb dX6_wanted_37 ?_
      refine lv_iadd hx hb dX6_wanted_38 ?_
      obtain ⟨u9, e10, h⟩ := lz_o h
      refine g_nmi e10 ?_
      refine lv_istore_n (lv' := [(2, .int u9), (0, .ref (ad 0)), (1, .int u3), (3, .int u5)]) hx hb dX6_wanted_39 rfl hl (by decide) rfl (fun ls hl => ?_)
      obtain ⟨u11, e12, h⟩ := lz_o h
      refine lv_iinc (v := u11) (lv' := [(3, .int u11), (2, .int u9), (0, .ref (ad 0)), (1, .int u3)]) hx hb dX6_wanted_40 hl (k := 3) rfl (by rw [e12]; rfl) (by decide) rfl (fun ls hl => ?_)
      refine lv_goto (tgt := 13) hx hb dX6_wanted_43 (by decide) ?_
      exact ih u3 u9 u11 I J _ h hn _ _ hW _ (lv_sub hl [2, 3, 1, 0] rfl) hx1
noncomputable def fX6_wanted  (x1 : Int32) (I : gI) : Option (Int32) :=
  gi ((fX6_isSort x1) = 0)
 (some (-1 : Int32))
 (bd (fX6_wanted_13 FU x1 (0 : Int32) (0 : Int32) I) (fun (u15 : Int32) => some u15))
set_option maxHeartbeats 4000000 in
set_option maxRecDepth 100000 in
theorem kX6_wanted {l : Launch} {G : gG} {ad : Nat → Nat} (hok : gInj LC ad)    (x1 : Int32) (I : gI) (J : gJ) (r : Int32) (h : fX6_wanted x1 I = some r) : gMi l yX6_wanted cX6_wanted 4 (some .int) 2 G LC ad [.ref (ad 0), .int x1] I J r True I J := by
  refine gMi_of (lst := [(0, .ref (ad 0)), (1, .int x1)]) (by decide) hok (Nat.le_of_ble_eq_true rfl) rfl ?_
  intro p e s m args below meth c Q ls K hW hl hfin
  have hn : (some r : Option (Int32)) ≠ none := Option.some_ne_none _
  have hx := K.1; have hb := K.2.1; have hown := K.2.2.2.1; have hts := K.2.2.2.2.1
  unfold fX6_wanted at h
  refine lv_iload_n hx hb dX6_wanted_0 rfl (lv_at hl 1 rfl) ?_
  refine g_callSi (rest := []) K hW hl (kX6_isSort (l := l) (G := G) (ad := ad) hok x1 I J (fX6_isSort x1) rfl) q_437 q_438 q_133 q_439 nm_X6_isSort ⟨Nat.le_of_ble_eq_true rfl, Nat.le_of_ble_eq_true rfl⟩ rfl rfl (Nat.le_of_ble_eq_true rfl) ⟨Nat.zero_le _, Nat.zero_le _⟩ dX6_wanted_1 (fun z1 H locs hW => ?_)
  refine lv_if_ne (tgt := 9) hx hb dX6_wanted_4 (by decide) (fun c2 => ?_) (fun c2 => ?_)
  · replace h := gi_f h c2
    refine lv_iconst (v := (0 : Int32)) hx hb dX6_wanted_9 (by decide) ?_
    refine lv_istore_n (lv' := [(2, .int (0 : Int32)), (0, .ref (ad 0)), (1, .int x1)]) hx hb dX6_wanted_10 rfl hl (by decide) rfl (fun ls hl => ?_)
    refine lv_iconst (v := (0 : Int32)) hx hb dX6_wanted_11 (by decide) ?_
    refine lv_istore_n (lv' := [(3, .int (0 : Int32)), (2, .int (0 : Int32)), (0, .ref (ad 0)), (1, .int x1)]) hx hb dX6_wanted_12 rfl hl (by decide) rfl (fun ls hl => ?_)
    obtain ⟨r13, e14, h⟩ := bd_o h hn
    refine tX6_wanted_13 hok K FU x1 (0 : Int32) (0 : Int32) I J (some r13) e14 (Option.some_ne_none _) _ _ hW _ (lv_sub hl [2, 3, 1, 0] rfl) ?_
    · intro u15 q16 H locs hW ls hl
      replace q16 := Option.some.inj q16
      subst q16
      refine lv_iload_n hx hb dX6_wanted_46 rfl (lv_at hl 0 rfl) ?_
      obtain a1 := so1 h
      exact g_nmi a1 (hfin _ _ _ _ hW dX6_wanted_47)
  · replace h := gi_t h c2
    refine lv_iconst (v := (-1 : Int32)) hx hb dX6_wanted_7 (by decide) ?_
    obtain a1 := so1 h
    exact g_nmi a1 (hfin _ _ _ _ hW dX6_wanted_8)
noncomputable def fX6_alone_21b  (rec : Int32 → Int32 → Int32 → gI → Option ((Int32))) (u6 : Int32) (u7 : Int32) (u8 : Int32) (I : gI) : Option ((Int32)) :=
  gi ((I 1 12) ≤ u8)
 (some u7)
 (lz (fun (u11 : Int32) => lz ((u8 + (1 : Int32))) (fun (u15 : Int32) => rec u6 u11 u15 I)) (fun j12 => gi (u8 = u6)
 (j12 u7)
 (bd (fX0_slicesOf u8 I) (fun (u18 : Int32) => lz ((u7 &&& (u18 ^^^ (-1 : Int32)))) (fun (u21 : Int32) => j12 u21)))))
noncomputable def fX6_alone_21  : Nat → Int32 → Int32 → Int32 → gI → Option ((Int32))
  | 0 => fun _ _ _ _ => none
  | n + 1 => fX6_alone_21b  (fX6_alone_21  n)
set_option maxHeartbeats 4000000 in
set_option maxRecDepth 100000 in
theorem tX6_alone_21 {l : Launch} {G : gG} {ad : Nat → Nat} {p : Program} {e : Env} {s : State} {m : MethodId} {args : Array Value} {below : List Frame} {meth : Method} {c : Code} {Q : State → Prop} (hok : gInj LC ad) (K : gCx G (gA LC ad) p s m args c cX6_alone 4 RX6)  : ∀ (n : Nat) (u6 : Int32) (u7 : Int32) (u8 : Int32) (I : gI) (J : gJ) (out : Option ((Int32))), fX6_alone_21  n u6 u7 u8 I = out → out ≠ none → ∀ (H : Heap) (locs : List Loc), gWd G LC ad (gA LC ad) s.heap I J H locs → ∀ (ls : Array Slot), lv_has ls 4 [(0, .ref (ad 0)), (1, .int u6), (2, .int u7), (3, .int u8)] → (∀ (y9 : Int32), some y9 = out → ∀ (H : Heap) (locs : List Loc), gWd G LC ad (gA LC ad) s.heap I J H locs → ∀ (ls : Array Slot), lv_has ls 4 [(2, .int y9)] → W p l e (gRm 2) s m args below meth c H locs 0 0 Q (F0 m 56 ls [])) → W p l e (gRm 2) s m args below meth c H locs 0 0 Q (F0 m 21 ls []) := by
  have hx := K.1; have hb := K.2.1; have hown := K.2.2.2.1; have hts := K.2.2.2.2.1
  intro n
  induction n with
  | zero => intro u6 u7 u8 I J out h hn; exact absurd h.symm hn
  | succ n ih =>
    intro u6 u7 u8 I J out h hn H locs hW ls hl hx1
    replace h : fX6_alone_21b  (fX6_alone_21  n) u6 u7 u8 I = out := h
    unfold fX6_alone_21b at h
    refine lv_iload_n hx hb dX6_alone_21 rfl (lv_at hl 3 rfl) ?_
    refine lv_aload_n hx hb dX6_alone_22 rfl (lv_at hl 0 rfl) ?_
    refine g_get K hW (t := 2) (ci := 5) (k := 0) (v := .ref (ad 1)) kLC_0 rfl rfl i_X6 (by decide) q_393 rfl (gfv2 rLC_0_0) dX6_alone_23 ?_
    refine g_get K hW (t := 0) (ci := 0) (k := 12) (v := .int (I 1 12)) kLC_1 rfl rfl i_X0 (by decide) q_238 rfl rfl dX6_alone_26 ?_
    refine lv_icmp_ge (tgt := 56) hx hb dX6_alone_29 (by decide) (fun c10 => ?_) (fun c10 => ?_)
    · replace h := gi_t h c10
      exact hx1 u7 h _ _ hW _ (lv_sub hl [2] rfl)
    · replace h := gi_f h c10
      refine lv_iload_n hx hb dX6_alone_32 rfl (lv_at hl 3 rfl) ?_
      refine lv_iload_n hx hb dX6_alone_33 rfl (lv_at hl 1 rfl) ?_
      obtain ⟨j12, e13, h⟩ := lz_o h
      have hj14 : ∀ (u11 : Int32), j12 u11 = out → ∀ (H : Heap) (locs : List Loc), gWd G LC ad (gA LC ad) s.heap I J H locs → ∀ (ls : Array Slot), lv_has ls 4 [(0, .ref (ad 0)), (1, .int u6), (2, .int u11), (3, .int u8)] → W p l e (gRm 2) s m args below meth c H locs 0 0 Q (F0 m 50 ls []) := by
        intro u11 h H locs hW ls hl
        replace h := jn1 e13 h
        obtain ⟨u15, e16, h⟩ := lz_o h
        refine lv_iinc (v := u15) (lv' := [(3, .int u15), (0, .ref (ad 0)), (1, .int u6), (2, .int u11)]) hx hb dX6_alone_50 hl (k := 3) rfl (by rw [e16]; rfl) (by decide) rfl (fun ls hl => ?_)
        refine lv_goto (tgt := 21) hx hb dX6_alone_53 (by decide) ?_
        exact ih u6 u11 u15 I J _ h hn _ _ hW _ (lv_sub hl [1, 2, 3, 0] rfl) hx1
      refine lv_icmp_eq (tgt := 50) hx hb dX6_alone_34 (by decide) (fun c17 => ?_) (fun c17 => ?_)
      · replace h := gi_t h c17
        exact hj14 u7 h _ _ hW _ (lv_sub hl [0, 1, 2, 3] rfl)
      · replace h := gi_f h c17
        refine lv_iload_n hx hb dX6_alone_37 rfl (lv_at hl 2 rfl) ?_
        refine lv_aload_n hx hb dX6_alone_38 rfl (lv_at hl 0 rfl) ?_
        refine g_get K hW (t := 2) (ci := 5) (k := 0) (v := .ref (ad 1)) kLC_0 rfl rfl i_X6 (by decide) q_393 rfl (gfv2 rLC_0_0) dX6_alone_39 ?_
        refine lv_iload_n hx hb dX6_alone_42 rfl (lv_at hl 3 rfl) ?_
        obtain ⟨u18, e19, h⟩ := bd_o h hn
        refine g_callVi (rest := [.int u7]) K hW hl (kX0_slicesOf (l := l) (G := G) (ad := ad) hok u8 I J u18 e19) kLC_1 rfl (gG_V q_684 q_685 q_686 q_134 q_687) nm_X0_slicesOf ⟨Nat.le_of_ble_eq_true rfl, Nat.le_of_ble_eq_true rfl⟩ rfl rfl (Nat.le_of_ble_eq_true rfl) ⟨Nat.zero_le _, Nat.zero_le _⟩ dX6_alone_43 (fun z20 H locs hW => ?_)
        refine lv_iconst (v := (-1 : Int32)) hx hb dX6_alone_46 (by decide) ?_
        refine lv_ixor hx hb dX6_alone_47 ?_
        refine lv_iand hx hb dX6_alone_48 ?_
        obtain ⟨u21, e22, h⟩ := lz_o h
        refine g_nmi e22 ?_
        refine lv_istore_n (lv' := [(2, .int u21), (0, .ref (ad 0)), (1, .int u6), (3, .int u8)]) hx hb dX6_alone_49 rfl hl (by decide) rfl (fun ls hl => ?_)
        exact hj14 u21 h _ _ hW _ (lv_sub hl [1, 2, 0, 3] rfl)
noncomputable def fX6_alone  (x1 : Int32) (I : gI) : Option (Int32) :=
  gi ((fX6_isBuyer x1 I) = 0)
 (some (-1 : Int32))
 (bd (fX0_slicesOf x1 I) (fun (u3 : Int32) => bd (fX6_alone_21 FU x1 u3 (0 : Int32) I) (fun (u25 : Int32) => some u25)))
set_option maxHeartbeats 4000000 in
set_option maxRecDepth 100000 in
theorem kX6_alone {l : Launch} {G : gG} {ad : Nat → Nat} (hok : gInj LC ad)    (x1 : Int32) (I : gI) (J : gJ) (r : Int32) (h : fX6_alone x1 I = some r) : gMi l yX6_alone cX6_alone 4 (some .int) 2 G LC ad [.ref (ad 0), .int x1] I J r True I J := by
  refine gMi_of (lst := [(0, .ref (ad 0)), (1, .int x1)]) (by decide) hok (Nat.le_of_ble_eq_true rfl) rfl ?_
  intro p e s m args below meth c Q ls K hW hl hfin
  have hn : (some r : Option (Int32)) ≠ none := Option.some_ne_none _
  have hx := K.1; have hb := K.2.1; have hown := K.2.2.2.1; have hts := K.2.2.2.2.1
  unfold fX6_alone at h
  refine lv_aload_n hx hb dX6_alone_0 rfl (lv_at hl 0 rfl) ?_
  refine lv_iload_n hx hb dX6_alone_1 rfl (lv_at hl 1 rfl) ?_
  refine g_callVi (rest := []) K hW hl (kX6_isBuyer (l := l) (G := G) (ad := ad) hok x1 I J (fX6_isBuyer x1 I) rfl) kLC_0 rfl (gG_V q_461 q_463 q_0 q_133 q_464) nm_X6_isBuyer ⟨Nat.le_of_ble_eq_true rfl, Nat.le_of_ble_eq_true rfl⟩ rfl rfl (Nat.le_of_ble_eq_true rfl) ⟨Nat.zero_le _, Nat.zero_le _⟩ dX6_alone_2 (fun z1 H locs hW => ?_)
  refine lv_if_ne (tgt := 10) hx hb dX6_alone_5 (by decide) (fun c2 => ?_) (fun c2 => ?_)
  · replace h := gi_f h c2
    refine lv_aload_n hx hb dX6_alone_10 rfl (lv_at hl 0 rfl) ?_
    refine g_get K hW (t := 2) (ci := 5) (k := 0) (v := .ref (ad 1)) kLC_0 rfl rfl i_X6 (by decide) q_393 rfl (gfv2 rLC_0_0) dX6_alone_11 ?_
    refine lv_iload_n hx hb dX6_alone_14 rfl (lv_at hl 1 rfl) ?_
    obtain ⟨u3, e4, h⟩ := bd_o h hn
    refine g_callVi (rest := []) K hW hl (kX0_slicesOf (l := l) (G := G) (ad := ad) hok x1 I J u3 e4) kLC_1 rfl (gG_V q_684 q_685 q_686 q_134 q_687) nm_X0_slicesOf ⟨Nat.le_of_ble_eq_true rfl, Nat.le_of_ble_eq_true rfl⟩ rfl rfl (Nat.le_of_ble_eq_true rfl) ⟨Nat.zero_le _, Nat.zero_le _⟩ dX6_alone_15 (fun z5 H locs hW => ?_)
    refine lv_istore_n (lv' := [(2, .int u3), (0, .ref (ad 0)), (1, .int x1)]) hx hb dX6_alone_18 rfl hl (by decide) rfl (fun ls hl => ?_)
    refine lv_iconst (v := (0 : Int32)) hx hb dX6_alone_19 (by decide) ?_
    refine lv_istore_n (lv' := [(3, .int (0 : Int32)), (2, .int u3), (0, .ref (ad 0)), (1, .int x1)]) hx hb dX6_alone_20 rfl hl (by decide) rfl (fun ls hl => ?_)
    obtain ⟨r23, e24, h⟩ := bd_o h hn
    refine tX6_alone_21 hok K FU x1 u3 (0 : Int32) I J (some r23) e24 (Option.some_ne_none _) _ _ hW _ (lv_sub hl [2, 3, 1, 0] rfl) ?_
    · intro u25 q26 H locs hW ls hl
      replace q26 := Option.some.inj q26
      subst q26
      refine lv_iload_n hx hb dX6_alone_56 rfl (lv_at hl 0 rfl) ?_
      obtain a1 := so1 h
      exact g_nmi a1 (hfin _ _ _ _ hW dX6_alone_57)
  · replace h := gi_t h c2
    refine lv_iconst (v := (-1 : Int32)) hx hb dX6_alone_8 (by decide) ?_
    obtain a1 := so1 h
    exact g_nmi a1 (hfin _ _ _ _ hW dX6_alone_9)
noncomputable def fX6_idle_13b  (rec : Int32 → Int32 → gI → Option ((Int32))) (u3 : Int32) (u4 : Int32) (I : gI) : Option ((Int32)) :=
  gi ((I 1 12) ≤ u4)
 (some u3)
 (bd (fX6_wantsSort u4 (I 11 5) I) (fun (u7 : Int32) => lz (fun (u10 : Int32) => lz ((u4 + (1 : Int32))) (fun (u14 : Int32) => rec u10 u14 I)) (fun j11 => gi (u7 = 0)
 (j11 u3)
 (bd (fX0_slicesOf u4 I) (fun (u17 : Int32) => lz ((u3 &&& (u17 ^^^ (-1 : Int32)))) (fun (u20 : Int32) => j11 u20))))))
noncomputable def fX6_idle_13  : Nat → Int32 → Int32 → gI → Option ((Int32))
  | 0 => fun _ _ _ => none
  | n + 1 => fX6_idle_13b  (fX6_idle_13  n)
set_option maxHeartbeats 4000000 in
set_option maxRecDepth 100000 in
theorem tX6_idle_13 {l : Launch} {G : gG} {ad : Nat → Nat} {p : Program} {e : Env} {s : State} {m : MethodId} {args : Array Value} {below : List Frame} {meth : Method} {c : Code} {Q : State → Prop} (hok : gInj LC ad) (K : gCx G (gA LC ad) p s m args c cX6_idle 3 RX6)  : ∀ (n : Nat) (u3 : Int32) (u4 : Int32) (I : gI) (J : gJ) (out : Option ((Int32))), fX6_idle_13  n u3 u4 I = out → out ≠ none → ∀ (H : Heap) (locs : List Loc), gWd G LC ad (gA LC ad) s.heap I J H locs → ∀ (ls : Array Slot), lv_has ls 3 [(0, .ref (ad 0)), (1, .int u3), (2, .int u4)] → (∀ (y5 : Int32), some y5 = out → ∀ (H : Heap) (locs : List Loc), gWd G LC ad (gA LC ad) s.heap I J H locs → ∀ (ls : Array Slot), lv_has ls 3 [(1, .int y5)] → W p l e (gRm 2) s m args below meth c H locs 0 0 Q (F0 m 61 ls [])) → W p l e (gRm 2) s m args below meth c H locs 0 0 Q (F0 m 13 ls []) := by
  have hx := K.1; have hb := K.2.1; have hown := K.2.2.2.1; have hts := K.2.2.2.2.1
  intro n
  induction n with
  | zero => intro u3 u4 I J out h hn; exact absurd h.symm hn
  | succ n ih =>
    intro u3 u4 I J out h hn H locs hW ls hl hx1
    replace h : fX6_idle_13b  (fX6_idle_13  n) u3 u4 I = out := h
    unfold fX6_idle_13b at h
    refine lv_iload_n hx hb dX6_idle_13 rfl (lv_at hl 2 rfl) ?_
    refine lv_aload_n hx hb dX6_idle_14 rfl (lv_at hl 0 rfl) ?_
    refine g_get K hW (t := 2) (ci := 5) (k := 0) (v := .ref (ad 1)) kLC_0 rfl rfl i_X6 (by decide) q_393 rfl (gfv2 rLC_0_0) dX6_idle_15 ?_
    refine g_get K hW (t := 0) (ci := 0) (k := 12) (v := .int (I 1 12)) kLC_1 rfl rfl i_X0 (by decide) q_238 rfl rfl dX6_idle_18 ?_
    refine lv_icmp_ge (tgt := 61) hx hb dX6_idle_21 (by decide) (fun c6 => ?_) (fun c6 => ?_)
    · replace h := gi_t h c6
      exact hx1 u3 h _ _ hW _ (lv_sub hl [1] rfl)
    · replace h := gi_f h c6
      refine lv_aload_n hx hb dX6_idle_24 rfl (lv_at hl 0 rfl) ?_
      refine lv_iload_n hx hb dX6_idle_25 rfl (lv_at hl 2 rfl) ?_
      refine lv_aload_n hx hb dX6_idle_26 rfl (lv_at hl 0 rfl) ?_
      refine g_get K hW (t := 2) (ci := 5) (k := 0) (v := .ref (ad 1)) kLC_0 rfl rfl i_X6 (by decide) q_393 rfl (gfv2 rLC_0_0) dX6_idle_27 ?_
      refine g_get K hW (t := 2) (ci := 0) (k := 9) (v := .ref (ad 11)) kLC_1 rfl rfl i_X0 (by decide) q_232 rfl (gfv2 rLC_1_9) dX6_idle_30 ?_
      refine g_get K hW (t := 0) (ci := 4) (k := 5) (v := .int (I 11 5)) kLC_11 rfl rfl i_X5 (by decide) q_182 rfl rfl dX6_idle_33 ?_
      obtain ⟨u7, e8, h⟩ := bd_o h hn
      refine g_callVi (rest := []) K hW hl (kX6_wantsSort (l := l) (G := G) (ad := ad) hok u4 (I 11 5) I J u7 e8) kLC_0 rfl (gG_V q_680 q_682 q_25 q_133 q_683) nm_X6_wantsSort ⟨Nat.le_of_ble_eq_true rfl, Nat.le_of_ble_eq_true rfl⟩ rfl rfl (Nat.le_of_ble_eq_true rfl) ⟨Nat.zero_le _, Nat.zero_le _⟩ dX6_idle_36 (fun z9 H locs hW => ?_)
      obtain ⟨j11, e12, h⟩ := lz_o h
      have hj13 : ∀ (u10 : Int32), j11 u10 = out → ∀ (H : Heap) (locs : List Loc), gWd G LC ad (gA LC ad) s.heap I J H locs → ∀ (ls : Array Slot), lv_has ls 3 [(0, .ref (ad 0)), (1, .int u10), (2, .int u4)] → W p l e (gRm 2) s m args below meth c H locs 0 0 Q (F0 m 55 ls []) := by
        intro u10 h H locs hW ls hl
        replace h := jn1 e12 h
        obtain ⟨u14, e15, h⟩ := lz_o h
        refine lv_iinc (v := u14) (lv' := [(2, .int u14), (0, .ref (ad 0)), (1, .int u10)]) hx hb dX6_idle_55 hl (k := 2) rfl (by rw [e15]; rfl) (by decide) rfl (fun ls hl => ?_)
        refine lv_goto (tgt := 13) hx hb dX6_idle_58 (by decide) ?_
        exact ih u10 u14 I J _ h hn _ _ hW _ (lv_sub hl [1, 2, 0] rfl) hx1
      refine lv_if_eq (tgt := 55) hx hb dX6_idle_39 (by decide) (fun c16 => ?_) (fun c16 => ?_)
      · replace h := gi_t h c16
        exact hj13 u3 h _ _ hW _ (lv_sub hl [0, 1, 2] rfl)
      · replace h := gi_f h c16
        refine lv_iload_n hx hb dX6_idle_42 rfl (lv_at hl 1 rfl) ?_
        refine lv_aload_n hx hb dX6_idle_43 rfl (lv_at hl 0 rfl) ?_
        refine g_get K hW (t := 2) (ci := 5) (k := 0) (v := .ref (ad 1)) kLC_0 rfl rfl i_X6 (by decide) q_393 rfl (gfv2 rLC_0_0) dX6_idle_44 ?_
        refine lv_iload_n hx hb dX6_idle_47 rfl (lv_at hl 2 rfl) ?_
        obtain ⟨u17, e18, h⟩ := bd_o h hn
        refine g_callVi (rest := [.int u3]) K hW hl (kX0_slicesOf (l := l) (G := G) (ad := ad) hok u4 I J u17 e18) kLC_1 rfl (gG_V q_684 q_685 q_686 q_134 q_687) nm_X0_slicesOf ⟨Nat.le_of_ble_eq_true rfl, Nat.le_of_ble_eq_true rfl⟩ rfl rfl (Nat.le_of_ble_eq_true rfl) ⟨Nat.zero_le _, Nat.zero_le _⟩ dX6_idle_48 (fun z19 H locs hW => ?_)
        refine lv_iconst (v := (-1 : Int32)) hx hb dX6_idle_51 (by decide) ?_
        refine lv_ixor hx hb dX6_idle_52 ?_
        refine lv_iand hx hb dX6_idle_53 ?_
        obtain ⟨u20, e21, h⟩ := lz_o h
        refine g_nmi e21 ?_
        refine lv_istore_n (lv' := [(1, .int u20), (0, .ref (ad 0)), (2, .int u4)]) hx hb dX6_idle_54 rfl hl (by decide) rfl (fun ls hl => ?_)
        exact hj13 u20 h _ _ hW _ (lv_sub hl [1, 0, 2] rfl)
noncomputable def fX6_idle   (I : gI) : Option (Int32) :=
  lz ((I 11 4)) (fun (u1 : Int32) => bd (fX6_idle_13 FU u1 (0 : Int32) I) (fun (u24 : Int32) => some u24))
set_option maxHeartbeats 4000000 in
set_option maxRecDepth 100000 in
theorem kX6_idle {l : Launch} {G : gG} {ad : Nat → Nat} (hok : gInj LC ad)     (I : gI) (J : gJ) (r : Int32) (h : fX6_idle I = some r) : gMi l yX6_idle cX6_idle 3 (some .int) 2 G LC ad [.ref (ad 0)] I J r True I J := by
  refine gMi_of (lst := [(0, .ref (ad 0))]) (by decide) hok (Nat.le_of_ble_eq_true rfl) rfl ?_
  intro p e s m args below meth c Q ls K hW hl hfin
  have hn : (some r : Option (Int32)) ≠ none := Option.some_ne_none _
  have hx := K.1; have hb := K.2.1; have hown := K.2.2.2.1; have hts := K.2.2.2.2.1
  unfold fX6_idle at h
  refine lv_aload_n hx hb dX6_idle_0 rfl (lv_at hl 0 rfl) ?_
  refine g_get K hW (t := 2) (ci := 5) (k := 0) (v := .ref (ad 1)) kLC_0 rfl rfl i_X6 (by decide) q_393 rfl (gfv2 rLC_0_0) dX6_idle_1 ?_
  refine g_get K hW (t := 2) (ci := 0) (k := 9) (v := .ref (ad 11)) kLC_1 rfl rfl i_X0 (by decide) q_232 rfl (gfv2 rLC_1_9) dX6_idle_4 ?_
  refine g_get K hW (t := 0) (ci := 4) (k := 4) (v := .int (I 11 4)) kLC_11 rfl rfl i_X5 (by decide) q_180 rfl rfl dX6_idle_7 ?_
  obtain ⟨u1, e2, h⟩ := lz_o h
  refine g_nmi e2 ?_
  refine lv_istore_n (lv' := [(1, .int u1), (0, .ref (ad 0))]) hx hb dX6_idle_10 rfl hl (by decide) rfl (fun ls hl => ?_)
  refine lv_iconst (v := (0 : Int32)) hx hb dX6_idle_11 (by decide) ?_
  refine lv_istore_n (lv' := [(2, .int (0 : Int32)), (1, .int u1), (0, .ref (ad 0))]) hx hb dX6_idle_12 rfl hl (by decide) rfl (fun ls hl => ?_)
  obtain ⟨r22, e23, h⟩ := bd_o h hn
  refine tX6_idle_13 hok K FU u1 (0 : Int32) I J (some r22) e23 (Option.some_ne_none _) _ _ hW _ (lv_sub hl [2, 1, 0] rfl) ?_
  · intro u24 q25 H locs hW ls hl
    replace q25 := Option.some.inj q25
    subst q25
    refine lv_iload_n hx hb dX6_idle_61 rfl (lv_at hl 0 rfl) ?_
    obtain a1 := so1 h
    exact g_nmi a1 (hfin _ _ _ _ hW dX6_idle_62)
noncomputable def fX6_poor_4b  (rec : Int32 → Int32 → gI → Option ((Int32 × gI))) (u1 : Int32) (u2 : Int32) (I : gI) : Option ((Int32 × gI)) :=
  gi ((I 1 12) ≤ u2)
 (some (u1, I))
 (gd (vp_in u2 6) (bd (fX6_bidsNow u2 I) (pr (fun (u7 : Int32) (I8 : gI) => lz (fun (u11 : Int32) => lz ((u2 + (1 : Int32))) (fun (u15 : Int32) => rec u11 u15 I8)) (fun j12 => gi (u7 ≤ (I 12 (u2).toNatClampNeg))
 (j12 u1)
 (lz ((u1 ||| (jshl (1 : Int32) u2))) (fun (u18 : Int32) => j12 u18)))))))
noncomputable def fX6_poor_4  : Nat → Int32 → Int32 → gI → Option ((Int32 × gI))
  | 0 => fun _ _ _ => none
  | n + 1 => fX6_poor_4b  (fX6_poor_4  n)
set_option maxHeartbeats 4000000 in
set_option maxRecDepth 100000 in
theorem tX6_poor_4 {l : Launch} {G : gG} {ad : Nat → Nat} {p : Program} {e : Env} {s : State} {m : MethodId} {args : Array Value} {below : List Frame} {meth : Method} {c : Code} {Q : State → Prop} (hok : gInj LC ad) (K : gCx G (gA LC ad) p s m args c cX6_poor 3 RX6)  : ∀ (n : Nat) (u1 : Int32) (u2 : Int32) (I : gI) (J : gJ) (out : Option ((Int32 × gI))), fX6_poor_4  n u1 u2 I = out → out ≠ none → ∀ (H : Heap) (locs : List Loc), gWd G LC ad (gA LC ad) s.heap I J H locs → ∀ (ls : Array Slot), lv_has ls 3 [(0, .ref (ad 0)), (1, .int u1), (2, .int u2)] → (∀ (y3 : Int32) (I4 : gI), some (y3, I4) = out → ∀ (H : Heap) (locs : List Loc), gWd G LC ad (gA LC ad) s.heap I4 J H locs → ∀ (ls : Array Slot), lv_has ls 3 [(1, .int y3)] → W p l e (gRm 6) s m args below meth c H locs 0 0 Q (F0 m 47 ls [])) → W p l e (gRm 6) s m args below meth c H locs 0 0 Q (F0 m 4 ls []) := by
  have hx := K.1; have hb := K.2.1; have hown := K.2.2.2.1; have hts := K.2.2.2.2.1
  intro n
  induction n with
  | zero => intro u1 u2 I J out h hn; exact absurd h.symm hn
  | succ n ih =>
    intro u1 u2 I J out h hn H locs hW ls hl hx1
    replace h : fX6_poor_4b  (fX6_poor_4  n) u1 u2 I = out := h
    unfold fX6_poor_4b at h
    refine lv_iload_n hx hb dX6_poor_4 rfl (lv_at hl 2 rfl) ?_
    refine lv_aload_n hx hb dX6_poor_5 rfl (lv_at hl 0 rfl) ?_
    refine g_get K hW (t := 2) (ci := 5) (k := 0) (v := .ref (ad 1)) kLC_0 rfl rfl i_X6 (by decide) q_393 rfl (gfv2 rLC_0_0) dX6_poor_6 ?_
    refine g_get K hW (t := 0) (ci := 0) (k := 12) (v := .int (I 1 12)) kLC_1 rfl rfl i_X0 (by decide) q_238 rfl rfl dX6_poor_9 ?_
    refine lv_icmp_ge (tgt := 47) hx hb dX6_poor_12 (by decide) (fun c5 => ?_) (fun c5 => ?_)
    · replace h := gi_t h c5
      exact hx1 u1 I h _ _ hW _ (lv_sub hl [1] rfl)
    · replace h := gi_f h c5
      refine lv_aload_n hx hb dX6_poor_15 rfl (lv_at hl 0 rfl) ?_
      refine g_get K hW (t := 2) (ci := 5) (k := 0) (v := .ref (ad 1)) kLC_0 rfl rfl i_X6 (by decide) q_393 rfl (gfv2 rLC_0_0) dX6_poor_16 ?_
      refine g_get K hW (t := 2) (ci := 0) (k := 9) (v := .ref (ad 11)) kLC_1 rfl rfl i_X0 (by decide) q_232 rfl (gfv2 rLC_1_9) dX6_poor_19 ?_
      refine g_get K hW (t := 2) (ci := 4) (k := 0) (v := .ref (ad 12)) kLC_11 rfl rfl i_X5 (by decide) q_169 rfl (gfv2 rLC_11_0) dX6_poor_22 ?_
      refine lv_iload_n hx hb dX6_poor_25 rfl (lv_at hl 2 rfl) ?_
      obtain ⟨g6, h⟩ := gd_o h hn
      refine g_iald K hW kLC_12 g6 rfl dX6_poor_26 ?_
      refine lv_aload_n hx hb dX6_poor_27 rfl (lv_at hl 0 rfl) ?_
      refine lv_iload_n hx hb dX6_poor_28 rfl (lv_at hl 2 rfl) ?_
      obtain ⟨⟨u7, I8⟩, e9, h⟩ := bd_o h hn
      replace h := pr_o h
      refine g_callVi (rest := [.int (I 12 (u2).toNatClampNeg)]) K hW hl (kX6_bidsNow (l := l) (G := G) (ad := ad) hok u2 I J u7 I8 e9) kLC_0 rfl (gG_V q_780 q_782 q_33 q_133 q_783) nm_X6_bidsNow ⟨Nat.le_of_ble_eq_true rfl, Nat.le_of_ble_eq_true rfl⟩ rfl rfl (Nat.le_of_ble_eq_true rfl) ⟨Nat.zero_le _, Nat.zero_le _⟩ dX6_poor_29 (fun z10 H locs hW => ?_)
      obtain ⟨j12, e13, h⟩ := lz_o h
      have hj14 : ∀ (u11 : Int32), j12 u11 = out → ∀ (H : Heap) (locs : List Loc), gWd G LC ad (gA LC ad) s.heap I8 J H locs → ∀ (ls : Array Slot), lv_has ls 3 [(0, .ref (ad 0)), (1, .int u11), (2, .int u2)] → W p l e (gRm 6) s m args below meth c H locs 0 0 Q (F0 m 41 ls []) := by
        intro u11 h H locs hW ls hl
        replace h := jn1 e13 h
        obtain ⟨u15, e16, h⟩ := lz_o h
        refine lv_iinc (v := u15) (lv' := [(2, .int u15), (0, .ref (ad 0)), (1, .int u11)]) hx hb dX6_poor_41 hl (k := 2) rfl (by rw [e16]; rfl) (by decide) rfl (fun ls hl => ?_)
        refine lv_goto (tgt := 4) hx hb dX6_poor_44 (by decide) ?_
        exact ih u11 u15 I8 J _ h hn _ _ hW _ (lv_sub hl [1, 2, 0] rfl) hx1
      refine lv_icmp_ge (tgt := 41) hx hb dX6_poor_32 (by decide) (fun c17 => ?_) (fun c17 => ?_)
      · replace h := gi_t h c17
        exact hj14 u1 h _ _ hW _ (lv_sub hl [0, 1, 2] rfl)
      · replace h := gi_f h c17
        refine lv_iload_n hx hb dX6_poor_35 rfl (lv_at hl 1 rfl) ?_
        refine lv_iconst (v := (1 : Int32)) hx hb dX6_poor_36 (by decide) ?_
        refine lv_iload_n hx hb dX6_poor_37 rfl (lv_at hl 2 rfl) ?_
        refine g_ishl hx hb dX6_poor_38 ?_
        refine lv_ior hx hb dX6_poor_39 ?_
        obtain ⟨u18, e19, h⟩ := lz_o h
        refine g_nmi e19 ?_
        refine lv_istore_n (lv' := [(1, .int u18), (0, .ref (ad 0)), (2, .int u2)]) hx hb dX6_poor_40 rfl hl (by decide) rfl (fun ls hl => ?_)
        exact hj14 u18 h _ _ hW _ (lv_sub hl [1, 0, 2] rfl)
noncomputable def fX6_poor   (I : gI) : Option (Int32 × gI) :=
  bd (fX6_poor_4 FU (0 : Int32) (0 : Int32) I) (pr (fun (u22 : Int32) (I23 : gI) => some (u22, I23)))
set_option maxHeartbeats 4000000 in
set_option maxRecDepth 100000 in
theorem kX6_poor {l : Launch} {G : gG} {ad : Nat → Nat} (hok : gInj LC ad)     (I : gI) (J : gJ) (r : Int32) (I' : gI) (h : fX6_poor I = some (r, I')) : gMi l yX6_poor cX6_poor 3 (some .int) 6 G LC ad [.ref (ad 0)] I J r True I' J := by
  refine gMi_of (lst := [(0, .ref (ad 0))]) (by decide) hok (Nat.le_of_ble_eq_true rfl) rfl ?_
  intro p e s m args below meth c Q ls K hW hl hfin
  have hn : (some (r, I') : Option (Int32 × gI)) ≠ none := Option.some_ne_none _
  have hx := K.1; have hb := K.2.1; have hown := K.2.2.2.1; have hts := K.2.2.2.2.1
  unfold fX6_poor at h
  refine lv_iconst (v := (0 : Int32)) hx hb dX6_poor_0 (by decide) ?_
  refine lv_istore_n (lv' := [(1, .int (0 : Int32)), (0, .ref (ad 0))]) hx hb dX6_poor_1 rfl hl (by decide) rfl (fun ls hl => ?_)
  refine lv_iconst (v := (0 : Int32)) hx hb dX6_poor_2 (by decide) ?_
  refine lv_istore_n (lv' := [(2, .int (0 : Int32)), (1, .int (0 : Int32)), (0, .ref (ad 0))]) hx hb dX6_poor_3 rfl hl (by decide) rfl (fun ls hl => ?_)
  obtain ⟨r20, e21, h⟩ := bd_o h hn
  refine tX6_poor_4 hok K FU (0 : Int32) (0 : Int32) I J (some r20) e21 (Option.some_ne_none _) _ _ hW _ (lv_sub hl [2, 1, 0] rfl) ?_
  · intro u22 I23 q24 H locs hW ls hl
    replace q24 := Option.some.inj q24
    subst q24
    replace h := pr_o h
    refine lv_iload_n hx hb dX6_poor_47 rfl (lv_at hl 0 rfl) ?_
    obtain ⟨a1, a2⟩ := so2 h
    replace hW := gWd_nI a2 hW
    exact g_nmi a1 (hfin _ _ _ _ hW dX6_poor_48)
noncomputable def fX6_room_14b  (rec : Int32 → Int32 → gI → Option ((Int32) ⊕ (Unit))) (u3 : Int32) (u4 : Int32) (I : gI) : Option ((Int32) ⊕ (Unit)) :=
  gi ((12 : Int32) < (u4 + u3))
 (some (Sum.inr ()))
 (lz ((jshl ((jshl (1 : Int32) u3) - (1 : Int32)) u4)) (fun (u7 : Int32) => gi (((I 11 4) &&& u7) = u7)
 (some (Sum.inl u4))
 (lz ((u4 + (1 : Int32))) (fun (u10 : Int32) => rec u3 u10 I))))
noncomputable def fX6_room_14  : Nat → Int32 → Int32 → gI → Option ((Int32) ⊕ (Unit))
  | 0 => fun _ _ _ => none
  | n + 1 => fX6_room_14b  (fX6_room_14  n)
set_option maxHeartbeats 4000000 in
set_option maxRecDepth 100000 in
theorem tX6_room_14 {l : Launch} {G : gG} {ad : Nat → Nat} {p : Program} {e : Env} {s : State} {m : MethodId} {args : Array Value} {below : List Frame} {meth : Method} {c : Code} {Q : State → Prop} (hok : gInj LC ad) (K : gCx G (gA LC ad) p s m args c cX6_room 4 RX6)  : ∀ (n : Nat) (u3 : Int32) (u4 : Int32) (I : gI) (J : gJ) (out : Option ((Int32) ⊕ (Unit))), fX6_room_14  n u3 u4 I = out → out ≠ none → ∀ (H : Heap) (locs : List Loc), gWd G LC ad (gA LC ad) s.heap I J H locs → ∀ (ls : Array Slot), lv_has ls 4 [(0, .ref (ad 0)), (1, .int u3), (2, .int u4)] → (∀ (y5 : Int32), some (Sum.inl y5) = out → ∀ (H : Heap) (locs : List Loc), gWd G LC ad (gA LC ad) s.heap I J H locs → ∀ (ls : Array Slot), lv_has ls 4 [(2, .int y5)] → W p l e (gRm 2) s m args below meth c H locs 0 0 Q (F0 m 46 ls [])) → (some (Sum.inr ()) = out → ∀ (H : Heap) (locs : List Loc), gWd G LC ad (gA LC ad) s.heap I J H locs → ∀ (ls : Array Slot), lv_has ls 4 [] → W p l e (gRm 2) s m args below meth c H locs 0 0 Q (F0 m 54 ls [])) → W p l e (gRm 2) s m args below meth c H locs 0 0 Q (F0 m 14 ls []) := by
  have hx := K.1; have hb := K.2.1; have hown := K.2.2.2.1; have hts := K.2.2.2.2.1
  intro n
  induction n with
  | zero => intro u3 u4 I J out h hn; exact absurd h.symm hn
  | succ n ih =>
    intro u3 u4 I J out h hn H locs hW ls hl hx1 hx2
    replace h : fX6_room_14b  (fX6_room_14  n) u3 u4 I = out := h
    unfold fX6_room_14b at h
    refine lv_iload_n hx hb dX6_room_14 rfl (lv_at hl 2 rfl) ?_
    refine lv_iload_n hx hb dX6_room_15 rfl (lv_at hl 1 rfl) ?_
    refine lv_iadd hx hb dX6_room_16 ?_
    refine lv_bipush (v := (12 : Int32)) hx hb dX6_room_17 (by decide) ?_
    refine lv_icmp_gt (tgt := 54) hx hb dX6_room_19 (by decide) (fun c6 => ?_) (fun c6 => ?_)
    · replace h := gi_t h c6
      exact hx2 h _ _ hW _ (lv_sub hl [] rfl)
    · replace h := gi_f h c6
      refine lv_iconst (v := (1 : Int32)) hx hb dX6_room_22 (by decide) ?_
      refine lv_iload_n hx hb dX6_room_23 rfl (lv_at hl 1 rfl) ?_
      refine g_ishl hx hb dX6_room_24 ?_
      refine lv_iconst (v := (1 : Int32)) hx hb dX6_room_25 (by decide) ?_
      refine lv_isub hx hb dX6_room_26 ?_
      refine lv_iload_n hx hb dX6_room_27 rfl (lv_at hl 2 rfl) ?_
      refine g_ishl hx hb dX6_room_28 ?_
      obtain ⟨u7, e8, h⟩ := lz_o h
      refine g_nmi e8 ?_
      refine lv_istore_n (lv' := [(3, .int u7), (0, .ref (ad 0)), (1, .int u3), (2, .int u4)]) hx hb dX6_room_29 rfl hl (by decide) rfl (fun ls hl => ?_)
      refine lv_aload_n hx hb dX6_room_30 rfl (lv_at hl 1 rfl) ?_
      refine g_get K hW (t := 2) (ci := 5) (k := 0) (v := .ref (ad 1)) kLC_0 rfl rfl i_X6 (by decide) q_393 rfl (gfv2 rLC_0_0) dX6_room_31 ?_
      refine g_get K hW (t := 2) (ci := 0) (k := 9) (v := .ref (ad 11)) kLC_1 rfl rfl i_X0 (by decide) q_232 rfl (gfv2 rLC_1_9) dX6_room_34 ?_
      refine g_get K hW (t := 0) (ci := 4) (k := 4) (v := .int (I 11 4)) kLC_11 rfl rfl i_X5 (by decide) q_180 rfl rfl dX6_room_37 ?_
      refine lv_iload_n hx hb dX6_room_40 rfl (lv_at hl 0 rfl) ?_
      refine lv_iand hx hb dX6_room_41 ?_
      refine lv_iload_n hx hb dX6_room_42 rfl (lv_at hl 0 rfl) ?_
      refine lv_icmp_ne (tgt := 48) hx hb dX6_room_43 (by decide) (fun c9 => ?_) (fun c9 => ?_)
      · replace h := gi_f h c9
        obtain ⟨u10, e11, h⟩ := lz_o h
        refine lv_iinc (v := u10) (lv' := [(2, .int u10), (3, .int u7), (0, .ref (ad 0)), (1, .int u3)]) hx hb dX6_room_48 hl (k := 3) rfl (by rw [e11]; rfl) (by decide) rfl (fun ls hl => ?_)
        refine lv_goto (tgt := 14) hx hb dX6_room_51 (by decide) ?_
        exact ih u3 u10 I J _ h hn _ _ hW _ (lv_sub hl [2, 3, 0] rfl) hx1 hx2
      · replace h := gi_t h c9
        exact hx1 u4 h _ _ hW _ (lv_sub hl [3] rfl)
noncomputable def fX6_room  (x1 : Int32) (I : gI) : Option (Int32) :=
  gi ((fX6_within x1 (1 : Int32) (12 : Int32)) = 0)
 (some (-1 : Int32))
 (bd (fX6_room_14 FU x1 (0 : Int32) I) (sm (fun (u14 : Int32) => some u14) (fun _ => some (-1 : Int32))))
set_option maxHeartbeats 4000000 in
set_option maxRecDepth 100000 in
theorem kX6_room {l : Launch} {G : gG} {ad : Nat → Nat} (hok : gInj LC ad)    (x1 : Int32) (I : gI) (J : gJ) (r : Int32) (h : fX6_room x1 I = some r) : gMi l yX6_room cX6_room 4 (some .int) 2 G LC ad [.ref (ad 0), .int x1] I J r True I J := by
  refine gMi_of (lst := [(0, .ref (ad 0)), (1, .int x1)]) (by decide) hok (Nat.le_of_ble_eq_true rfl) rfl ?_
  intro p e s m args below meth c Q ls K hW hl hfin
  have hn : (some r : Option (Int32)) ≠ none := Option.some_ne_none _
  have hx := K.1; have hb := K.2.1; have hown := K.2.2.2.1; have hts := K.2.2.2.2.1
  unfold fX6_room at h
  refine lv_iload_n hx hb dX6_room_0 rfl (lv_at hl 1 rfl) ?_
  refine lv_iconst (v := (1 : Int32)) hx hb dX6_room_1 (by decide) ?_
  refine lv_bipush (v := (12 : Int32)) hx hb dX6_room_2 (by decide) ?_
  refine g_callSi (rest := []) K hW hl (kX6_within (l := l) (G := G) (ad := ad) hok x1 (1 : Int32) (12 : Int32) I J (fX6_within x1 (1 : Int32) (12 : Int32)) rfl) q_440 q_441 q_133 q_442 nm_X6_within ⟨Nat.le_of_ble_eq_true rfl, Nat.le_of_ble_eq_true rfl⟩ rfl rfl (Nat.le_of_ble_eq_true rfl) ⟨Nat.zero_le _, Nat.zero_le _⟩ dX6_room_4 (fun z1 H locs hW => ?_)
  refine lv_if_ne (tgt := 12) hx hb dX6_room_7 (by decide) (fun c2 => ?_) (fun c2 => ?_)
  · replace h := gi_f h c2
    refine lv_iconst (v := (0 : Int32)) hx hb dX6_room_12 (by decide) ?_
    refine lv_istore_n (lv' := [(2, .int (0 : Int32)), (0, .ref (ad 0)), (1, .int x1)]) hx hb dX6_room_13 rfl hl (by decide) rfl (fun ls hl => ?_)
    obtain ⟨r12, e13, h⟩ := bd_o h hn
    refine tX6_room_14 hok K FU x1 (0 : Int32) I J (some r12) e13 (Option.some_ne_none _) _ _ hW _ (lv_sub hl [1, 2, 0] rfl) ?_ ?_
    · intro u14 q15 H locs hW ls hl
      replace q15 := Option.some.inj q15
      subst q15
      replace h := sm_l h
      refine lv_iload_n hx hb dX6_room_46 rfl (lv_at hl 0 rfl) ?_
      obtain a1 := so1 h
      exact g_nmi a1 (hfin _ _ _ _ hW dX6_room_47)
    · intro q16 H locs hW ls hl
      replace q16 := Option.some.inj q16
      subst q16
      replace h := sm_r h
      refine lv_iconst (v := (-1 : Int32)) hx hb dX6_room_54 (by decide) ?_
      obtain a1 := so1 h
      exact g_nmi a1 (hfin _ _ _ _ hW dX6_room_55)
  · replace h := gi_t h c2
    refine lv_iconst (v := (-1 : Int32)) hx hb dX6_room_10 (by decide) ?_
    obtain a1 := so1 h
    exact g_nmi a1 (hfin _ _ _ _ hW dX6_room_11)
noncomputable def fX6_can  (x1 : Int32) (I : gI) : Option (Int32 × gI) :=
  bd (fX6_priceFor x1 I) (pr (fun (u1 : Int32) (I2 : gI) => gi (u1 = (-1 : Int32))
 (some ((0 : Int32), I2))
 (some ((1 : Int32), I2))))
set_option maxHeartbeats 4000000 in
set_option maxRecDepth 100000 in
theorem kX6_can {l : Launch} {G : gG} {ad : Nat → Nat} (hok : gInj LC ad)    (x1 : Int32) (I : gI) (J : gJ) (r : Int32) (I' : gI) (h : fX6_can x1 I = some (r, I')) : gMi l yX6_can cX6_can 2 (some .boolean) 6 G LC ad [.ref (ad 0), .int x1] I J r (r = 0 ∨ r = 1) I' J := by
  refine gMz_of (lst := [(0, .ref (ad 0)), (1, .int x1)]) (by decide) hok (Nat.le_of_ble_eq_true rfl) rfl ?_
  intro p e s m args below meth c Q ls K hW hl hfin
  have hn : (some (r, I') : Option (Int32 × gI)) ≠ none := Option.some_ne_none _
  have hx := K.1; have hb := K.2.1; have hown := K.2.2.2.1; have hts := K.2.2.2.2.1
  unfold fX6_can at h
  refine lv_aload_n hx hb dX6_can_0 rfl (lv_at hl 0 rfl) ?_
  refine lv_iload_n hx hb dX6_can_1 rfl (lv_at hl 1 rfl) ?_
  obtain ⟨⟨u1, I2⟩, e3, h⟩ := bd_o h hn
  replace h := pr_o h
  refine g_callVi (rest := []) K hW hl (kX6_priceFor (l := l) (G := G) (ad := ad) hok x1 I J u1 I2 e3) kLC_0 rfl (gG_V q_676 q_678 q_24 q_133 q_679) nm_X6_priceFor ⟨Nat.le_of_ble_eq_true rfl, Nat.le_of_ble_eq_true rfl⟩ rfl rfl (Nat.le_of_ble_eq_true rfl) ⟨Nat.zero_le _, Nat.zero_le _⟩ dX6_can_2 (fun z4 H locs hW => ?_)
  refine lv_iconst (v := (-1 : Int32)) hx hb dX6_can_5 (by decide) ?_
  refine lv_icmp_eq (tgt := 13) hx hb dX6_can_6 (by decide) (fun c5 => ?_) (fun c5 => ?_)
  · replace h := gi_t h c5
    refine lv_iconst (v := (0 : Int32)) hx hb dX6_can_13 (by decide) ?_
    obtain ⟨a1, a2⟩ := so2 h
    replace hW := gWd_nI a2 hW
    exact g_nmi a1 (hfin _ _ _ _ (a1 ▸ (Or.inl rfl)) hW dX6_can_14)
  · replace h := gi_f h c5
    refine lv_iconst (v := (1 : Int32)) hx hb dX6_can_9 (by decide) ?_
    refine lv_goto (tgt := 14) hx hb dX6_can_10 (by decide) ?_
    obtain ⟨a1, a2⟩ := so2 h
    replace hW := gWd_nI a2 hW
    exact g_nmi a1 (hfin _ _ _ _ (a1 ▸ (Or.inr rfl)) hW dX6_can_14)
