-- 12.m11: the reference: whose image back about
noncomputable def fX7_whose_20b  (rec : Int32 → Int32 → Int32 → Int32 → gI → gJ → Option ((Int32 × gI × gJ))) (u7 : Int32) (u8 : Int32) (u9 : Int32) (u10 : Int32) (I : gI) (J : gJ) : Option ((Int32 × gI × gJ)) :=
  gi (((81 : Int32) + ((2 : Int32) * (I 1 5))) ≤ u10)
 (some (u9, I, J))
 (lz (fun (u15 : Int32) => fun (I16 : gI) => fun (J17 : gJ) => lz ((u10 + (2 : Int32))) (fun (u21 : Int32) => rec u7 u8 u15 u21 I16 J17)) (fun j18 => lz (fun (I23 : gI) => fun (J24 : gJ) => j18 (0 : Int32) I23 J24) (fun j25 => gi (u9 = 0)
 (j25 I J)
 (gd (vp_in u10 1592) (bd (fX7_bidsOf u8 (I 1 (u10).toNatClampNeg) (I 1 9) I J) (pr (fun (u30 : Int32) => pr (fun (I31 : gI) (J32 : gJ) => gd (vp_in (u10 + (1 : Int32)) 1592) (gi (u30 = (I31 1 ((u10 + (1 : Int32))).toNatClampNeg))
 (j18 (1 : Int32) I31 J32)
 (j25 I31 J32))))))))))
noncomputable def fX7_whose_20  : Nat → Int32 → Int32 → Int32 → Int32 → gI → gJ → Option ((Int32 × gI × gJ))
  | 0 => fun _ _ _ _ _ _ => none
  | n + 1 => fX7_whose_20b  (fX7_whose_20  n)
set_option maxHeartbeats 4000000 in
set_option maxRecDepth 100000 in
theorem tX7_whose_20 {l : Launch} {G : gG} {ad : Nat → Nat} {p : Program} {e : Env} {s : State} {m : MethodId} {args : Array Value} {below : List Frame} {meth : Method} {c : Code} {Q : State → Prop} (hok : gInj LM ad) (K : gCx G (gA LM ad) p s m args c cX7_whose 5 RX7)  : ∀ (n : Nat) (u7 : Int32) (u8 : Int32) (u9 : Int32) (u10 : Int32) (I : gI) (J : gJ) (out : Option ((Int32 × gI × gJ))), fX7_whose_20  n u7 u8 u9 u10 I J = out → out ≠ none → ∀ (H : Heap) (locs : List Loc), gWd G LM ad (gA LM ad) s.heap I J H locs → ∀ (ls : Array Slot), lv_has ls 5 [(0, .ref (ad 0)), (1, .int u7), (2, .int u8), (3, .int u9), (4, .int u10)] → (∀ (y11 : Int32) (I12 : gI) (J13 : gJ), some (y11, I12, J13) = out → ∀ (H : Heap) (locs : List Loc), gWd G LM ad (gA LM ad) s.heap I12 J13 H locs → ∀ (ls : Array Slot), lv_has ls 5 [(0, .ref (ad 0)), (1, .int u7), (2, .int u8), (3, .int y11)] → W p l e (gRm 6) s m args below meth c H locs 0 0 Q (F0 m 83 ls [])) → W p l e (gRm 6) s m args below meth c H locs 0 0 Q (F0 m 20 ls []) := by
  have hx := K.1; have hb := K.2.1; have hown := K.2.2.2.1; have hts := K.2.2.2.2.1
  intro n
  induction n with
  | zero => intro u7 u8 u9 u10 I J out h hn; exact absurd h.symm hn
  | succ n ih =>
    intro u7 u8 u9 u10 I J out h hn H locs hW ls hl hx1
    replace h : fX7_whose_20b  (fX7_whose_20  n) u7 u8 u9 u10 I J = out := h
    unfold fX7_whose_20b at h
    refine lv_iload hx hb dX7_whose_20 (lv_at hl 4 rfl) ?_
    refine lv_bipush (v := (81 : Int32)) hx hb dX7_whose_22 (by decide) ?_
    refine lv_iconst (v := (2 : Int32)) hx hb dX7_whose_24 (by decide) ?_
    refine lv_aload_n hx hb dX7_whose_25 rfl (lv_at hl 0 rfl) ?_
    refine g_get K hW (t := 2) (ci := 6) (k := 0) (v := .ref (ad 1)) kLM_0 rfl rfl i_X7 (by decide) q_1077 rfl (gfv2 rLM_0_0) dX7_whose_26 ?_
    refine lv_iconst (v := (5 : Int32)) hx hb dX7_whose_29 (by decide) ?_
    refine g_iald K hW kLM_1 in_5_1592 tn_5 dX7_whose_30 ?_
    refine lv_imul hx hb dX7_whose_31 ?_
    refine lv_iadd hx hb dX7_whose_32 ?_
    refine lv_icmp_ge (tgt := 83) hx hb dX7_whose_33 (by decide) (fun c14 => ?_) (fun c14 => ?_)
    · replace h := gi_t h c14
      exact hx1 u9 I J h _ _ hW _ (lv_sub hl [0, 1, 2, 3] rfl)
    · replace h := gi_f h c14
      refine lv_iload_n hx hb dX7_whose_36 rfl (lv_at hl 3 rfl) ?_
      obtain ⟨j18, e19, h⟩ := lz_o h
      have hj20 : ∀ (u15 : Int32) (I16 : gI) (J17 : gJ), j18 u15 I16 J17 = out → ∀ (H : Heap) (locs : List Loc), gWd G LM ad (gA LM ad) s.heap I16 J17 H locs → ∀ (ls : Array Slot), lv_has ls 5 [(0, .ref (ad 0)), (1, .int u7), (2, .int u8), (4, .int u10)] → W p l e (gRm 6) s m args below meth c H locs 0 0 Q (F0 m 76 ls [.int u15]) := by
        intro u15 I16 J17 h H locs hW ls hl
        replace h := jn3 e19 h
        refine lv_istore_n (lv' := [(3, .int u15), (0, .ref (ad 0)), (1, .int u7), (2, .int u8), (4, .int u10)]) hx hb dX7_whose_76 rfl hl (by decide) rfl (fun ls hl => ?_)
        obtain ⟨u21, e22, h⟩ := lz_o h
        refine lv_iinc (v := u21) (lv' := [(4, .int u21), (3, .int u15), (0, .ref (ad 0)), (1, .int u7), (2, .int u8)]) hx hb dX7_whose_77 hl (k := 4) rfl (by rw [e22]; rfl) (by decide) rfl (fun ls hl => ?_)
        refine lv_goto (tgt := 20) hx hb dX7_whose_80 (by decide) ?_
        exact ih u7 u8 u15 u21 I16 J17 _ h hn _ _ hW _ (lv_sub hl [2, 3, 4, 1, 0] rfl) hx1
      obtain ⟨j25, e26, h⟩ := lz_o h
      have hj27 : ∀ (I23 : gI) (J24 : gJ), j25 I23 J24 = out → ∀ (H : Heap) (locs : List Loc), gWd G LM ad (gA LM ad) s.heap I23 J24 H locs → ∀ (ls : Array Slot), lv_has ls 5 [(0, .ref (ad 0)), (1, .int u7), (2, .int u8), (4, .int u10)] → W p l e (gRm 6) s m args below meth c H locs 0 0 Q (F0 m 75 ls []) := by
        intro I23 J24 h H locs hW ls hl
        replace h := jn2 e26 h
        refine lv_iconst (v := (0 : Int32)) hx hb dX7_whose_75 (by decide) ?_
        exact hj20 (0 : Int32) I23 J24 h _ _ hW _ (lv_sub hl [0, 1, 2, 3] rfl)
      refine lv_if_eq (tgt := 75) hx hb dX7_whose_37 (by decide) (fun c28 => ?_) (fun c28 => ?_)
      · replace h := gi_t h c28
        exact hj27 I J h _ _ hW _ (lv_sub hl [0, 1, 2, 4] rfl)
      · replace h := gi_f h c28
        refine lv_aload_n hx hb dX7_whose_40 rfl (lv_at hl 0 rfl) ?_
        refine lv_iload_n hx hb dX7_whose_41 rfl (lv_at hl 2 rfl) ?_
        refine lv_aload_n hx hb dX7_whose_42 rfl (lv_at hl 0 rfl) ?_
        refine g_get K hW (t := 2) (ci := 6) (k := 0) (v := .ref (ad 1)) kLM_0 rfl rfl i_X7 (by decide) q_1077 rfl (gfv2 rLM_0_0) dX7_whose_43 ?_
        refine lv_iload hx hb dX7_whose_46 (lv_at hl 4 rfl) ?_
        obtain ⟨g29, h⟩ := gd_o h hn
        refine g_iald K hW kLM_1 g29 rfl dX7_whose_48 ?_
        refine lv_aload_n hx hb dX7_whose_49 rfl (lv_at hl 0 rfl) ?_
        refine g_get K hW (t := 2) (ci := 6) (k := 0) (v := .ref (ad 1)) kLM_0 rfl rfl i_X7 (by decide) q_1077 rfl (gfv2 rLM_0_0) dX7_whose_50 ?_
        refine lv_bipush (v := (9 : Int32)) hx hb dX7_whose_53 (by decide) ?_
        refine g_iald K hW kLM_1 in_9_1592 tn_9 dX7_whose_55 ?_
        obtain ⟨⟨u30, I31, J32⟩, e33, h⟩ := bd_o h hn
        replace h := pr_o h
        replace h := pr_o h
        refine g_callVi (rest := []) K hW hl (kX7_bidsOf (l := l) (G := G) (ad := ad) hok u8 (I 1 (u10).toNatClampNeg) (I 1 9) I J u30 I31 J32 e33) kLM_0 rfl (gG_V q_1374 q_1376 q_86 q_139 q_1377) nm_X7_bidsOf ⟨Nat.le_of_ble_eq_true rfl, Nat.le_of_ble_eq_true rfl⟩ rfl rfl (Nat.le_of_ble_eq_true rfl) ⟨Nat.zero_le _, Nat.zero_le _⟩ dX7_whose_56 (fun z34 H locs hW => ?_)
        refine lv_aload_n hx hb dX7_whose_59 rfl (lv_at hl 0 rfl) ?_
        refine g_get K hW (t := 2) (ci := 6) (k := 0) (v := .ref (ad 1)) kLM_0 rfl rfl i_X7 (by decide) q_1077 rfl (gfv2 rLM_0_0) dX7_whose_60 ?_
        refine lv_iload hx hb dX7_whose_63 (lv_at hl 4 rfl) ?_
        refine lv_iconst (v := (1 : Int32)) hx hb dX7_whose_65 (by decide) ?_
        refine lv_iadd hx hb dX7_whose_66 ?_
        obtain ⟨g35, h⟩ := gd_o h hn
        refine g_iald K hW kLM_1 g35 rfl dX7_whose_67 ?_
        refine lv_icmp_ne (tgt := 75) hx hb dX7_whose_68 (by decide) (fun c36 => ?_) (fun c36 => ?_)
        · replace h := gi_f h c36
          exact hj27 I31 J32 h _ _ hW _ (lv_sub hl [0, 1, 2, 4] rfl)
        · replace h := gi_t h c36
          refine lv_iconst (v := (1 : Int32)) hx hb dX7_whose_71 (by decide) ?_
          refine lv_goto (tgt := 76) hx hb dX7_whose_72 (by decide) ?_
          exact hj20 (1 : Int32) I31 J32 h _ _ hW _ (lv_sub hl [0, 1, 2, 4] rfl)
noncomputable def fX7_whose_4b  (rec : Int32 → Int32 → gI → gJ → Option ((Int32 × gI × gJ))) (u1 : Int32) (u2 : Int32) (I : gI) (J : gJ) : Option ((Int32 × gI × gJ)) :=
  gi ((I 1 1) ≤ u2)
 (some (u1, I, J))
 (bd (fX7_whose_20 FU u1 u2 (1 : Int32) (81 : Int32) I J) (pr (fun (u39 : Int32) => (pr (fun (I40 : gI) (J41 : gJ) => lz (fun (u43 : Int32) => lz ((u1 ||| u43)) (fun (u47 : Int32) => lz ((u2 + (1 : Int32))) (fun (u49 : Int32) => rec u47 u49 I40 J41))) (fun j44 => gi (u39 = 0)
 (j44 (0 : Int32))
 (j44 (jshl (1 : Int32) u2))))))))
noncomputable def fX7_whose_4  : Nat → Int32 → Int32 → gI → gJ → Option ((Int32 × gI × gJ))
  | 0 => fun _ _ _ _ => none
  | n + 1 => fX7_whose_4b  (fX7_whose_4  n)
set_option maxHeartbeats 4000000 in
set_option maxRecDepth 100000 in
theorem tX7_whose_4 {l : Launch} {G : gG} {ad : Nat → Nat} {p : Program} {e : Env} {s : State} {m : MethodId} {args : Array Value} {below : List Frame} {meth : Method} {c : Code} {Q : State → Prop} (hok : gInj LM ad) (K : gCx G (gA LM ad) p s m args c cX7_whose 5 RX7)  : ∀ (n : Nat) (u1 : Int32) (u2 : Int32) (I : gI) (J : gJ) (out : Option ((Int32 × gI × gJ))), fX7_whose_4  n u1 u2 I J = out → out ≠ none → ∀ (H : Heap) (locs : List Loc), gWd G LM ad (gA LM ad) s.heap I J H locs → ∀ (ls : Array Slot), lv_has ls 5 [(0, .ref (ad 0)), (1, .int u1), (2, .int u2)] → (∀ (y3 : Int32) (I4 : gI) (J5 : gJ), some (y3, I4, J5) = out → ∀ (H : Heap) (locs : List Loc), gWd G LM ad (gA LM ad) s.heap I4 J5 H locs → ∀ (ls : Array Slot), lv_has ls 5 [(1, .int y3)] → W p l e (gRm 6) s m args below meth c H locs 0 0 Q (F0 m 103 ls [])) → W p l e (gRm 6) s m args below meth c H locs 0 0 Q (F0 m 4 ls []) := by
  have hx := K.1; have hb := K.2.1; have hown := K.2.2.2.1; have hts := K.2.2.2.2.1
  intro n
  induction n with
  | zero => intro u1 u2 I J out h hn; exact absurd h.symm hn
  | succ n ih =>
    intro u1 u2 I J out h hn H locs hW ls hl hx1
    replace h : fX7_whose_4b  (fX7_whose_4  n) u1 u2 I J = out := h
    unfold fX7_whose_4b at h
    refine lv_iload_n hx hb dX7_whose_4 rfl (lv_at hl 2 rfl) ?_
    refine lv_aload_n hx hb dX7_whose_5 rfl (lv_at hl 0 rfl) ?_
    refine g_get K hW (t := 2) (ci := 6) (k := 0) (v := .ref (ad 1)) kLM_0 rfl rfl i_X7 (by decide) q_1077 rfl (gfv2 rLM_0_0) dX7_whose_6 ?_
    refine lv_iconst (v := (1 : Int32)) hx hb dX7_whose_9 (by decide) ?_
    refine g_iald K hW kLM_1 in_1_1592 tn_1 dX7_whose_10 ?_
    refine lv_icmp_ge (tgt := 103) hx hb dX7_whose_11 (by decide) (fun c6 => ?_) (fun c6 => ?_)
    · replace h := gi_t h c6
      exact hx1 u1 I J h _ _ hW _ (lv_sub hl [1] rfl)
    · replace h := gi_f h c6
      refine lv_iconst (v := (1 : Int32)) hx hb dX7_whose_14 (by decide) ?_
      refine lv_istore_n (lv' := [(3, .int (1 : Int32)), (0, .ref (ad 0)), (1, .int u1), (2, .int u2)]) hx hb dX7_whose_15 rfl hl (by decide) rfl (fun ls hl => ?_)
      refine lv_bipush (v := (81 : Int32)) hx hb dX7_whose_16 (by decide) ?_
      refine lv_istore (lv' := [(4, .int (81 : Int32)), (3, .int (1 : Int32)), (0, .ref (ad 0)), (1, .int u1), (2, .int u2)]) hx hb dX7_whose_18 hl (by decide) rfl (fun ls hl => ?_)
      obtain ⟨r37, e38, h⟩ := bd_o h hn
      refine tX7_whose_20 hok K FU u1 u2 (1 : Int32) (81 : Int32) I J (some r37) e38 (Option.some_ne_none _) _ _ hW _ (lv_sub hl [2, 3, 4, 1, 0] rfl) ?_
      · intro u39 I40 J41 q42 H locs hW ls hl
        replace q42 := Option.some.inj q42
        subst q42
        replace h := pr_o h
        replace h := pr_o h
        refine lv_iload_n hx hb dX7_whose_83 rfl (lv_at hl 1 rfl) ?_
        refine lv_iload_n hx hb dX7_whose_84 rfl (lv_at hl 3 rfl) ?_
        obtain ⟨j44, e45, h⟩ := lz_o h
        have hj46 : ∀ (u43 : Int32), j44 u43 = out → ∀ (H : Heap) (locs : List Loc), gWd G LM ad (gA LM ad) s.heap I40 J41 H locs → ∀ (ls : Array Slot), lv_has ls 5 [(0, .ref (ad 0)), (2, .int u2)] → W p l e (gRm 6) s m args below meth c H locs 0 0 Q (F0 m 95 ls [.int u43, .int u1]) := by
          intro u43 h H locs hW ls hl
          replace h := jn1 e45 h
          refine lv_ior hx hb dX7_whose_95 ?_
          obtain ⟨u47, e48, h⟩ := lz_o h
          refine g_nmi e48 ?_
          refine lv_istore_n (lv' := [(1, .int u47), (0, .ref (ad 0)), (2, .int u2)]) hx hb dX7_whose_96 rfl hl (by decide) rfl (fun ls hl => ?_)
          obtain ⟨u49, e50, h⟩ := lz_o h
          refine lv_iinc (v := u49) (lv' := [(2, .int u49), (1, .int u47), (0, .ref (ad 0))]) hx hb dX7_whose_97 hl (k := 2) rfl (by rw [e50]; rfl) (by decide) rfl (fun ls hl => ?_)
          refine lv_goto (tgt := 4) hx hb dX7_whose_100 (by decide) ?_
          exact ih u47 u49 I40 J41 _ h hn _ _ hW _ (lv_sub hl [2, 1, 0] rfl) hx1
        refine lv_if_eq (tgt := 94) hx hb dX7_whose_85 (by decide) (fun c51 => ?_) (fun c51 => ?_)
        · replace h := gi_t h c51
          refine lv_iconst (v := (0 : Int32)) hx hb dX7_whose_94 (by decide) ?_
          exact hj46 (0 : Int32) h _ _ hW _ (lv_sub hl [0, 2] rfl)
        · replace h := gi_f h c51
          refine lv_iconst (v := (1 : Int32)) hx hb dX7_whose_88 (by decide) ?_
          refine lv_iload_n hx hb dX7_whose_89 rfl (lv_at hl 2 rfl) ?_
          refine g_ishl hx hb dX7_whose_90 ?_
          refine lv_goto (tgt := 95) hx hb dX7_whose_91 (by decide) ?_
          exact hj46 (jshl (1 : Int32) u2) h _ _ hW _ (lv_sub hl [0, 2] rfl)
noncomputable def fX7_whose   (I : gI) (J : gJ) : Option (Int32 × gI × gJ) :=
  bd (fX7_whose_4 FU (0 : Int32) (0 : Int32) I J) (pr (fun (u54 : Int32) => (pr (fun (I55 : gI) (J56 : gJ) => some (u54, I55, J56)))))
set_option maxHeartbeats 4000000 in
set_option maxRecDepth 100000 in
theorem kX7_whose {l : Launch} {G : gG} {ad : Nat → Nat} (hok : gInj LM ad)     (I : gI) (J : gJ) (r : Int32) (I' : gI) (J' : gJ) (h : fX7_whose I J = some (r, I', J')) : gMi l yX7_whose cX7_whose 5 (some .int) 6 G LM ad [.ref (ad 0)] I J r True I' J' := by
  refine gMi_of (lst := [(0, .ref (ad 0))]) (by decide) hok (Nat.le_of_ble_eq_true rfl) rfl ?_
  intro p e s m args below meth c Q ls K hW hl hfin
  have hn : (some (r, I', J') : Option (Int32 × gI × gJ)) ≠ none := Option.some_ne_none _
  have hx := K.1; have hb := K.2.1; have hown := K.2.2.2.1; have hts := K.2.2.2.2.1
  unfold fX7_whose at h
  refine lv_iconst (v := (0 : Int32)) hx hb dX7_whose_0 (by decide) ?_
  refine lv_istore_n (lv' := [(1, .int (0 : Int32)), (0, .ref (ad 0))]) hx hb dX7_whose_1 rfl hl (by decide) rfl (fun ls hl => ?_)
  refine lv_iconst (v := (0 : Int32)) hx hb dX7_whose_2 (by decide) ?_
  refine lv_istore_n (lv' := [(2, .int (0 : Int32)), (1, .int (0 : Int32)), (0, .ref (ad 0))]) hx hb dX7_whose_3 rfl hl (by decide) rfl (fun ls hl => ?_)
  obtain ⟨r52, e53, h⟩ := bd_o h hn
  refine tX7_whose_4 hok K FU (0 : Int32) (0 : Int32) I J (some r52) e53 (Option.some_ne_none _) _ _ hW _ (lv_sub hl [2, 1, 0] rfl) ?_
  · intro u54 I55 J56 q57 H locs hW ls hl
    replace q57 := Option.some.inj q57
    subst q57
    replace h := pr_o h
    replace h := pr_o h
    refine lv_iload_n hx hb dX7_whose_103 rfl (lv_at hl 0 rfl) ?_
    obtain ⟨a1, a2, a3⟩ := so3 h
    replace hW := gWd_nI a2 hW
    replace hW := gWd_nJ a3 hW
    exact g_nmi a1 (hfin _ _ _ _ hW dX7_whose_104)
theorem kLM_2 : gAt LM 2 1 1592 := ⟨by decide, by decide +kernel⟩
theorem rLM_0_1 : LM.2.2 0 1 = some 2 := by decide +kernel
theorem nm_X7_copy : gNm yX7_copy 2 := by decide +kernel
noncomputable def fX7_image   (I : gI) : Option (Int32 × gI) :=
  bd (fX7_copy 1 2 I) (fun (I1 : gI) => some ((I1 1 6), I1))
set_option maxHeartbeats 4000000 in
set_option maxRecDepth 100000 in
theorem kX7_image {l : Launch} {G : gG} {ad : Nat → Nat} (hok : gInj LM ad)     (I : gI) (J : gJ) (r : Int32) (I' : gI) (h : fX7_image I = some (r, I')) : gMi l yX7_image cX7_image 1 (some .int) 2 G LM ad [.ref (ad 0)] I J r True I' J := by
  refine gMi_of (lst := [(0, .ref (ad 0))]) (by decide) hok (Nat.le_of_ble_eq_true rfl) rfl ?_
  intro p e s m args below meth c Q ls K hW hl hfin
  have hn : (some (r, I') : Option (Int32 × gI)) ≠ none := Option.some_ne_none _
  have hx := K.1; have hb := K.2.1; have hown := K.2.2.2.1; have hts := K.2.2.2.2.1
  unfold fX7_image at h
  refine lv_aload_n hx hb dX7_image_0 rfl (lv_at hl 0 rfl) ?_
  refine g_get K hW (t := 2) (ci := 6) (k := 0) (v := .ref (ad 1)) kLM_0 rfl rfl i_X7 (by decide) q_1077 rfl (gfv2 rLM_0_0) dX7_image_1 ?_
  refine lv_aload_n hx hb dX7_image_4 rfl (lv_at hl 0 rfl) ?_
  refine g_get K hW (t := 2) (ci := 6) (k := 1) (v := .ref (ad 2)) kLM_0 rfl rfl i_X7 (by decide) q_1078 rfl (gfv2 rLM_0_1) dX7_image_5 ?_
  obtain ⟨I1, e2, h⟩ := bd_o h hn
  refine g_callSv (rest := []) K hW hl (kX7_copy (l := l) (G := G) (ad := ad) hok 1 2 kLM_1 kLM_2 I J I1 e2) q_1074 q_1075 q_139 q_1076 nm_X7_copy ⟨Nat.le_of_ble_eq_true rfl, Nat.le_of_ble_eq_true rfl⟩ rfl rfl (Nat.le_of_ble_eq_true rfl) ⟨Nat.zero_le _, Nat.zero_le _⟩ dX7_image_8 (fun H locs hW => ?_)
  refine lv_aload_n hx hb dX7_image_11 rfl (lv_at hl 0 rfl) ?_
  refine g_get K hW (t := 2) (ci := 6) (k := 0) (v := .ref (ad 1)) kLM_0 rfl rfl i_X7 (by decide) q_1077 rfl (gfv2 rLM_0_0) dX7_image_12 ?_
  refine lv_bipush (v := (6 : Int32)) hx hb dX7_image_15 (by decide) ?_
  refine g_iald K hW kLM_1 in_6_1592 tn_6 dX7_image_17 ?_
  obtain ⟨a1, a2⟩ := so2 h
  replace hW := gWd_nI a2 hW
  exact g_nmi a1 (hfin _ _ _ _ hW dX7_image_18)
noncomputable def fX7_back   (I : gI) : Option (Int32 × gI) :=
  bd (fX7_copy 2 1 I) (fun (I1 : gI) => some ((I1 1 6), I1))
set_option maxHeartbeats 4000000 in
set_option maxRecDepth 100000 in
theorem kX7_back {l : Launch} {G : gG} {ad : Nat → Nat} (hok : gInj LM ad)     (I : gI) (J : gJ) (r : Int32) (I' : gI) (h : fX7_back I = some (r, I')) : gMi l yX7_back cX7_back 1 (some .int) 2 G LM ad [.ref (ad 0)] I J r True I' J := by
  refine gMi_of (lst := [(0, .ref (ad 0))]) (by decide) hok (Nat.le_of_ble_eq_true rfl) rfl ?_
  intro p e s m args below meth c Q ls K hW hl hfin
  have hn : (some (r, I') : Option (Int32 × gI)) ≠ none := Option.some_ne_none _
  have hx := K.1; have hb := K.2.1; have hown := K.2.2.2.1; have hts := K.2.2.2.2.1
  unfold fX7_back at h
  refine lv_aload_n hx hb dX7_back_0 rfl (lv_at hl 0 rfl) ?_
  refine g_get K hW (t := 2) (ci := 6) (k := 1) (v := .ref (ad 2)) kLM_0 rfl rfl i_X7 (by decide) q_1078 rfl (gfv2 rLM_0_1) dX7_back_1 ?_
  refine lv_aload_n hx hb dX7_back_4 rfl (lv_at hl 0 rfl) ?_
  refine g_get K hW (t := 2) (ci := 6) (k := 0) (v := .ref (ad 1)) kLM_0 rfl rfl i_X7 (by decide) q_1077 rfl (gfv2 rLM_0_0) dX7_back_5 ?_
  obtain ⟨I1, e2, h⟩ := bd_o h hn
  refine g_callSv (rest := []) K hW hl (kX7_copy (l := l) (G := G) (ad := ad) hok 2 1 kLM_2 kLM_1 I J I1 e2) q_1074 q_1075 q_139 q_1076 nm_X7_copy ⟨Nat.le_of_ble_eq_true rfl, Nat.le_of_ble_eq_true rfl⟩ rfl rfl (Nat.le_of_ble_eq_true rfl) ⟨Nat.zero_le _, Nat.zero_le _⟩ dX7_back_8 (fun H locs hW => ?_)
  refine lv_aload_n hx hb dX7_back_11 rfl (lv_at hl 0 rfl) ?_
  refine g_get K hW (t := 2) (ci := 6) (k := 0) (v := .ref (ad 1)) kLM_0 rfl rfl i_X7 (by decide) q_1077 rfl (gfv2 rLM_0_0) dX7_back_12 ?_
  refine lv_bipush (v := (6 : Int32)) hx hb dX7_back_15 (by decide) ?_
  refine g_iald K hW kLM_1 in_6_1592 tn_6 dX7_back_17 ?_
  obtain ⟨a1, a2⟩ := so2 h
  replace hW := gWd_nI a2 hW
  exact g_nmi a1 (hfin _ _ _ _ hW dX7_back_18)
noncomputable def fX7_about  (x1 : Int32) (I : gI) : Option (Int32) :=
  gi ((fX7_isIn x1 (0 : Int32) (5 : Int32)) = 0)
 (gi (x1 = (6 : Int32))
 (some (I 0 4))
 (some (-2 : Int32)))
 (gd (vp_in x1 1592) (some (I 1 (x1).toNatClampNeg)))
set_option maxHeartbeats 4000000 in
set_option maxRecDepth 100000 in
theorem kX7_about {l : Launch} {G : gG} {ad : Nat → Nat} (hok : gInj LM ad)    (x1 : Int32) (I : gI) (J : gJ) (r : Int32) (h : fX7_about x1 I = some r) : gMi l yX7_about cX7_about 2 (some .int) 2 G LM ad [.ref (ad 0), .int x1] I J r True I J := by
  refine gMi_of (lst := [(0, .ref (ad 0)), (1, .int x1)]) (by decide) hok (Nat.le_of_ble_eq_true rfl) rfl ?_
  intro p e s m args below meth c Q ls K hW hl hfin
  have hn : (some r : Option (Int32)) ≠ none := Option.some_ne_none _
  have hx := K.1; have hb := K.2.1; have hown := K.2.2.2.1; have hts := K.2.2.2.2.1
  unfold fX7_about at h
  refine lv_iload_n hx hb dX7_about_0 rfl (lv_at hl 1 rfl) ?_
  refine lv_iconst (v := (0 : Int32)) hx hb dX7_about_1 (by decide) ?_
  refine lv_iconst (v := (5 : Int32)) hx hb dX7_about_2 (by decide) ?_
  refine g_callSi (rest := []) K hW hl (kX7_isIn (l := l) (G := G) (ad := ad) hok x1 (0 : Int32) (5 : Int32) I J (fX7_isIn x1 (0 : Int32) (5 : Int32)) rfl) q_1171 q_1172 q_139 q_1173 nm_X7_isIn ⟨Nat.le_of_ble_eq_true rfl, Nat.le_of_ble_eq_true rfl⟩ rfl rfl (Nat.le_of_ble_eq_true rfl) ⟨Nat.zero_le _, Nat.zero_le _⟩ dX7_about_3 (fun z1 H locs hW => ?_)
  refine lv_if_eq (tgt := 18) hx hb dX7_about_6 (by decide) (fun c2 => ?_) (fun c2 => ?_)
  · replace h := gi_t h c2
    refine lv_iload_n hx hb dX7_about_18 rfl (lv_at hl 1 rfl) ?_
    refine lv_bipush (v := (6 : Int32)) hx hb dX7_about_19 (by decide) ?_
    refine lv_icmp_ne (tgt := 31) hx hb dX7_about_21 (by decide) (fun c3 => ?_) (fun c3 => ?_)
    · replace h := gi_f h c3
      refine lv_bipush (v := (-2 : Int32)) hx hb dX7_about_31 (by decide) ?_
      obtain a1 := so1 h
      exact g_nmi a1 (hfin _ _ _ _ hW dX7_about_33)
    · replace h := gi_t h c3
      refine lv_aload_n hx hb dX7_about_24 rfl (lv_at hl 0 rfl) ?_
      refine g_get K hW (t := 0) (ci := 6) (k := 4) (v := .int (I 0 4)) kLM_0 rfl rfl i_X7 (by decide) q_1081 rfl rfl dX7_about_25 ?_
      refine lv_goto (tgt := 33) hx hb dX7_about_28 (by decide) ?_
      obtain a1 := so1 h
      exact g_nmi a1 (hfin _ _ _ _ hW dX7_about_33)
  · replace h := gi_f h c2
    refine lv_aload_n hx hb dX7_about_9 rfl (lv_at hl 0 rfl) ?_
    refine g_get K hW (t := 2) (ci := 6) (k := 0) (v := .ref (ad 1)) kLM_0 rfl rfl i_X7 (by decide) q_1077 rfl (gfv2 rLM_0_0) dX7_about_10 ?_
    refine lv_iload_n hx hb dX7_about_13 rfl (lv_at hl 1 rfl) ?_
    obtain ⟨g4, h⟩ := gd_o h hn
    refine g_iald K hW kLM_1 g4 rfl dX7_about_14 ?_
    refine lv_goto (tgt := 33) hx hb dX7_about_15 (by decide) ?_
    obtain a1 := so1 h
    exact g_nmi a1 (hfin _ _ _ _ hW dX7_about_33)
