-- 16: what reads the text constant, and above it
theorem nm_J0_charAt_5068e : gNm yJ0_charAt_5068e 1 := by decide +kernel
noncomputable def fX4_ofWord_25b  (rec : Int32 → Int32 → Int32 → Int32 → Int32 → gI → Option ((Int32))) (u9 : Int32) (u10 : Int32) (u11 : Int32) (u12 : Int32) (u13 : Int32) (I : gI) : Option ((Int32)) :=
  gi ((5 : Int32) ≤ u13)
 (some u12)
 (gi (u12 = 0)
 (some u12)
 (lz (fun (u17 : Int32) => bd (fJ0_charAt_5068e ((u11 * (5 : Int32)) + u13)) (fun (u21 : Int32) => lz (fun (u24 : Int32) => lz ((u13 + (1 : Int32))) (fun (u28 : Int32) => rec u9 u10 u11 u24 u28 I)) (fun j25 => gi (u17 = u21)
 (j25 (1 : Int32))
 (j25 (0 : Int32))))) (fun j18 => gi (u10 ≤ u13)
 (j18 (32 : Int32))
 (gd (vp_in (u9 + u13) 300) (j18 (I 274 ((u9 + u13)).toNatClampNeg))))))
noncomputable def fX4_ofWord_25  : Nat → Int32 → Int32 → Int32 → Int32 → Int32 → gI → Option ((Int32))
  | 0 => fun _ _ _ _ _ _ => none
  | n + 1 => fX4_ofWord_25b  (fX4_ofWord_25  n)
set_option maxHeartbeats 4000000 in
set_option maxRecDepth 100000 in
theorem tX4_ofWord_25 {l : Launch} {G : gG} {ad : Nat → Nat} {p : Program} {e : Env} {s : State} {m : MethodId} {args : Array Value} {below : List Frame} {meth : Method} {c : Code} {Q : State → Prop} (hok : gInj LC ad) (K : gCx G (gA LC ad) p s m args c cX4_ofWord 8 RX4)  : ∀ (n : Nat) (u9 : Int32) (u10 : Int32) (u11 : Int32) (u12 : Int32) (u13 : Int32) (I : gI) (J : gJ) (out : Option ((Int32))), fX4_ofWord_25  n u9 u10 u11 u12 u13 I = out → out ≠ none → ∀ (H : Heap) (locs : List Loc), gWd G LC ad (gA LC ad) s.heap I J H locs → ∀ (ls : Array Slot), lv_has ls 8 [(0, .ref (ad 274)), (1, .int u9), (3, .int u10), (4, .int u11), (5, .int u12), (6, .int u13)] → (∀ (y14 : Int32), some y14 = out → ∀ (H : Heap) (locs : List Loc), gWd G LC ad (gA LC ad) s.heap I J H locs → ∀ (ls : Array Slot), lv_has ls 8 [(0, .ref (ad 274)), (1, .int u9), (3, .int u10), (4, .int u11), (5, .int y14)] → W p l e (gRm 5) s m args below meth c H locs 0 0 Q (F0 m 85 ls [])) → W p l e (gRm 5) s m args below meth c H locs 0 0 Q (F0 m 25 ls []) := by
  have hx := K.1; have hb := K.2.1; have hown := K.2.2.2.1; have hts := K.2.2.2.2.1
  intro n
  induction n with
  | zero => intro u9 u10 u11 u12 u13 I J out h hn; exact absurd h.symm hn
  | succ n ih =>
    intro u9 u10 u11 u12 u13 I J out h hn H locs hW ls hl hx1
    replace h : fX4_ofWord_25b  (fX4_ofWord_25  n) u9 u10 u11 u12 u13 I = out := h
    unfold fX4_ofWord_25b at h
    refine lv_iload hx hb dX4_ofWord_25 (lv_at hl 5 rfl) ?_
    refine lv_iconst (v := (5 : Int32)) hx hb dX4_ofWord_27 (by decide) ?_
    refine lv_icmp_ge (tgt := 85) hx hb dX4_ofWord_28 (by decide) (fun c15 => ?_) (fun c15 => ?_)
    · replace h := gi_t h c15
      exact hx1 u12 h _ _ hW _ (lv_sub hl [0, 1, 2, 3, 4] rfl)
    · replace h := gi_f h c15
      refine lv_iload hx hb dX4_ofWord_31 (lv_at hl 4 rfl) ?_
      refine lv_if_eq (tgt := 85) hx hb dX4_ofWord_33 (by decide) (fun c16 => ?_) (fun c16 => ?_)
      · replace h := gi_t h c16
        exact hx1 u12 h _ _ hW _ (lv_sub hl [0, 1, 2, 3, 4] rfl)
      · replace h := gi_f h c16
        refine lv_iload hx hb dX4_ofWord_36 (lv_at hl 5 rfl) ?_
        refine lv_iload_n hx hb dX4_ofWord_38 rfl (lv_at hl 2 rfl) ?_
        obtain ⟨j18, e19, h⟩ := lz_o h
        have hj20 : ∀ (u17 : Int32), j18 u17 = out → ∀ (H : Heap) (locs : List Loc), gWd G LC ad (gA LC ad) s.heap I J H locs → ∀ (ls : Array Slot), lv_has ls 8 [(0, .ref (ad 274)), (1, .int u9), (3, .int u10), (4, .int u11), (6, .int u13)] → W p l e (gRm 5) s m args below meth c H locs 0 0 Q (F0 m 53 ls [.int u17]) := by
          intro u17 h H locs hW ls hl
          replace h := jn1 e19 h
          refine lv_istore (lv' := [(7, .int u17), (0, .ref (ad 274)), (1, .int u9), (3, .int u10), (4, .int u11), (6, .int u13)]) hx hb dX4_ofWord_53 hl (by decide) rfl (fun ls hl => ?_)
          refine lv_iload hx hb dX4_ofWord_55 (lv_at hl 0 rfl) ?_
          refine va_ldcS hx hb hown K.2.2.2.2.2.2.2.2.1 dX4_ofWord_57 ?_
          refine lv_iload hx hb dX4_ofWord_59 (lv_at hl 4 rfl) ?_
          refine lv_iconst (v := (5 : Int32)) hx hb dX4_ofWord_61 (by decide) ?_
          refine lv_imul hx hb dX4_ofWord_62 ?_
          refine lv_iload hx hb dX4_ofWord_63 (lv_at hl 5 rfl) ?_
          refine lv_iadd hx hb dX4_ofWord_65 ?_
          obtain ⟨u21, e22, h⟩ := bd_o h hn
          refine g_callCh (rest := [.int u17]) hok K hW hl e22 q_514 ⟨Nat.le_of_ble_eq_true rfl, Nat.le_of_ble_eq_true rfl⟩ rfl (Nat.le_of_ble_eq_true rfl) ⟨Nat.zero_le _, Nat.zero_le _⟩ dX4_ofWord_66 (fun H locs hW => ?_)
          obtain ⟨j25, e26, h⟩ := lz_o h
          have hj27 : ∀ (u24 : Int32), j25 u24 = out → ∀ (H : Heap) (locs : List Loc), gWd G LC ad (gA LC ad) s.heap I J H locs → ∀ (ls : Array Slot), lv_has ls 8 [(0, .ref (ad 274)), (1, .int u9), (3, .int u10), (4, .int u11), (6, .int u13)] → W p l e (gRm 5) s m args below meth c H locs 0 0 Q (F0 m 77 ls [.int u24]) := by
            intro u24 h H locs hW ls hl
            replace h := jn1 e26 h
            refine lv_istore (lv' := [(5, .int u24), (0, .ref (ad 274)), (1, .int u9), (3, .int u10), (4, .int u11), (6, .int u13)]) hx hb dX4_ofWord_77 hl (by decide) rfl (fun ls hl => ?_)
            obtain ⟨u28, e29, h⟩ := lz_o h
            refine lv_iinc (v := u28) (lv' := [(6, .int u28), (5, .int u24), (0, .ref (ad 274)), (1, .int u9), (3, .int u10), (4, .int u11)]) hx hb dX4_ofWord_79 hl (k := 5) rfl (by rw [e29]; rfl) (by decide) rfl (fun ls hl => ?_)
            refine lv_goto (tgt := 25) hx hb dX4_ofWord_82 (by decide) ?_
            exact ih u9 u10 u11 u24 u28 I J _ h hn _ _ hW _ (lv_sub hl [2, 3, 4, 5, 1, 0] rfl) hx1
          refine lv_icmp_ne (tgt := 76) hx hb dX4_ofWord_69 (by decide) (fun c30 => ?_) (fun c30 => ?_)
          · replace h := gi_f h c30
            refine lv_iconst (v := (0 : Int32)) hx hb dX4_ofWord_76 (by decide) ?_
            exact hj27 (0 : Int32) h _ _ hW _ (lv_sub hl [1, 2, 3, 4, 5] rfl)
          · replace h := gi_t h c30
            refine lv_iconst (v := (1 : Int32)) hx hb dX4_ofWord_72 (by decide) ?_
            refine lv_goto (tgt := 77) hx hb dX4_ofWord_73 (by decide) ?_
            exact hj27 (1 : Int32) h _ _ hW _ (lv_sub hl [1, 2, 3, 4, 5] rfl)
        refine lv_icmp_ge (tgt := 51) hx hb dX4_ofWord_39 (by decide) (fun c31 => ?_) (fun c31 => ?_)
        · replace h := gi_t h c31
          refine lv_bipush (v := (32 : Int32)) hx hb dX4_ofWord_51 (by decide) ?_
          exact hj20 (32 : Int32) h _ _ hW _ (lv_sub hl [0, 1, 2, 3, 5] rfl)
        · replace h := gi_f h c31
          refine lv_aload_n hx hb dX4_ofWord_42 rfl (lv_at hl 0 rfl) ?_
          refine lv_iload_n hx hb dX4_ofWord_43 rfl (lv_at hl 1 rfl) ?_
          refine lv_iload hx hb dX4_ofWord_44 (lv_at hl 5 rfl) ?_
          refine lv_iadd hx hb dX4_ofWord_46 ?_
          obtain ⟨g32, h⟩ := gd_o h hn
          refine g_cald K hW kLC_274 g32 rfl dX4_ofWord_47 ?_
          refine lv_goto (tgt := 53) hx hb dX4_ofWord_48 (by decide) ?_
          exact hj20 (I 274 ((u9 + u13)).toNatClampNeg) h _ _ hW _ (lv_sub hl [0, 1, 2, 3, 5] rfl)
noncomputable def fX4_ofWord_7b  (rec : Int32 → Int32 → Int32 → gI → Option ((Int32) ⊕ (Unit))) (u3 : Int32) (u4 : Int32) (u5 : Int32) (I : gI) : Option ((Int32) ⊕ (Unit)) :=
  gi ((24 : Int32) ≤ u5)
 (some (Sum.inr ()))
 (gi ((5 : Int32) < u4)
 (some (Sum.inr ()))
 (bd (fX4_ofWord_25 FU u3 u4 u5 (1 : Int32) (0 : Int32) I) (fun (u35 : Int32) => gi (u35 = 0)
 (lz ((u5 + (1 : Int32))) (fun (u38 : Int32) => rec u3 u4 u38 I))
 (some (Sum.inl u5)))))
noncomputable def fX4_ofWord_7  : Nat → Int32 → Int32 → Int32 → gI → Option ((Int32) ⊕ (Unit))
  | 0 => fun _ _ _ _ => none
  | n + 1 => fX4_ofWord_7b  (fX4_ofWord_7  n)
set_option maxHeartbeats 4000000 in
set_option maxRecDepth 100000 in
theorem tX4_ofWord_7 {l : Launch} {G : gG} {ad : Nat → Nat} {p : Program} {e : Env} {s : State} {m : MethodId} {args : Array Value} {below : List Frame} {meth : Method} {c : Code} {Q : State → Prop} (hok : gInj LC ad) (K : gCx G (gA LC ad) p s m args c cX4_ofWord 8 RX4)  : ∀ (n : Nat) (u3 : Int32) (u4 : Int32) (u5 : Int32) (I : gI) (J : gJ) (out : Option ((Int32) ⊕ (Unit))), fX4_ofWord_7  n u3 u4 u5 I = out → out ≠ none → ∀ (H : Heap) (locs : List Loc), gWd G LC ad (gA LC ad) s.heap I J H locs → ∀ (ls : Array Slot), lv_has ls 8 [(0, .ref (ad 274)), (1, .int u3), (3, .int u4), (4, .int u5)] → (∀ (y6 : Int32), some (Sum.inl y6) = out → ∀ (H : Heap) (locs : List Loc), gWd G LC ad (gA LC ad) s.heap I J H locs → ∀ (ls : Array Slot), lv_has ls 8 [(4, .int y6)] → W p l e (gRm 5) s m args below meth c H locs 0 0 Q (F0 m 90 ls [])) → (some (Sum.inr ()) = out → ∀ (H : Heap) (locs : List Loc), gWd G LC ad (gA LC ad) s.heap I J H locs → ∀ (ls : Array Slot), lv_has ls 8 [] → W p l e (gRm 5) s m args below meth c H locs 0 0 Q (F0 m 99 ls [])) → W p l e (gRm 5) s m args below meth c H locs 0 0 Q (F0 m 7 ls []) := by
  have hx := K.1; have hb := K.2.1; have hown := K.2.2.2.1; have hts := K.2.2.2.2.1
  intro n
  induction n with
  | zero => intro u3 u4 u5 I J out h hn; exact absurd h.symm hn
  | succ n ih =>
    intro u3 u4 u5 I J out h hn H locs hW ls hl hx1 hx2
    replace h : fX4_ofWord_7b  (fX4_ofWord_7  n) u3 u4 u5 I = out := h
    unfold fX4_ofWord_7b at h
    refine lv_iload hx hb dX4_ofWord_7 (lv_at hl 3 rfl) ?_
    refine lv_bipush (v := (24 : Int32)) hx hb dX4_ofWord_9 (by decide) ?_
    refine lv_icmp_ge (tgt := 99) hx hb dX4_ofWord_11 (by decide) (fun c7 => ?_) (fun c7 => ?_)
    · replace h := gi_t h c7
      exact hx2 h _ _ hW _ (lv_sub hl [] rfl)
    · replace h := gi_f h c7
      refine lv_iload_n hx hb dX4_ofWord_14 rfl (lv_at hl 2 rfl) ?_
      refine lv_iconst (v := (5 : Int32)) hx hb dX4_ofWord_15 (by decide) ?_
      refine lv_icmp_gt (tgt := 99) hx hb dX4_ofWord_16 (by decide) (fun c8 => ?_) (fun c8 => ?_)
      · replace h := gi_t h c8
        exact hx2 h _ _ hW _ (lv_sub hl [] rfl)
      · replace h := gi_f h c8
        refine lv_iconst (v := (1 : Int32)) hx hb dX4_ofWord_19 (by decide) ?_
        refine lv_istore (lv' := [(5, .int (1 : Int32)), (0, .ref (ad 274)), (1, .int u3), (3, .int u4), (4, .int u5)]) hx hb dX4_ofWord_20 hl (by decide) rfl (fun ls hl => ?_)
        refine lv_iconst (v := (0 : Int32)) hx hb dX4_ofWord_22 (by decide) ?_
        refine lv_istore (lv' := [(6, .int (0 : Int32)), (5, .int (1 : Int32)), (0, .ref (ad 274)), (1, .int u3), (3, .int u4), (4, .int u5)]) hx hb dX4_ofWord_23 hl (by decide) rfl (fun ls hl => ?_)
        obtain ⟨r33, e34, h⟩ := bd_o h hn
        refine tX4_ofWord_25 hok K FU u3 u4 u5 (1 : Int32) (0 : Int32) I J (some r33) e34 (Option.some_ne_none _) _ _ hW _ (lv_sub hl [2, 3, 4, 5, 1, 0] rfl) ?_
        · intro u35 q36 H locs hW ls hl
          replace q36 := Option.some.inj q36
          subst q36
          refine lv_iload hx hb dX4_ofWord_85 (lv_at hl 4 rfl) ?_
          refine lv_if_eq (tgt := 93) hx hb dX4_ofWord_87 (by decide) (fun c37 => ?_) (fun c37 => ?_)
          · replace h := gi_t h c37
            obtain ⟨u38, e39, h⟩ := lz_o h
            refine lv_iinc (v := u38) (lv' := [(4, .int u38), (0, .ref (ad 274)), (1, .int u3), (3, .int u4), (5, .int u35)]) hx hb dX4_ofWord_93 hl (k := 3) rfl (by rw [e39]; rfl) (by decide) rfl (fun ls hl => ?_)
            refine lv_goto (tgt := 7) hx hb dX4_ofWord_96 (by decide) ?_
            exact ih u3 u4 u38 I J _ h hn _ _ hW _ (lv_sub hl [1, 2, 3, 0] rfl) hx1 hx2
          · replace h := gi_f h c37
            exact hx1 u5 h _ _ hW _ (lv_sub hl [3] rfl)
noncomputable def fX4_ofWord  (x1 : Int32) (x2 : Int32) (I : gI) : Option (Int32) :=
  lz ((x2 - x1)) (fun (u1 : Int32) => bd (fX4_ofWord_7 FU x1 u1 (0 : Int32) I) (sm (fun (u42 : Int32) => some u42) (fun _ => some (39 : Int32))))
set_option maxHeartbeats 4000000 in
set_option maxRecDepth 100000 in
theorem kX4_ofWord {l : Launch} {G : gG} {ad : Nat → Nat} (hok : gInj LC ad)    (x1 : Int32) (x2 : Int32) (I : gI) (J : gJ) (r : Int32) (h : fX4_ofWord x1 x2 I = some r) : gMi l yX4_ofWord cX4_ofWord 8 (some .int) 5 G LC ad [.ref (ad 274), .int x1, .int x2] I J r True I J := by
  refine gMi_of (lst := [(0, .ref (ad 274)), (1, .int x1), (2, .int x2)]) (by decide) hok (Nat.le_of_ble_eq_true rfl) rfl ?_
  intro p e s m args below meth c Q ls K hW hl hfin
  have hn : (some r : Option (Int32)) ≠ none := Option.some_ne_none _
  have hx := K.1; have hb := K.2.1; have hown := K.2.2.2.1; have hts := K.2.2.2.2.1
  unfold fX4_ofWord at h
  refine lv_iload_n hx hb dX4_ofWord_0 rfl (lv_at hl 2 rfl) ?_
  refine lv_iload_n hx hb dX4_ofWord_1 rfl (lv_at hl 1 rfl) ?_
  refine lv_isub hx hb dX4_ofWord_2 ?_
  obtain ⟨u1, e2, h⟩ := lz_o h
  refine g_nmi e2 ?_
  refine lv_istore_n (lv' := [(3, .int u1), (0, .ref (ad 274)), (1, .int x1), (2, .int x2)]) hx hb dX4_ofWord_3 rfl hl (by decide) rfl (fun ls hl => ?_)
  refine lv_iconst (v := (0 : Int32)) hx hb dX4_ofWord_4 (by decide) ?_
  refine lv_istore (lv' := [(4, .int (0 : Int32)), (3, .int u1), (0, .ref (ad 274)), (1, .int x1), (2, .int x2)]) hx hb dX4_ofWord_5 hl (by decide) rfl (fun ls hl => ?_)
  obtain ⟨r40, e41, h⟩ := bd_o h hn
  refine tX4_ofWord_7 hok K FU x1 u1 (0 : Int32) I J (some r40) e41 (Option.some_ne_none _) _ _ hW _ (lv_sub hl [2, 3, 1, 0] rfl) ?_ ?_
  · intro u42 q43 H locs hW ls hl
    replace q43 := Option.some.inj q43
    subst q43
    replace h := sm_l h
    refine lv_iload hx hb dX4_ofWord_90 (lv_at hl 0 rfl) ?_
    obtain a1 := so1 h
    exact g_nmi a1 (hfin _ _ _ _ hW dX4_ofWord_92)
  · intro q44 H locs hW ls hl
    replace q44 := Option.some.inj q44
    subst q44
    replace h := sm_r h
    refine lv_bipush (v := (39 : Int32)) hx hb dX4_ofWord_99 (by decide) ?_
    obtain a1 := so1 h
    exact g_nmi a1 (hfin _ _ _ _ hW dX4_ofWord_101)
theorem nm_X4_isLetter : gNm yX4_isLetter 1 := by decide +kernel
theorem nm_X4_ofWord : gNm yX4_ofWord 3 := by decide +kernel
noncomputable def fX1_splitWord_3b  (rec : Int32 → Int32 → Int32 → gI → Option ((Int32))) (u1 : Int32) (u2 : Int32) (u3 : Int32) (I : gI) : Option ((Int32)) :=
  gi (u2 ≤ u3)
 (some u3)
 (gd (vp_in u3 300) (gi ((fX4_isLetter (I 274 (u3).toNatClampNeg)) = 0)
 (some u3)
 (lz ((u3 + (1 : Int32))) (fun (u9 : Int32) => rec u1 u2 u9 I))))
noncomputable def fX1_splitWord_3  : Nat → Int32 → Int32 → Int32 → gI → Option ((Int32))
  | 0 => fun _ _ _ _ => none
  | n + 1 => fX1_splitWord_3b  (fX1_splitWord_3  n)
set_option maxHeartbeats 4000000 in
set_option maxRecDepth 100000 in
theorem tX1_splitWord_3 {l : Launch} {G : gG} {ad : Nat → Nat} {p : Program} {e : Env} {s : State} {m : MethodId} {args : Array Value} {below : List Frame} {meth : Method} {c : Code} {Q : State → Prop} (hok : gInj LC ad) (K : gCx G (gA LC ad) p s m args c cX1_splitWord 5 RX1)  : ∀ (n : Nat) (u1 : Int32) (u2 : Int32) (u3 : Int32) (I : gI) (J : gJ) (out : Option ((Int32))), fX1_splitWord_3  n u1 u2 u3 I = out → out ≠ none → ∀ (H : Heap) (locs : List Loc), gWd G LC ad (gA LC ad) s.heap I J H locs → ∀ (ls : Array Slot), lv_has ls 5 [(0, .ref (ad 275)), (1, .ref (ad 274)), (2, .int u1), (3, .int u2), (4, .int u3)] → (∀ (y4 : Int32), some y4 = out → ∀ (H : Heap) (locs : List Loc), gWd G LC ad (gA LC ad) s.heap I J H locs → ∀ (ls : Array Slot), lv_has ls 5 [(0, .ref (ad 275)), (1, .ref (ad 274)), (2, .int u1), (4, .int y4)] → W p l e (gRm 6) s m args below meth c H locs 0 0 Q (F0 m 25 ls [])) → W p l e (gRm 6) s m args below meth c H locs 0 0 Q (F0 m 3 ls []) := by
  have hx := K.1; have hb := K.2.1; have hown := K.2.2.2.1; have hts := K.2.2.2.2.1
  intro n
  induction n with
  | zero => intro u1 u2 u3 I J out h hn; exact absurd h.symm hn
  | succ n ih =>
    intro u1 u2 u3 I J out h hn H locs hW ls hl hx1
    replace h : fX1_splitWord_3b  (fX1_splitWord_3  n) u1 u2 u3 I = out := h
    unfold fX1_splitWord_3b at h
    refine lv_iload hx hb dX1_splitWord_3 (lv_at hl 4 rfl) ?_
    refine lv_iload_n hx hb dX1_splitWord_5 rfl (lv_at hl 3 rfl) ?_
    refine lv_icmp_ge (tgt := 25) hx hb dX1_splitWord_6 (by decide) (fun c5 => ?_) (fun c5 => ?_)
    · replace h := gi_t h c5
      exact hx1 u3 h _ _ hW _ (lv_sub hl [0, 1, 2, 4] rfl)
    · replace h := gi_f h c5
      refine lv_aload_n hx hb dX1_splitWord_9 rfl (lv_at hl 1 rfl) ?_
      refine lv_iload hx hb dX1_splitWord_10 (lv_at hl 4 rfl) ?_
      obtain ⟨g6, h⟩ := gd_o h hn
      refine g_cald K hW kLC_274 g6 rfl dX1_splitWord_12 ?_
      refine g_callSi (rest := []) K hW hl (kX4_isLetter (l := l) (G := G) (ad := ad) hok (I 274 (u3).toNatClampNeg) I J (fX4_isLetter (I 274 (u3).toNatClampNeg)) rfl) q_503 q_504 q_140 q_505 nm_X4_isLetter ⟨Nat.le_of_ble_eq_true rfl, Nat.le_of_ble_eq_true rfl⟩ rfl rfl (Nat.le_of_ble_eq_true rfl) ⟨Nat.zero_le _, Nat.zero_le _⟩ dX1_splitWord_13 (fun z7 H locs hW => ?_)
      refine lv_if_eq (tgt := 25) hx hb dX1_splitWord_16 (by decide) (fun c8 => ?_) (fun c8 => ?_)
      · replace h := gi_t h c8
        exact hx1 u3 h _ _ hW _ (lv_sub hl [0, 1, 2, 4] rfl)
      · replace h := gi_f h c8
        obtain ⟨u9, e10, h⟩ := lz_o h
        refine lv_iinc (v := u9) (lv' := [(4, .int u9), (0, .ref (ad 275)), (1, .ref (ad 274)), (2, .int u1), (3, .int u2)]) hx hb dX1_splitWord_19 hl (k := 4) rfl (by rw [e10]; rfl) (by decide) rfl (fun ls hl => ?_)
        refine lv_goto (tgt := 3) hx hb dX1_splitWord_22 (by decide) ?_
        exact ih u1 u2 u9 I J _ h hn _ _ hW _ (lv_sub hl [1, 2, 3, 4, 0] rfl) hx1
noncomputable def fX1_splitWord  (x2 : Int32) (x3 : Int32) (I : gI) : Option (Int32 × gI) :=
  bd (fX1_splitWord_3 FU x2 x3 x2 I) (fun (u13 : Int32) => bd (fX4_ofWord x2 u13 I) (fun (u15 : Int32) => bd (fX1_put u15 (0 : Int32) x2 I) (fun (I18 : gI) => some (u13, I18))))
set_option maxHeartbeats 4000000 in
set_option maxRecDepth 100000 in
theorem kX1_splitWord {l : Launch} {G : gG} {ad : Nat → Nat} (hok : gInj LC ad)    (x2 : Int32) (x3 : Int32) (I : gI) (J : gJ) (r : Int32) (I' : gI) (h : fX1_splitWord x2 x3 I = some (r, I')) : gMi l yX1_splitWord cX1_splitWord 5 (some .int) 6 G LC ad [.ref (ad 275), .ref (ad 274), .int x2, .int x3] I J r True I' J := by
  refine gMi_of (lst := [(0, .ref (ad 275)), (1, .ref (ad 274)), (2, .int x2), (3, .int x3)]) (by decide) hok (Nat.le_of_ble_eq_true rfl) rfl ?_
  intro p e s m args below meth c Q ls K hW hl hfin
  have hn : (some (r, I') : Option (Int32 × gI)) ≠ none := Option.some_ne_none _
  have hx := K.1; have hb := K.2.1; have hown := K.2.2.2.1; have hts := K.2.2.2.2.1
  unfold fX1_splitWord at h
  refine lv_iload_n hx hb dX1_splitWord_0 rfl (lv_at hl 2 rfl) ?_
  refine lv_istore (lv' := [(4, .int x2), (0, .ref (ad 275)), (1, .ref (ad 274)), (2, .int x2), (3, .int x3)]) hx hb dX1_splitWord_1 hl (by decide) rfl (fun ls hl => ?_)
  obtain ⟨r11, e12, h⟩ := bd_o h hn
  refine tX1_splitWord_3 hok K FU x2 x3 x2 I J (some r11) e12 (Option.some_ne_none _) _ _ hW _ (lv_sub hl [1, 2, 3, 4, 0] rfl) ?_
  · intro u13 q14 H locs hW ls hl
    replace q14 := Option.some.inj q14
    subst q14
    refine lv_aload_n hx hb dX1_splitWord_25 rfl (lv_at hl 0 rfl) ?_
    refine lv_aload_n hx hb dX1_splitWord_26 rfl (lv_at hl 1 rfl) ?_
    refine lv_iload_n hx hb dX1_splitWord_27 rfl (lv_at hl 2 rfl) ?_
    refine lv_iload hx hb dX1_splitWord_28 (lv_at hl 3 rfl) ?_
    obtain ⟨u15, e16, h⟩ := bd_o h hn
    refine g_callSi (rest := [.ref (ad 275)]) K hW hl (kX4_ofWord (l := l) (G := G) (ad := ad) hok x2 u13 I J u15 e16) q_510 q_511 q_140 q_512 nm_X4_ofWord ⟨Nat.le_of_ble_eq_true rfl, Nat.le_of_ble_eq_true rfl⟩ rfl rfl (Nat.le_of_ble_eq_true rfl) ⟨Nat.zero_le _, Nat.zero_le _⟩ dX1_splitWord_30 (fun z17 H locs hW => ?_)
    refine lv_iconst (v := (0 : Int32)) hx hb dX1_splitWord_33 (by decide) ?_
    refine lv_iload_n hx hb dX1_splitWord_34 rfl (lv_at hl 2 rfl) ?_
    obtain ⟨I18, e19, h⟩ := bd_o h hn
    refine g_callVv (rest := []) K hW hl (kX1_put (l := l) (G := G) (ad := ad) hok u15 (0 : Int32) x2 I J I18 e19) kLC_275 rfl (gG_V q_554 q_556 q_4 q_136 q_557) nm_X1_put ⟨Nat.le_of_ble_eq_true rfl, Nat.le_of_ble_eq_true rfl⟩ rfl rfl (Nat.le_of_ble_eq_true rfl) ⟨Nat.zero_le _, Nat.zero_le _⟩ dX1_splitWord_35 (fun H locs hW => ?_)
    refine lv_iload hx hb dX1_splitWord_38 (lv_at hl 3 rfl) ?_
    obtain ⟨a1, a2⟩ := so2 h
    replace hW := gWd_nI a2 hW
    exact g_nmi a1 (hfin _ _ _ _ hW dX1_splitWord_40)
theorem nm_X4_ofSign : gNm yX4_ofSign 2 := by decide +kernel
theorem nm_X1_splitNumber : gNm yX1_splitNumber 3 := by decide +kernel
theorem nm_X1_splitWord : gNm yX1_splitWord 3 := by decide +kernel
noncomputable def fX1_split_10b  (rec : Int32 → Int32 → Int32 → gI → Option ((gI))) (u3 : Int32) (u4 : Int32) (u5 : Int32) (I : gI) : Option ((gI)) :=
  gi ((300 : Int32) ≤ u5)
 (some I)
 (gi (u3 ≤ u4)
 (some I)
 (gd (vp_in u4 300) (lz ((I 274 (u4).toNatClampNeg)) (fun (u10 : Int32) => lz (fun (u13 : Int32) => fun (I14 : gI) => lz ((u5 + (1 : Int32))) (fun (u18 : Int32) => rec u3 u13 u18 I14)) (fun j15 => gi ((fX4_isLetter u10) = 0)
 (gi ((fX4_isDigit u10) = 0)
 (lz (lz ((u4 + (1 : Int32))) (fun (u26 : Int32) => j15 u26 I)) (fun j23 => gi (u10 = (32 : Int32))
 (j23)
 (gi (u10 = (10 : Int32))
 (j23)
 (lz (fun (u30 : Int32) => lz ((fX4_ofSign u10 u30)) (fun (u35 : Int32) => bd (fX1_put u35 (0 : Int32) u4 I) (fun (I37 : gI) => lz (fun (u40 : Int32) => lz ((u4 + u40)) (fun (u44 : Int32) => j15 u44 I37)) (fun j41 => lz (j41 (2 : Int32)) (fun j46 => gi (u35 = (25 : Int32))
 (j46)
 (gi (u35 = (26 : Int32))
 (j46)
 (j41 (1 : Int32)))))))) (fun j31 => lz (j31 (0 : Int32)) (fun j51 => gi (u3 ≤ (u4 + (1 : Int32)))
 (j51)
 (gd (vp_in (u4 + (1 : Int32)) 300) (gi ((I 274 ((u4 + (1 : Int32))).toNatClampNeg) = (61 : Int32))
 (j31 (1 : Int32))
 (j51)))))))))
 (bd (fX1_splitNumber u4 u3 I) (pr (fun (u57 : Int32) (I58 : gI) => j15 u57 I58))))
 (bd (fX1_splitWord u4 u3 I) (pr (fun (u61 : Int32) (I62 : gI) => j15 u61 I62))))))))
noncomputable def fX1_split_10  : Nat → Int32 → Int32 → Int32 → gI → Option ((gI))
  | 0 => fun _ _ _ _ => none
  | n + 1 => fX1_split_10b  (fX1_split_10  n)
set_option maxHeartbeats 4000000 in
set_option maxRecDepth 100000 in
theorem tX1_split_10 {l : Launch} {G : gG} {ad : Nat → Nat} {p : Program} {e : Env} {s : State} {m : MethodId} {args : Array Value} {below : List Frame} {meth : Method} {c : Code} {Q : State → Prop} (hok : gInj LC ad) (K : gCx G (gA LC ad) p s m args c cX1_split 8 RX1)  : ∀ (n : Nat) (u3 : Int32) (u4 : Int32) (u5 : Int32) (I : gI) (J : gJ) (out : Option ((gI))), fX1_split_10  n u3 u4 u5 I = out → out ≠ none → ∀ (H : Heap) (locs : List Loc), gWd G LC ad (gA LC ad) s.heap I J H locs → ∀ (ls : Array Slot), lv_has ls 8 [(0, .ref (ad 275)), (1, .ref (ad 274)), (2, .int u3), (3, .int u4), (4, .int u5)] → (∀ (I6 : gI), some I6 = out → ∀ (H : Heap) (locs : List Loc), gWd G LC ad (gA LC ad) s.heap I6 J H locs → ∀ (ls : Array Slot), lv_has ls 8 [(0, .ref (ad 275)), (2, .int u3)] → W p l e (gRm 7) s m args below meth c H locs 0 0 Q (F0 m 155 ls [])) → W p l e (gRm 7) s m args below meth c H locs 0 0 Q (F0 m 10 ls []) := by
  have hx := K.1; have hb := K.2.1; have hown := K.2.2.2.1; have hts := K.2.2.2.2.1
  intro n
  induction n with
  | zero => intro u3 u4 u5 I J out h hn; exact absurd h.symm hn
  | succ n ih =>
    intro u3 u4 u5 I J out h hn H locs hW ls hl hx1
    replace h : fX1_split_10b  (fX1_split_10  n) u3 u4 u5 I = out := h
    unfold fX1_split_10b at h
    refine lv_iload hx hb dX1_split_10 (lv_at hl 4 rfl) ?_
    refine lv_sipush (v := (300 : Int32)) hx hb dX1_split_12 (by decide) ?_
    refine lv_icmp_ge (tgt := 155) hx hb dX1_split_15 (by decide) (fun c7 => ?_) (fun c7 => ?_)
    · replace h := gi_t h c7
      exact hx1 I h _ _ hW _ (lv_sub hl [0, 2] rfl)
    · replace h := gi_f h c7
      refine lv_iload_n hx hb dX1_split_18 rfl (lv_at hl 3 rfl) ?_
      refine lv_iload_n hx hb dX1_split_19 rfl (lv_at hl 2 rfl) ?_
      refine lv_icmp_ge (tgt := 155) hx hb dX1_split_20 (by decide) (fun c8 => ?_) (fun c8 => ?_)
      · replace h := gi_t h c8
        exact hx1 I h _ _ hW _ (lv_sub hl [0, 2] rfl)
      · replace h := gi_f h c8
        refine lv_aload_n hx hb dX1_split_23 rfl (lv_at hl 1 rfl) ?_
        refine lv_iload_n hx hb dX1_split_24 rfl (lv_at hl 3 rfl) ?_
        obtain ⟨g9, h⟩ := gd_o h hn
        refine g_cald K hW kLC_274 g9 rfl dX1_split_25 ?_
        obtain ⟨u10, e11, h⟩ := lz_o h
        refine g_nmi e11 ?_
        refine lv_istore (lv' := [(5, .int u10), (0, .ref (ad 275)), (1, .ref (ad 274)), (2, .int u3), (3, .int u4), (4, .int u5)]) hx hb dX1_split_26 hl (by decide) rfl (fun ls hl => ?_)
        refine lv_iload hx hb dX1_split_28 (lv_at hl 0 rfl) ?_
        refine g_callSi (rest := []) K hW hl (kX4_isLetter (l := l) (G := G) (ad := ad) hok u10 I J (fX4_isLetter u10) rfl) q_503 q_504 q_140 q_505 nm_X4_isLetter ⟨Nat.le_of_ble_eq_true rfl, Nat.le_of_ble_eq_true rfl⟩ rfl rfl (Nat.le_of_ble_eq_true rfl) ⟨Nat.zero_le _, Nat.zero_le _⟩ dX1_split_30 (fun z12 H locs hW => ?_)
        obtain ⟨j15, e16, h⟩ := lz_o h
        have hj17 : ∀ (u13 : Int32) (I14 : gI), j15 u13 I14 = out → ∀ (H : Heap) (locs : List Loc), gWd G LC ad (gA LC ad) s.heap I14 J H locs → ∀ (ls : Array Slot), lv_has ls 8 [(0, .ref (ad 275)), (1, .ref (ad 274)), (2, .int u3), (3, .int u13), (4, .int u5)] → W p l e (gRm 7) s m args below meth c H locs 0 0 Q (F0 m 149 ls []) := by
          intro u13 I14 h H locs hW ls hl
          replace h := jn2 e16 h
          obtain ⟨u18, e19, h⟩ := lz_o h
          refine lv_iinc (v := u18) (lv' := [(4, .int u18), (0, .ref (ad 275)), (1, .ref (ad 274)), (2, .int u3), (3, .int u13)]) hx hb dX1_split_149 hl (k := 4) rfl (by rw [e19]; rfl) (by decide) rfl (fun ls hl => ?_)
          refine lv_goto (tgt := 10) hx hb dX1_split_152 (by decide) ?_
          exact ih u3 u13 u18 I14 J _ h hn _ _ hW _ (lv_sub hl [1, 2, 3, 4, 0] rfl) hx1
        refine lv_if_eq (tgt := 47) hx hb dX1_split_33 (by decide) (fun c20 => ?_) (fun c20 => ?_)
        · replace h := gi_t h c20
          refine lv_iload hx hb dX1_split_47 (lv_at hl 0 rfl) ?_
          refine g_callSi (rest := []) K hW hl (kX4_isDigit (l := l) (G := G) (ad := ad) hok u10 I J (fX4_isDigit u10) rfl) q_558 q_559 q_140 q_560 nm_X4_isDigit ⟨Nat.le_of_ble_eq_true rfl, Nat.le_of_ble_eq_true rfl⟩ rfl rfl (Nat.le_of_ble_eq_true rfl) ⟨Nat.zero_le _, Nat.zero_le _⟩ dX1_split_49 (fun z21 H locs hW => ?_)
          refine lv_if_eq (tgt := 66) hx hb dX1_split_52 (by decide) (fun c22 => ?_) (fun c22 => ?_)
          · replace h := gi_t h c22
            refine lv_iload hx hb dX1_split_66 (lv_at hl 0 rfl) ?_
            refine lv_bipush (v := (32 : Int32)) hx hb dX1_split_68 (by decide) ?_
            obtain ⟨j23, e24, h⟩ := lz_o h
            have hj25 : j23 = out → ∀ (H : Heap) (locs : List Loc), gWd G LC ad (gA LC ad) s.heap I J H locs → ∀ (ls : Array Slot), lv_has ls 8 [(0, .ref (ad 275)), (1, .ref (ad 274)), (2, .int u3), (3, .int u4), (4, .int u5)] → W p l e (gRm 7) s m args below meth c H locs 0 0 Q (F0 m 80 ls []) := by
              intro h H locs hW ls hl
              replace h := jn0 e24 h
              obtain ⟨u26, e27, h⟩ := lz_o h
              refine lv_iinc (v := u26) (lv' := [(3, .int u26), (0, .ref (ad 275)), (1, .ref (ad 274)), (2, .int u3), (4, .int u5)]) hx hb dX1_split_80 hl (k := 3) rfl (by rw [e27]; rfl) (by decide) rfl (fun ls hl => ?_)
              refine lv_goto (tgt := 149) hx hb dX1_split_83 (by decide) ?_
              exact hj17 u26 I h _ _ hW _ (lv_sub hl [1, 2, 3, 0, 4] rfl)
            refine lv_icmp_eq (tgt := 80) hx hb dX1_split_70 (by decide) (fun c28 => ?_) (fun c28 => ?_)
            · replace h := gi_t h c28
              exact hj25 h _ _ hW _ (lv_sub hl [1, 2, 3, 4, 5] rfl)
            · replace h := gi_f h c28
              refine lv_iload hx hb dX1_split_73 (lv_at hl 0 rfl) ?_
              refine lv_bipush (v := (10 : Int32)) hx hb dX1_split_75 (by decide) ?_
              refine lv_icmp_ne (tgt := 86) hx hb dX1_split_77 (by decide) (fun c29 => ?_) (fun c29 => ?_)
              · replace h := gi_f h c29
                refine lv_iload_n hx hb dX1_split_86 rfl (lv_at hl 4 rfl) ?_
                refine lv_iconst (v := (1 : Int32)) hx hb dX1_split_87 (by decide) ?_
                refine lv_iadd hx hb dX1_split_88 ?_
                refine lv_iload_n hx hb dX1_split_89 rfl (lv_at hl 3 rfl) ?_
                obtain ⟨j31, e32, h⟩ := lz_o h
                have hj33 : ∀ (u30 : Int32), j31 u30 = out → ∀ (H : Heap) (locs : List Loc), gWd G LC ad (gA LC ad) s.heap I J H locs → ∀ (ls : Array Slot), lv_has ls 8 [(0, .ref (ad 275)), (1, .ref (ad 274)), (2, .int u3), (3, .int u4), (4, .int u5), (5, .int u10)] → W p l e (gRm 7) s m args below meth c H locs 0 0 Q (F0 m 108 ls [.int u30]) := by
                  intro u30 h H locs hW ls hl
                  replace h := jn1 e32 h
                  refine lv_istore (lv' := [(6, .int u30), (0, .ref (ad 275)), (1, .ref (ad 274)), (2, .int u3), (3, .int u4), (4, .int u5), (5, .int u10)]) hx hb dX1_split_108 hl (by decide) rfl (fun ls hl => ?_)
                  refine lv_iload hx hb dX1_split_110 (lv_at hl 6 rfl) ?_
                  refine lv_iload hx hb dX1_split_112 (lv_at hl 0 rfl) ?_
                  refine g_callSi (rest := []) K hW hl (kX4_ofSign (l := l) (G := G) (ad := ad) hok u10 u30 I J (fX4_ofSign u10 u30) rfl) q_568 q_569 q_140 q_570 nm_X4_ofSign ⟨Nat.le_of_ble_eq_true rfl, Nat.le_of_ble_eq_true rfl⟩ rfl rfl (Nat.le_of_ble_eq_true rfl) ⟨Nat.zero_le _, Nat.zero_le _⟩ dX1_split_114 (fun z34 H locs hW => ?_)
                  obtain ⟨u35, e36, h⟩ := lz_o h
                  refine g_nmi e36 ?_
                  refine lv_istore (lv' := [(7, .int u35), (6, .int u30), (0, .ref (ad 275)), (1, .ref (ad 274)), (2, .int u3), (3, .int u4), (4, .int u5), (5, .int u10)]) hx hb dX1_split_117 hl (by decide) rfl (fun ls hl => ?_)
                  refine lv_aload_n hx hb dX1_split_119 rfl (lv_at hl 2 rfl) ?_
                  refine lv_iload hx hb dX1_split_120 (lv_at hl 0 rfl) ?_
                  refine lv_iconst (v := (0 : Int32)) hx hb dX1_split_122 (by decide) ?_
                  refine lv_iload_n hx hb dX1_split_123 rfl (lv_at hl 5 rfl) ?_
                  obtain ⟨I37, e38, h⟩ := bd_o h hn
                  refine g_callVv (rest := []) K hW hl (kX1_put (l := l) (G := G) (ad := ad) hok u35 (0 : Int32) u4 I J I37 e38) kLC_275 rfl (gG_V q_554 q_556 q_4 q_136 q_557) nm_X1_put ⟨Nat.le_of_ble_eq_true rfl, Nat.le_of_ble_eq_true rfl⟩ rfl rfl (Nat.le_of_ble_eq_true rfl) ⟨Nat.zero_le _, Nat.zero_le _⟩ dX1_split_124 (fun H locs hW => ?_)
                  refine lv_iload_n hx hb dX1_split_127 rfl (lv_at hl 5 rfl) ?_
                  refine lv_iload hx hb dX1_split_128 (lv_at hl 0 rfl) ?_
                  refine lv_bipush (v := (25 : Int32)) hx hb dX1_split_130 (by decide) ?_
                  obtain ⟨j41, e42, h⟩ := lz_o h
                  have hj43 : ∀ (u40 : Int32), j41 u40 = out → ∀ (H : Heap) (locs : List Loc), gWd G LC ad (gA LC ad) s.heap I37 J H locs → ∀ (ls : Array Slot), lv_has ls 8 [(0, .ref (ad 275)), (1, .ref (ad 274)), (2, .int u3), (4, .int u5)] → W p l e (gRm 7) s m args below meth c H locs 0 0 Q (F0 m 147 ls [.int u40, .int u4]) := by
                    intro u40 h H locs hW ls hl
                    replace h := jn1 e42 h
                    refine lv_iadd hx hb dX1_split_147 ?_
                    obtain ⟨u44, e45, h⟩ := lz_o h
                    refine g_nmi e45 ?_
                    refine lv_istore_n (lv' := [(3, .int u44), (0, .ref (ad 275)), (1, .ref (ad 274)), (2, .int u3), (4, .int u5)]) hx hb dX1_split_148 rfl hl (by decide) rfl (fun ls hl => ?_)
                    exact hj17 u44 I37 h _ _ hW _ (lv_sub hl [1, 2, 3, 0, 4] rfl)
                  obtain ⟨j46, e47, h⟩ := lz_o h
                  have hj48 : j46 = out → ∀ (H : Heap) (locs : List Loc), gWd G LC ad (gA LC ad) s.heap I37 J H locs → ∀ (ls : Array Slot), lv_has ls 8 [(0, .ref (ad 275)), (1, .ref (ad 274)), (2, .int u3), (4, .int u5)] → W p l e (gRm 7) s m args below meth c H locs 0 0 Q (F0 m 142 ls [.int u4]) := by
                    intro h H locs hW ls hl
                    replace h := jn0 e47 h
                    refine lv_iconst (v := (2 : Int32)) hx hb dX1_split_142 (by decide) ?_
                    refine lv_goto (tgt := 147) hx hb dX1_split_143 (by decide) ?_
                    exact hj43 (2 : Int32) h _ _ hW _ (lv_sub hl [0, 1, 2, 3] rfl)
                  refine lv_icmp_eq (tgt := 142) hx hb dX1_split_132 (by decide) (fun c49 => ?_) (fun c49 => ?_)
                  · replace h := gi_t h c49
                    exact hj48 h _ _ hW _ (lv_sub hl [2, 3, 4, 6] rfl)
                  · replace h := gi_f h c49
                    refine lv_iload hx hb dX1_split_135 (lv_at hl 0 rfl) ?_
                    refine lv_bipush (v := (26 : Int32)) hx hb dX1_split_137 (by decide) ?_
                    refine lv_icmp_ne (tgt := 146) hx hb dX1_split_139 (by decide) (fun c50 => ?_) (fun c50 => ?_)
                    · replace h := gi_f h c50
                      refine lv_iconst (v := (1 : Int32)) hx hb dX1_split_146 (by decide) ?_
                      exact hj43 (1 : Int32) h _ _ hW _ (lv_sub hl [2, 3, 4, 6] rfl)
                    · replace h := gi_t h c50
                      exact hj48 h _ _ hW _ (lv_sub hl [2, 3, 4, 6] rfl)
                obtain ⟨j51, e52, h⟩ := lz_o h
                have hj53 : j51 = out → ∀ (H : Heap) (locs : List Loc), gWd G LC ad (gA LC ad) s.heap I J H locs → ∀ (ls : Array Slot), lv_has ls 8 [(0, .ref (ad 275)), (1, .ref (ad 274)), (2, .int u3), (3, .int u4), (4, .int u5), (5, .int u10)] → W p l e (gRm 7) s m args below meth c H locs 0 0 Q (F0 m 107 ls []) := by
                  intro h H locs hW ls hl
                  replace h := jn0 e52 h
                  refine lv_iconst (v := (0 : Int32)) hx hb dX1_split_107 (by decide) ?_
                  exact hj33 (0 : Int32) h _ _ hW _ (lv_sub hl [0, 1, 2, 3, 4, 5] rfl)
                refine lv_icmp_ge (tgt := 107) hx hb dX1_split_90 (by decide) (fun c54 => ?_) (fun c54 => ?_)
                · replace h := gi_t h c54
                  exact hj53 h _ _ hW _ (lv_sub hl [1, 2, 3, 4, 5, 0] rfl)
                · replace h := gi_f h c54
                  refine lv_aload_n hx hb dX1_split_93 rfl (lv_at hl 2 rfl) ?_
                  refine lv_iload_n hx hb dX1_split_94 rfl (lv_at hl 4 rfl) ?_
                  refine lv_iconst (v := (1 : Int32)) hx hb dX1_split_95 (by decide) ?_
                  refine lv_iadd hx hb dX1_split_96 ?_
                  obtain ⟨g55, h⟩ := gd_o h hn
                  refine g_cald K hW kLC_274 g55 rfl dX1_split_97 ?_
                  refine lv_bipush (v := (61 : Int32)) hx hb dX1_split_98 (by decide) ?_
                  refine lv_icmp_ne (tgt := 107) hx hb dX1_split_100 (by decide) (fun c56 => ?_) (fun c56 => ?_)
                  · replace h := gi_f h c56
                    exact hj53 h _ _ hW _ (lv_sub hl [1, 2, 3, 4, 5, 0] rfl)
                  · replace h := gi_t h c56
                    refine lv_iconst (v := (1 : Int32)) hx hb dX1_split_103 (by decide) ?_
                    refine lv_goto (tgt := 108) hx hb dX1_split_104 (by decide) ?_
                    exact hj33 (1 : Int32) h _ _ hW _ (lv_sub hl [1, 2, 3, 4, 5, 0] rfl)
              · replace h := gi_t h c29
                exact hj25 h _ _ hW _ (lv_sub hl [1, 2, 3, 4, 5] rfl)
          · replace h := gi_f h c22
            refine lv_aload_n hx hb dX1_split_55 rfl (lv_at hl 1 rfl) ?_
            refine lv_aload_n hx hb dX1_split_56 rfl (lv_at hl 2 rfl) ?_
            refine lv_iload_n hx hb dX1_split_57 rfl (lv_at hl 4 rfl) ?_
            refine lv_iload_n hx hb dX1_split_58 rfl (lv_at hl 3 rfl) ?_
            obtain ⟨⟨u57, I58⟩, e59, h⟩ := bd_o h hn
            replace h := pr_o h
            refine g_callVi (rest := []) K hW hl (kX1_splitNumber (l := l) (G := G) (ad := ad) hok u4 u3 I J u57 I58 e59) kLC_275 rfl (gG_V q_561 q_563 q_5 q_136 q_564) nm_X1_splitNumber ⟨Nat.le_of_ble_eq_true rfl, Nat.le_of_ble_eq_true rfl⟩ rfl rfl (Nat.le_of_ble_eq_true rfl) ⟨Nat.zero_le _, Nat.zero_le _⟩ dX1_split_59 (fun z60 H locs hW => ?_)
            refine lv_istore_n (lv' := [(3, .int u57), (5, .int u10), (0, .ref (ad 275)), (1, .ref (ad 274)), (2, .int u3), (4, .int u5)]) hx hb dX1_split_62 rfl hl (by decide) rfl (fun ls hl => ?_)
            refine lv_goto (tgt := 149) hx hb dX1_split_63 (by decide) ?_
            exact hj17 u57 I58 h _ _ hW _ (lv_sub hl [2, 3, 4, 0, 5] rfl)
        · replace h := gi_f h c20
          refine lv_aload_n hx hb dX1_split_36 rfl (lv_at hl 1 rfl) ?_
          refine lv_aload_n hx hb dX1_split_37 rfl (lv_at hl 2 rfl) ?_
          refine lv_iload_n hx hb dX1_split_38 rfl (lv_at hl 4 rfl) ?_
          refine lv_iload_n hx hb dX1_split_39 rfl (lv_at hl 3 rfl) ?_
          obtain ⟨⟨u61, I62⟩, e63, h⟩ := bd_o h hn
          replace h := pr_o h
          refine g_callVi (rest := []) K hW hl (kX1_splitWord (l := l) (G := G) (ad := ad) hok u4 u3 I J u61 I62 e63) kLC_275 rfl (gG_V q_506 q_508 q_3 q_136 q_509) nm_X1_splitWord ⟨Nat.le_of_ble_eq_true rfl, Nat.le_of_ble_eq_true rfl⟩ rfl rfl (Nat.le_of_ble_eq_true rfl) ⟨Nat.zero_le _, Nat.zero_le _⟩ dX1_split_40 (fun z64 H locs hW => ?_)
          refine lv_istore_n (lv' := [(3, .int u61), (5, .int u10), (0, .ref (ad 275)), (1, .ref (ad 274)), (2, .int u3), (4, .int u5)]) hx hb dX1_split_43 rfl hl (by decide) rfl (fun ls hl => ?_)
          refine lv_goto (tgt := 149) hx hb dX1_split_44 (by decide) ?_
          exact hj17 u61 I62 h _ _ hW _ (lv_sub hl [2, 3, 4, 0, 5] rfl)
noncomputable def fX1_split  (x2 : Int32) (I : gI) : Option (gI) :=
  lz (wI I 275 3 (0 : Int32)) (fun (I1 : gI) => bd (fX1_split_10 FU x2 (0 : Int32) (0 : Int32) I1) (fun (I67 : gI) => bd (fX1_put (40 : Int32) (0 : Int32) x2 I67) (fun (I69 : gI) => some I69)))
set_option maxHeartbeats 4000000 in
set_option maxRecDepth 100000 in
theorem kX1_split {l : Launch} {G : gG} {ad : Nat → Nat} (hok : gInj LC ad)    (x2 : Int32) (I : gI) (J : gJ) (I' : gI) (h : fX1_split x2 I = some I') : gMv l yX1_split cX1_split 8 none 7 G LC ad [.ref (ad 275), .ref (ad 274), .int x2] I J I' J := by
  refine gMv_of (lst := [(0, .ref (ad 275)), (1, .ref (ad 274)), (2, .int x2)]) (by decide) hok (Nat.le_of_ble_eq_true rfl) rfl ?_
  intro p e s m args below meth c Q ls K hW hl hfin
  have hn : (some I' : Option (gI)) ≠ none := Option.some_ne_none _
  have hx := K.1; have hb := K.2.1; have hown := K.2.2.2.1; have hts := K.2.2.2.2.1
  unfold fX1_split at h
  refine lv_aload_n hx hb dX1_split_0 rfl (lv_at hl 0 rfl) ?_
  refine lv_iconst (v := (0 : Int32)) hx hb dX1_split_1 (by decide) ?_
  refine g_putI K hW (ci := 1) (k := 3) kLC_275 rfl rfl i_X1 tyX1_ok nmX1 (by decide) q_353 rfl rfl rfl rfl dX1_split_2 (fun H locs hW => ?_)
  obtain ⟨I1, e2, h⟩ := lz_o h
  replace hW := gWd_nI e2 hW
  refine lv_iconst (v := (0 : Int32)) hx hb dX1_split_5 (by decide) ?_
  refine lv_istore_n (lv' := [(3, .int (0 : Int32)), (0, .ref (ad 275)), (1, .ref (ad 274)), (2, .int x2)]) hx hb dX1_split_6 rfl hl (by decide) rfl (fun ls hl => ?_)
  refine lv_iconst (v := (0 : Int32)) hx hb dX1_split_7 (by decide) ?_
  refine lv_istore (lv' := [(4, .int (0 : Int32)), (3, .int (0 : Int32)), (0, .ref (ad 275)), (1, .ref (ad 274)), (2, .int x2)]) hx hb dX1_split_8 hl (by decide) rfl (fun ls hl => ?_)
  obtain ⟨r65, e66, h⟩ := bd_o h hn
  refine tX1_split_10 hok K FU x2 (0 : Int32) (0 : Int32) I1 J (some r65) e66 (Option.some_ne_none _) _ _ hW _ (lv_sub hl [2, 3, 4, 1, 0] rfl) ?_
  · intro I67 q68 H locs hW ls hl
    replace q68 := Option.some.inj q68
    subst q68
    refine lv_aload_n hx hb dX1_split_155 rfl (lv_at hl 0 rfl) ?_
    refine lv_bipush (v := (40 : Int32)) hx hb dX1_split_156 (by decide) ?_
    refine lv_iconst (v := (0 : Int32)) hx hb dX1_split_158 (by decide) ?_
    refine lv_iload_n hx hb dX1_split_159 rfl (lv_at hl 1 rfl) ?_
    obtain ⟨I69, e70, h⟩ := bd_o h hn
    refine g_callVv (rest := []) K hW hl (kX1_put (l := l) (G := G) (ad := ad) hok (40 : Int32) (0 : Int32) x2 I67 J I69 e70) kLC_275 rfl (gG_V q_554 q_556 q_4 q_136 q_557) nm_X1_put ⟨Nat.le_of_ble_eq_true rfl, Nat.le_of_ble_eq_true rfl⟩ rfl rfl (Nat.le_of_ble_eq_true rfl) ⟨Nat.zero_le _, Nat.zero_le _⟩ dX1_split_160 (fun H locs hW => ?_)
    obtain a1 := so1 h
    replace hW := gWd_nI a1 hW
    exact hfin _ _ _ _ hW dX1_split_163
noncomputable def fX1_lawClause  (x1 : Int32) (I : gI) : Option (Int32 × gI) :=
  gd (gAt LC (I 275 6).toNatClampNeg 0 3) (lz ((I ((I 275 6).toNatClampNeg) 8)) (fun (u2 : Int32) => bd (fX1_sum (0 : Int32) I) (pr (fun (u4 : Int32) (I5 : gI) => gi (u4 = 0)
 (some ((0 : Int32), I5))
 (bd (fX1_takes (37 : Int32) I5) (pr (fun (u9 : Int32) (I10 : gI) => gi (u9 = 0)
 (some ((0 : Int32), I10))
 (gd (gAt LC (I10 275 6).toNatClampNeg 0 3) (gd (vp_in (I10 275 5) 2) (lz (wI I10 (((I10 275 6).toNatClampNeg) + 6) ((I10 275 5)).toNatClampNeg u2) (fun (I17 : gI) => gd (gAt LC (I17 275 6).toNatClampNeg 0 3) (gd (vp_in (I17 275 5) 2) (lz (wI I17 (((I17 275 6).toNatClampNeg) + 7) ((I17 275 5)).toNatClampNeg (I17 ((I17 275 6).toNatClampNeg) 8)) (fun (I21 : gI) => gd (gAt LC (I21 275 6).toNatClampNeg 0 3) (bd (fX3_add ((I21 275 6).toNatClampNeg) x1 (0 : Int32) (0 : Int32) I21) (fun (I23 : gI) => some ((1 : Int32), I23)))))))))))))))))
set_option maxHeartbeats 4000000 in
set_option maxRecDepth 100000 in
theorem kX1_lawClause {l : Launch} {G : gG} {ad : Nat → Nat} (hok : gInj LC ad)    (x1 : Int32) (I : gI) (J : gJ) (r : Int32) (I' : gI) (h : fX1_lawClause x1 I = some (r, I')) : gMi l yX1_lawClause cX1_lawClause 3 (some .boolean) 91 G LC ad [.ref (ad 275), .int x1] I J r (r = 0 ∨ r = 1) I' J := by
  refine gMz_of (lst := [(0, .ref (ad 275)), (1, .int x1)]) (by decide) hok (Nat.le_of_ble_eq_true rfl) rfl ?_
  intro p e s m args below meth c Q ls K hW hl hfin
  have hn : (some (r, I') : Option (Int32 × gI)) ≠ none := Option.some_ne_none _
  have hx := K.1; have hb := K.2.1; have hown := K.2.2.2.1; have hts := K.2.2.2.2.1
  unfold fX1_lawClause at h
  refine lv_aload_n hx hb dX1_lawClause_0 rfl (lv_at hl 0 rfl) ?_
  obtain ⟨g1, h⟩ := gd_o h hn
  refine g_get K hW (t := 3) (ci := 1) (k := 6) (v := .ref (ad ((I 275 6).toNatClampNeg))) kLC_275 rfl rfl i_X1 (by decide) q_356 rfl (gfv3 rLC_275_6) dX1_lawClause_1 ?_
  refine g_get K hW (t := 0) (ci := 3) (k := 8) (v := .int (I ((I 275 6).toNatClampNeg) 8)) g1 rfl rfl i_X3 (by decide) q_329 rfl rfl dX1_lawClause_4 ?_
  obtain ⟨u2, e3, h⟩ := lz_o h
  refine g_nmi e3 ?_
  refine lv_istore_n (lv' := [(2, .int u2), (0, .ref (ad 275)), (1, .int x1)]) hx hb dX1_lawClause_7 rfl hl (by decide) rfl (fun ls hl => ?_)
  refine lv_aload_n hx hb dX1_lawClause_8 rfl (lv_at hl 1 rfl) ?_
  refine lv_iconst (v := (0 : Int32)) hx hb dX1_lawClause_9 (by decide) ?_
  obtain ⟨⟨u4, I5⟩, e6, h⟩ := bd_o h hn
  replace h := pr_o h
  refine g_callVi (rest := []) K hW hl (kX1_sum (l := l) (G := G) (ad := ad) hok (0 : Int32) I J u4 I5 e6) kLC_275 rfl (gG_V q_587 q_589 q_9 q_136 q_590) nm_X1_sum ⟨Nat.le_of_ble_eq_true rfl, Nat.le_of_ble_eq_true rfl⟩ rfl rfl (Nat.le_of_ble_eq_true rfl) ⟨Nat.zero_le _, Nat.zero_le _⟩ dX1_lawClause_10 (fun z7 H locs hW => ?_)
  refine lv_if_eq (tgt := 25) hx hb dX1_lawClause_13 (by decide) (fun c8 => ?_) (fun c8 => ?_)
  · replace h := gi_t h c8
    refine lv_iconst (v := (0 : Int32)) hx hb dX1_lawClause_25 (by decide) ?_
    obtain ⟨a1, a2⟩ := so2 h
    replace hW := gWd_nI a2 hW
    exact g_nmi a1 (hfin _ _ _ _ (a1 ▸ (Or.inl rfl)) hW dX1_lawClause_26)
  · replace h := gi_f h c8
    refine lv_aload_n hx hb dX1_lawClause_16 rfl (lv_at hl 1 rfl) ?_
    refine lv_bipush (v := (37 : Int32)) hx hb dX1_lawClause_17 (by decide) ?_
    obtain ⟨⟨u9, I10⟩, e11, h⟩ := bd_o h hn
    replace h := pr_o h
    refine g_callVi (rest := []) K hW hl (kX1_takes (l := l) (G := G) (ad := ad) hok (37 : Int32) I5 J u9 I10 e11) kLC_275 rfl (gG_V q_616 q_618 q_15 q_136 q_619) nm_X1_takes ⟨Nat.le_of_ble_eq_true rfl, Nat.le_of_ble_eq_true rfl⟩ rfl rfl (Nat.le_of_ble_eq_true rfl) ⟨Nat.zero_le _, Nat.zero_le _⟩ dX1_lawClause_19 (fun z12 H locs hW => ?_)
    refine lv_if_ne (tgt := 27) hx hb dX1_lawClause_22 (by decide) (fun c13 => ?_) (fun c13 => ?_)
    · replace h := gi_f h c13
      refine lv_aload_n hx hb dX1_lawClause_27 rfl (lv_at hl 1 rfl) ?_
      obtain ⟨g14, h⟩ := gd_o h hn
      refine g_get K hW (t := 3) (ci := 1) (k := 6) (v := .ref (ad ((I10 275 6).toNatClampNeg))) kLC_275 rfl rfl i_X1 (by decide) q_356 rfl (gfv3 rLC_275_6) dX1_lawClause_28 ?_
      refine g_get K hW (t := 2) (ci := 3) (k := 5) (v := .ref (ad (((I10 275 6).toNatClampNeg) + 6))) g14 rfl rfl i_X3 (by decide) q_321 rfl (gfv2 (rT_5 g14)) dX1_lawClause_31 ?_
      refine lv_aload_n hx hb dX1_lawClause_34 rfl (lv_at hl 1 rfl) ?_
      refine g_get K hW (t := 0) (ci := 1) (k := 5) (v := .int (I10 275 5)) kLC_275 rfl rfl i_X1 (by decide) q_355 rfl rfl dX1_lawClause_35 ?_
      refine lv_iload_n hx hb dX1_lawClause_38 rfl (lv_at hl 0 rfl) ?_
      obtain ⟨g15, h⟩ := gd_o h hn
      refine g_iast K hW (kT_5 g14) g15 rfl dX1_lawClause_39 (fun H locs hW => ?_)
      obtain ⟨I17, e16, h⟩ := lz_o h
      replace hW := gWd_nI e16 hW
      refine lv_aload_n hx hb dX1_lawClause_40 rfl (lv_at hl 1 rfl) ?_
      obtain ⟨g18, h⟩ := gd_o h hn
      refine g_get K hW (t := 3) (ci := 1) (k := 6) (v := .ref (ad ((I17 275 6).toNatClampNeg))) kLC_275 rfl rfl i_X1 (by decide) q_356 rfl (gfv3 rLC_275_6) dX1_lawClause_41 ?_
      refine g_get K hW (t := 2) (ci := 3) (k := 6) (v := .ref (ad (((I17 275 6).toNatClampNeg) + 7))) g18 rfl rfl i_X3 (by decide) q_324 rfl (gfv2 (rT_6 g18)) dX1_lawClause_44 ?_
      refine lv_aload_n hx hb dX1_lawClause_47 rfl (lv_at hl 1 rfl) ?_
      refine g_get K hW (t := 0) (ci := 1) (k := 5) (v := .int (I17 275 5)) kLC_275 rfl rfl i_X1 (by decide) q_355 rfl rfl dX1_lawClause_48 ?_
      refine lv_aload_n hx hb dX1_lawClause_51 rfl (lv_at hl 1 rfl) ?_
      refine g_get K hW (t := 3) (ci := 1) (k := 6) (v := .ref (ad ((I17 275 6).toNatClampNeg))) kLC_275 rfl rfl i_X1 (by decide) q_356 rfl (gfv3 rLC_275_6) dX1_lawClause_52 ?_
      refine g_get K hW (t := 0) (ci := 3) (k := 8) (v := .int (I17 ((I17 275 6).toNatClampNeg) 8)) g18 rfl rfl i_X3 (by decide) q_329 rfl rfl dX1_lawClause_55 ?_
      obtain ⟨g19, h⟩ := gd_o h hn
      refine g_iast K hW (kT_6 g18) g19 rfl dX1_lawClause_58 (fun H locs hW => ?_)
      obtain ⟨I21, e20, h⟩ := lz_o h
      replace hW := gWd_nI e20 hW
      refine lv_aload_n hx hb dX1_lawClause_59 rfl (lv_at hl 1 rfl) ?_
      obtain ⟨g22, h⟩ := gd_o h hn
      refine g_get K hW (t := 3) (ci := 1) (k := 6) (v := .ref (ad ((I21 275 6).toNatClampNeg))) kLC_275 rfl rfl i_X1 (by decide) q_356 rfl (gfv3 rLC_275_6) dX1_lawClause_60 ?_
      refine lv_iload_n hx hb dX1_lawClause_63 rfl (lv_at hl 2 rfl) ?_
      refine lv_iconst (v := (0 : Int32)) hx hb dX1_lawClause_64 (by decide) ?_
      refine lv_iconst (v := (0 : Int32)) hx hb dX1_lawClause_65 (by decide) ?_
      obtain ⟨I23, e24, h⟩ := bd_o h hn
      refine g_callVv (rest := []) K hW hl (kX3_add (l := l) (G := G) (ad := ad) hok ((I21 275 6).toNatClampNeg) g22 x1 (0 : Int32) (0 : Int32) I21 J I23 e24) g22 rfl (gG_V q_647 q_648 q_649 q_137 q_650) nm_X3_add ⟨Nat.le_of_ble_eq_true rfl, Nat.le_of_ble_eq_true rfl⟩ rfl rfl (Nat.le_of_ble_eq_true rfl) ⟨Nat.zero_le _, Nat.zero_le _⟩ dX1_lawClause_66 (fun H locs hW => ?_)
      refine lv_iconst (v := (1 : Int32)) hx hb dX1_lawClause_69 (by decide) ?_
      obtain ⟨a1, a2⟩ := so2 h
      replace hW := gWd_nI a2 hW
      exact g_nmi a1 (hfin _ _ _ _ (a1 ▸ (Or.inr rfl)) hW dX1_lawClause_70)
    · replace h := gi_t h c13
      refine lv_iconst (v := (0 : Int32)) hx hb dX1_lawClause_25 (by decide) ?_
      obtain ⟨a1, a2⟩ := so2 h
      replace hW := gWd_nI a2 hW
      exact g_nmi a1 (hfin _ _ _ _ (a1 ▸ (Or.inl rfl)) hW dX1_lawClause_26)
theorem nm_X1_lawClause : gNm yX1_lawClause 1 := by decide +kernel
theorem nm_X1_twoNumbers : gNm yX1_twoNumbers 4 := by decide +kernel
theorem nm_X1_oneNumber : gNm yX1_oneNumber 3 := by decide +kernel
noncomputable def fX1_clause   (I : gI) : Option (Int32 × gI) :=
  gd (vp_in (I 275 4) 301) (lz ((I 276 ((I 275 4)).toNatClampNeg)) (fun (u2 : Int32) => gd (gAt LC (I 275 6).toNatClampNeg 0 3) (lz ((I ((I 275 6).toNatClampNeg) 7)) (fun (u5 : Int32) => lz (bd (fX1_fails (1 : Int32) I) (pr (fun (u10 : Int32) (I11 : gI) => some (u10, I11)))) (fun j7 => gi (u2 < 0)
 (j7)
 (gi ((9 : Int32) < u2)
 (j7)
 (gi (u2 = (3 : Int32))
 (j7)
 (gi (u2 = (5 : Int32))
 (j7)
 (lz (fun (u18 : Int32) => lz (wI I 275 5 u18) (fun (I22 : gI) => lz (gi (u5 < (24 : Int32))
 (lz (wI I22 275 4 ((I22 275 4) + (1 : Int32))) (fun (I28 : gI) => gi (u2 = (0 : Int32))
 (bd (fX1_lawClause u2 I28) (pr (fun (u31 : Int32) (I32 : gI) => some (u31, I32))))
 (gi (u2 = (1 : Int32))
 (bd (fX1_lawClause u2 I28) (pr (fun (u36 : Int32) (I37 : gI) => some (u36, I37))))
 (gi (u2 = (2 : Int32))
 (bd (fX1_twoNumbers u2 (11 : Int32) (3 : Int32) (11 : Int32) I28) (pr (fun (u41 : Int32) (I42 : gI) => some (u41, I42))))
 (gi (u2 = (3 : Int32))
 (bd (fX1_oneNumber u2 (0 : Int32) (5 : Int32) I28) (pr (fun (u46 : Int32) (I47 : gI) => some (u46, I47))))
 (gi (u2 = (4 : Int32))
 (bd (fX1_twoNumbers u2 (4 : Int32) (5 : Int32) (9 : Int32) I28) (pr (fun (u51 : Int32) (I52 : gI) => some (u51, I52))))
 (gi (u2 = (5 : Int32))
 (bd (fX1_oneNumber u2 (0 : Int32) (5 : Int32) I28) (pr (fun (u56 : Int32) (I57 : gI) => some (u56, I57))))
 (gi (u2 = (6 : Int32))
 (bd (fX1_oneNumber u2 (0 : Int32) (5 : Int32) I28) (pr (fun (u61 : Int32) (I62 : gI) => some (u61, I62))))
 (gi (u2 = (7 : Int32))
 (bd (fX1_oneNumber u2 (0 : Int32) (11 : Int32) I28) (pr (fun (u66 : Int32) (I67 : gI) => some (u66, I67))))
 (gi (u2 = (8 : Int32))
 (bd (fX1_oneNumber u2 (0 : Int32) (5 : Int32) I28) (pr (fun (u71 : Int32) (I72 : gI) => some (u71, I72))))
 (gi (u2 = (9 : Int32))
 (bd (fX1_oneNumber u2 (1 : Int32) (60 : Int32) I28) (pr (fun (u76 : Int32) (I77 : gI) => some (u76, I77))))
 (bd (fX1_oneNumber u2 (0 : Int32) (5 : Int32) I28) (pr (fun (u80 : Int32) (I81 : gI) => some (u80, I81)))))))))))))))
 (bd (fX1_fails (6 : Int32) I22) (pr (fun (u84 : Int32) (I85 : gI) => some (u84, I85))))) (fun j24 => gi ((1 : Int32) < u2)
 (j24)
 (gd (gAt LC (I22 275 6).toNatClampNeg 0 3) (bd (fX3_rules ((I22 275 6).toNatClampNeg) (I22 275 5) I22) (fun (u90 : Int32) => gi (u90 = 0)
 (j24)
 (bd (fX1_fails (4 : Int32) I22) (pr (fun (u94 : Int32) (I95 : gI) => some (u94, I95)))))))))) (fun j19 => gi (u2 = (1 : Int32))
 (j19 (1 : Int32))
 (j19 (0 : Int32))))))))))))
set_option maxHeartbeats 4000000 in
set_option maxRecDepth 100000 in
theorem kX1_clause {l : Launch} {G : gG} {ad : Nat → Nat} (hok : gInj LC ad)     (I : gI) (J : gJ) (r : Int32) (I' : gI) (h : fX1_clause I = some (r, I')) : gMi l yX1_clause cX1_clause 3 (some .boolean) 92 G LC ad [.ref (ad 275)] I J r (r = 0 ∨ r = 1) I' J := by
  refine gMz_of (lst := [(0, .ref (ad 275))]) (by decide) hok (Nat.le_of_ble_eq_true rfl) rfl ?_
  intro p e s m args below meth c Q ls K hW hl hfin
  have hn : (some (r, I') : Option (Int32 × gI)) ≠ none := Option.some_ne_none _
  have hx := K.1; have hb := K.2.1; have hown := K.2.2.2.1; have hts := K.2.2.2.2.1
  unfold fX1_clause at h
  refine lv_aload_n hx hb dX1_clause_0 rfl (lv_at hl 0 rfl) ?_
  refine g_get K hW (t := 2) (ci := 1) (k := 0) (v := .ref (ad 276)) kLC_275 rfl rfl i_X1 (by decide) q_350 rfl (gfv2 rLC_275_0) dX1_clause_1 ?_
  refine lv_aload_n hx hb dX1_clause_4 rfl (lv_at hl 0 rfl) ?_
  refine g_get K hW (t := 0) (ci := 1) (k := 4) (v := .int (I 275 4)) kLC_275 rfl rfl i_X1 (by decide) q_354 rfl rfl dX1_clause_5 ?_
  obtain ⟨g1, h⟩ := gd_o h hn
  refine g_iald K hW kLC_276 g1 rfl dX1_clause_8 ?_
  obtain ⟨u2, e3, h⟩ := lz_o h
  refine g_nmi e3 ?_
  refine lv_istore_n (lv' := [(1, .int u2), (0, .ref (ad 275))]) hx hb dX1_clause_9 rfl hl (by decide) rfl (fun ls hl => ?_)
  refine lv_aload_n hx hb dX1_clause_10 rfl (lv_at hl 1 rfl) ?_
  obtain ⟨g4, h⟩ := gd_o h hn
  refine g_get K hW (t := 3) (ci := 1) (k := 6) (v := .ref (ad ((I 275 6).toNatClampNeg))) kLC_275 rfl rfl i_X1 (by decide) q_356 rfl (gfv3 rLC_275_6) dX1_clause_11 ?_
  refine g_get K hW (t := 0) (ci := 3) (k := 7) (v := .int (I ((I 275 6).toNatClampNeg) 7)) g4 rfl rfl i_X3 (by decide) q_326 rfl rfl dX1_clause_14 ?_
  obtain ⟨u5, e6, h⟩ := lz_o h
  refine g_nmi e6 ?_
  refine lv_istore_n (lv' := [(2, .int u5), (1, .int u2), (0, .ref (ad 275))]) hx hb dX1_clause_17 rfl hl (by decide) rfl (fun ls hl => ?_)
  refine lv_iload_n hx hb dX1_clause_18 rfl (lv_at hl 1 rfl) ?_
  obtain ⟨j7, e8, h⟩ := lz_o h
  have hj9 : j7 = (some (r, I')) → ∀ (H : Heap) (locs : List Loc), gWd G LC ad (gA LC ad) s.heap I J H locs → ∀ (ls : Array Slot), lv_has ls 3 [(0, .ref (ad 275))] → W p l e (gRm 92) s m args below meth c H locs 0 0 Q (F0 m 38 ls []) := by
    intro h H locs hW ls hl
    replace h := jn0 e8 h
    refine lv_aload_n hx hb dX1_clause_38 rfl (lv_at hl 0 rfl) ?_
    refine lv_iconst (v := (1 : Int32)) hx hb dX1_clause_39 (by decide) ?_
    obtain ⟨⟨u10, I11⟩, e12, h⟩ := bd_o h hn
    replace h := pr_o h
    refine g_callVi (rest := []) K hW hl (kX1_fails (l := l) (G := G) (ad := ad) hok (1 : Int32) I J u10 I11 e12) kLC_275 rfl (gG_V q_575 q_577 q_7 q_136 q_578) nm_X1_fails ⟨Nat.le_of_ble_eq_true rfl, Nat.le_of_ble_eq_true rfl⟩ rfl rfl (Nat.le_of_ble_eq_true rfl) ⟨Nat.zero_le _, Nat.zero_le _⟩ dX1_clause_40 (fun z13 H locs hW => ?_)
    obtain ⟨a1, a2⟩ := so2 h
    replace hW := gWd_nI a2 hW
    exact g_nmi a1 (hfin _ _ _ _ (a1 ▸ z13) hW dX1_clause_43)
  refine lv_if_lt (tgt := 38) hx hb dX1_clause_19 (by decide) (fun c14 => ?_) (fun c14 => ?_)
  · replace h := gi_t h c14
    exact hj9 h _ _ hW _ (lv_sub hl [2] rfl)
  · replace h := gi_f h c14
    refine lv_iload_n hx hb dX1_clause_22 rfl (lv_at hl 1 rfl) ?_
    refine lv_bipush (v := (9 : Int32)) hx hb dX1_clause_23 (by decide) ?_
    refine lv_icmp_gt (tgt := 38) hx hb dX1_clause_25 (by decide) (fun c15 => ?_) (fun c15 => ?_)
    · replace h := gi_t h c15
      exact hj9 h _ _ hW _ (lv_sub hl [2] rfl)
    · replace h := gi_f h c15
      refine lv_iload_n hx hb dX1_clause_28 rfl (lv_at hl 1 rfl) ?_
      refine lv_iconst (v := (3 : Int32)) hx hb dX1_clause_29 (by decide) ?_
      refine lv_icmp_eq (tgt := 38) hx hb dX1_clause_30 (by decide) (fun c16 => ?_) (fun c16 => ?_)
      · replace h := gi_t h c16
        exact hj9 h _ _ hW _ (lv_sub hl [2] rfl)
      · replace h := gi_f h c16
        refine lv_iload_n hx hb dX1_clause_33 rfl (lv_at hl 1 rfl) ?_
        refine lv_iconst (v := (5 : Int32)) hx hb dX1_clause_34 (by decide) ?_
        refine lv_icmp_ne (tgt := 44) hx hb dX1_clause_35 (by decide) (fun c17 => ?_) (fun c17 => ?_)
        · replace h := gi_f h c17
          refine lv_aload_n hx hb dX1_clause_44 rfl (lv_at hl 2 rfl) ?_
          refine lv_iload_n hx hb dX1_clause_45 rfl (lv_at hl 1 rfl) ?_
          refine lv_iconst (v := (1 : Int32)) hx hb dX1_clause_46 (by decide) ?_
          obtain ⟨j19, e20, h⟩ := lz_o h
          have hj21 : ∀ (u18 : Int32), j19 u18 = (some (r, I')) → ∀ (H : Heap) (locs : List Loc), gWd G LC ad (gA LC ad) s.heap I J H locs → ∀ (ls : Array Slot), lv_has ls 3 [(0, .ref (ad 275)), (1, .int u2), (2, .int u5)] → W p l e (gRm 92) s m args below meth c H locs 0 0 Q (F0 m 55 ls [.int u18, .ref (ad 275)]) := by
            intro u18 h H locs hW ls hl
            replace h := jn1 e20 h
            refine g_putI K hW (ci := 1) (k := 5) kLC_275 rfl rfl i_X1 tyX1_ok nmX1 (by decide) q_355 rfl rfl rfl rfl dX1_clause_55 (fun H locs hW => ?_)
            obtain ⟨I22, e23, h⟩ := lz_o h
            replace hW := gWd_nI e23 hW
            refine lv_iload_n hx hb dX1_clause_58 rfl (lv_at hl 1 rfl) ?_
            refine lv_iconst (v := (1 : Int32)) hx hb dX1_clause_59 (by decide) ?_
            obtain ⟨j24, e25, h⟩ := lz_o h
            have hj26 : j24 = (some (r, I')) → ∀ (H : Heap) (locs : List Loc), gWd G LC ad (gA LC ad) s.heap I22 J H locs → ∀ (ls : Array Slot), lv_has ls 3 [(0, .ref (ad 275)), (1, .int u2), (2, .int u5)] → W p l e (gRm 92) s m args below meth c H locs 0 0 Q (F0 m 83 ls []) := by
              intro h H locs hW ls hl
              replace h := jn0 e25 h
              refine lv_iload_n hx hb dX1_clause_83 rfl (lv_at hl 2 rfl) ?_
              refine lv_bipush (v := (24 : Int32)) hx hb dX1_clause_84 (by decide) ?_
              refine lv_icmp_lt (tgt := 96) hx hb dX1_clause_86 (by decide) (fun c27 => ?_) (fun c27 => ?_)
              · replace h := gi_t h c27
                refine lv_aload_n hx hb dX1_clause_96 rfl (lv_at hl 0 rfl) ?_
                refine lv_dup hx hb dX1_clause_97 rfl ?_
                refine g_get K hW (t := 0) (ci := 1) (k := 4) (v := .int (I22 275 4)) kLC_275 rfl rfl i_X1 (by decide) q_354 rfl rfl dX1_clause_98 ?_
                refine lv_iconst (v := (1 : Int32)) hx hb dX1_clause_101 (by decide) ?_
                refine lv_iadd hx hb dX1_clause_102 ?_
                refine g_putI K hW (ci := 1) (k := 4) kLC_275 rfl rfl i_X1 tyX1_ok nmX1 (by decide) q_354 rfl rfl rfl rfl dX1_clause_103 (fun H locs hW => ?_)
                obtain ⟨I28, e29, h⟩ := lz_o h
                replace hW := gWd_nI e29 hW
                refine lv_iload_n hx hb dX1_clause_106 rfl (lv_at hl 1 rfl) ?_
                rcases Classical.em (u2 = (0 : Int32)) with c30 | c30
                · replace h := gi_t h c30
                  refine g_tabIn (k := (0 : Int32)) (tgt := 160) (off := 53) hx hb c30 dX1_clause_107 (by decide) (by decide) (by decide) (by decide) ?_
                  refine lv_aload_n hx hb dX1_clause_160 rfl (lv_at hl 0 rfl) ?_
                  refine lv_iload_n hx hb dX1_clause_161 rfl (lv_at hl 1 rfl) ?_
                  obtain ⟨⟨u31, I32⟩, e33, h⟩ := bd_o h hn
                  replace h := pr_o h
                  refine g_callVi (rest := []) K hW hl (kX1_lawClause (l := l) (G := G) (ad := ad) hok u2 I28 J u31 I32 e33) kLC_275 rfl (gG_V q_583 q_585 q_8 q_136 q_586) nm_X1_lawClause ⟨Nat.le_of_ble_eq_true rfl, Nat.le_of_ble_eq_true rfl⟩ rfl rfl (Nat.le_of_ble_eq_true rfl) ⟨Nat.zero_le _, Nat.zero_le _⟩ dX1_clause_162 (fun z34 H locs hW => ?_)
                  obtain ⟨a1, a2⟩ := so2 h
                  replace hW := gWd_nI a2 hW
                  exact g_nmi a1 (hfin _ _ _ _ (a1 ▸ z34) hW dX1_clause_165)
                · replace h := gi_f h c30
                  rcases Classical.em (u2 = (1 : Int32)) with c35 | c35
                  · replace h := gi_t h c35
                    refine g_tabIn (k := (1 : Int32)) (tgt := 160) (off := 53) hx hb c35 dX1_clause_107 (by decide) (by decide) (by decide) (by decide) ?_
                    refine lv_aload_n hx hb dX1_clause_160 rfl (lv_at hl 0 rfl) ?_
                    refine lv_iload_n hx hb dX1_clause_161 rfl (lv_at hl 1 rfl) ?_
                    obtain ⟨⟨u36, I37⟩, e38, h⟩ := bd_o h hn
                    replace h := pr_o h
                    refine g_callVi (rest := []) K hW hl (kX1_lawClause (l := l) (G := G) (ad := ad) hok u2 I28 J u36 I37 e38) kLC_275 rfl (gG_V q_583 q_585 q_8 q_136 q_586) nm_X1_lawClause ⟨Nat.le_of_ble_eq_true rfl, Nat.le_of_ble_eq_true rfl⟩ rfl rfl (Nat.le_of_ble_eq_true rfl) ⟨Nat.zero_le _, Nat.zero_le _⟩ dX1_clause_162 (fun z39 H locs hW => ?_)
                    obtain ⟨a1, a2⟩ := so2 h
                    replace hW := gWd_nI a2 hW
                    exact g_nmi a1 (hfin _ _ _ _ (a1 ▸ z39) hW dX1_clause_165)
                  · replace h := gi_f h c35
                    rcases Classical.em (u2 = (2 : Int32)) with c40 | c40
                    · replace h := gi_t h c40
                      refine g_tabIn (k := (2 : Int32)) (tgt := 166) (off := 59) hx hb c40 dX1_clause_107 (by decide) (by decide) (by decide) (by decide) ?_
                      refine lv_aload_n hx hb dX1_clause_166 rfl (lv_at hl 0 rfl) ?_
                      refine lv_iload_n hx hb dX1_clause_167 rfl (lv_at hl 1 rfl) ?_
                      refine lv_bipush (v := (11 : Int32)) hx hb dX1_clause_168 (by decide) ?_
                      refine lv_iconst (v := (3 : Int32)) hx hb dX1_clause_170 (by decide) ?_
                      refine lv_bipush (v := (11 : Int32)) hx hb dX1_clause_171 (by decide) ?_
                      obtain ⟨⟨u41, I42⟩, e43, h⟩ := bd_o h hn
                      replace h := pr_o h
                      refine g_callVi (rest := []) K hW hl (kX1_twoNumbers (l := l) (G := G) (ad := ad) hok u2 (11 : Int32) (3 : Int32) (11 : Int32) I28 J u41 I42 e43) kLC_275 rfl (gG_V q_651 q_653 q_21 q_136 q_654) nm_X1_twoNumbers ⟨Nat.le_of_ble_eq_true rfl, Nat.le_of_ble_eq_true rfl⟩ rfl rfl (Nat.le_of_ble_eq_true rfl) ⟨Nat.zero_le _, Nat.zero_le _⟩ dX1_clause_173 (fun z44 H locs hW => ?_)
                      obtain ⟨a1, a2⟩ := so2 h
                      replace hW := gWd_nI a2 hW
                      exact g_nmi a1 (hfin _ _ _ _ (a1 ▸ z44) hW dX1_clause_176)
                    · replace h := gi_f h c40
                      rcases Classical.em (u2 = (3 : Int32)) with c45 | c45
                      · replace h := gi_t h c45
                        refine g_tabIn (k := (3 : Int32)) (tgt := 205) (off := 98) hx hb c45 dX1_clause_107 (by decide) (by decide) (by decide) (by decide) ?_
                        refine lv_aload_n hx hb dX1_clause_205 rfl (lv_at hl 0 rfl) ?_
                        refine lv_iload_n hx hb dX1_clause_206 rfl (lv_at hl 1 rfl) ?_
                        refine lv_iconst (v := (0 : Int32)) hx hb dX1_clause_207 (by decide) ?_
                        refine lv_iconst (v := (5 : Int32)) hx hb dX1_clause_208 (by decide) ?_
                        obtain ⟨⟨u46, I47⟩, e48, h⟩ := bd_o h hn
                        replace h := pr_o h
                        refine g_callVi (rest := []) K hW hl (kX1_oneNumber (l := l) (G := G) (ad := ad) hok u2 (0 : Int32) (5 : Int32) I28 J u46 I47 e48) kLC_275 rfl (gG_V q_655 q_657 q_22 q_136 q_658) nm_X1_oneNumber ⟨Nat.le_of_ble_eq_true rfl, Nat.le_of_ble_eq_true rfl⟩ rfl rfl (Nat.le_of_ble_eq_true rfl) ⟨Nat.zero_le _, Nat.zero_le _⟩ dX1_clause_209 (fun z49 H locs hW => ?_)
                        obtain ⟨a1, a2⟩ := so2 h
                        replace hW := gWd_nI a2 hW
                        exact g_nmi a1 (hfin _ _ _ _ (a1 ▸ z49) hW dX1_clause_212)
                      · replace h := gi_f h c45
                        rcases Classical.em (u2 = (4 : Int32)) with c50 | c50
                        · replace h := gi_t h c50
                          refine g_tabIn (k := (4 : Int32)) (tgt := 177) (off := 70) hx hb c50 dX1_clause_107 (by decide) (by decide) (by decide) (by decide) ?_
                          refine lv_aload_n hx hb dX1_clause_177 rfl (lv_at hl 0 rfl) ?_
                          refine lv_iload_n hx hb dX1_clause_178 rfl (lv_at hl 1 rfl) ?_
                          refine lv_iconst (v := (4 : Int32)) hx hb dX1_clause_179 (by decide) ?_
                          refine lv_iconst (v := (5 : Int32)) hx hb dX1_clause_180 (by decide) ?_
                          refine lv_bipush (v := (9 : Int32)) hx hb dX1_clause_181 (by decide) ?_
                          obtain ⟨⟨u51, I52⟩, e53, h⟩ := bd_o h hn
                          replace h := pr_o h
                          refine g_callVi (rest := []) K hW hl (kX1_twoNumbers (l := l) (G := G) (ad := ad) hok u2 (4 : Int32) (5 : Int32) (9 : Int32) I28 J u51 I52 e53) kLC_275 rfl (gG_V q_651 q_653 q_21 q_136 q_654) nm_X1_twoNumbers ⟨Nat.le_of_ble_eq_true rfl, Nat.le_of_ble_eq_true rfl⟩ rfl rfl (Nat.le_of_ble_eq_true rfl) ⟨Nat.zero_le _, Nat.zero_le _⟩ dX1_clause_183 (fun z54 H locs hW => ?_)
                          obtain ⟨a1, a2⟩ := so2 h
                          replace hW := gWd_nI a2 hW
                          exact g_nmi a1 (hfin _ _ _ _ (a1 ▸ z54) hW dX1_clause_186)
                        · replace h := gi_f h c50
                          rcases Classical.em (u2 = (5 : Int32)) with c55 | c55
                          · replace h := gi_t h c55
                            refine g_tabIn (k := (5 : Int32)) (tgt := 205) (off := 98) hx hb c55 dX1_clause_107 (by decide) (by decide) (by decide) (by decide) ?_
                            refine lv_aload_n hx hb dX1_clause_205 rfl (lv_at hl 0 rfl) ?_
                            refine lv_iload_n hx hb dX1_clause_206 rfl (lv_at hl 1 rfl) ?_
                            refine lv_iconst (v := (0 : Int32)) hx hb dX1_clause_207 (by decide) ?_
                            refine lv_iconst (v := (5 : Int32)) hx hb dX1_clause_208 (by decide) ?_
                            obtain ⟨⟨u56, I57⟩, e58, h⟩ := bd_o h hn
                            replace h := pr_o h
                            refine g_callVi (rest := []) K hW hl (kX1_oneNumber (l := l) (G := G) (ad := ad) hok u2 (0 : Int32) (5 : Int32) I28 J u56 I57 e58) kLC_275 rfl (gG_V q_655 q_657 q_22 q_136 q_658) nm_X1_oneNumber ⟨Nat.le_of_ble_eq_true rfl, Nat.le_of_ble_eq_true rfl⟩ rfl rfl (Nat.le_of_ble_eq_true rfl) ⟨Nat.zero_le _, Nat.zero_le _⟩ dX1_clause_209 (fun z59 H locs hW => ?_)
                            obtain ⟨a1, a2⟩ := so2 h
                            replace hW := gWd_nI a2 hW
                            exact g_nmi a1 (hfin _ _ _ _ (a1 ▸ z59) hW dX1_clause_212)
                          · replace h := gi_f h c55
                            rcases Classical.em (u2 = (6 : Int32)) with c60 | c60
                            · replace h := gi_t h c60
                              refine g_tabIn (k := (6 : Int32)) (tgt := 205) (off := 98) hx hb c60 dX1_clause_107 (by decide) (by decide) (by decide) (by decide) ?_
                              refine lv_aload_n hx hb dX1_clause_205 rfl (lv_at hl 0 rfl) ?_
                              refine lv_iload_n hx hb dX1_clause_206 rfl (lv_at hl 1 rfl) ?_
                              refine lv_iconst (v := (0 : Int32)) hx hb dX1_clause_207 (by decide) ?_
                              refine lv_iconst (v := (5 : Int32)) hx hb dX1_clause_208 (by decide) ?_
                              obtain ⟨⟨u61, I62⟩, e63, h⟩ := bd_o h hn
                              replace h := pr_o h
                              refine g_callVi (rest := []) K hW hl (kX1_oneNumber (l := l) (G := G) (ad := ad) hok u2 (0 : Int32) (5 : Int32) I28 J u61 I62 e63) kLC_275 rfl (gG_V q_655 q_657 q_22 q_136 q_658) nm_X1_oneNumber ⟨Nat.le_of_ble_eq_true rfl, Nat.le_of_ble_eq_true rfl⟩ rfl rfl (Nat.le_of_ble_eq_true rfl) ⟨Nat.zero_le _, Nat.zero_le _⟩ dX1_clause_209 (fun z64 H locs hW => ?_)
                              obtain ⟨a1, a2⟩ := so2 h
                              replace hW := gWd_nI a2 hW
                              exact g_nmi a1 (hfin _ _ _ _ (a1 ▸ z64) hW dX1_clause_212)
                            · replace h := gi_f h c60
                              rcases Classical.em (u2 = (7 : Int32)) with c65 | c65
                              · replace h := gi_t h c65
                                refine g_tabIn (k := (7 : Int32)) (tgt := 187) (off := 80) hx hb c65 dX1_clause_107 (by decide) (by decide) (by decide) (by decide) ?_
                                refine lv_aload_n hx hb dX1_clause_187 rfl (lv_at hl 0 rfl) ?_
                                refine lv_iload_n hx hb dX1_clause_188 rfl (lv_at hl 1 rfl) ?_
                                refine lv_iconst (v := (0 : Int32)) hx hb dX1_clause_189 (by decide) ?_
                                refine lv_bipush (v := (11 : Int32)) hx hb dX1_clause_190 (by decide) ?_
                                obtain ⟨⟨u66, I67⟩, e68, h⟩ := bd_o h hn
                                replace h := pr_o h
                                refine g_callVi (rest := []) K hW hl (kX1_oneNumber (l := l) (G := G) (ad := ad) hok u2 (0 : Int32) (11 : Int32) I28 J u66 I67 e68) kLC_275 rfl (gG_V q_655 q_657 q_22 q_136 q_658) nm_X1_oneNumber ⟨Nat.le_of_ble_eq_true rfl, Nat.le_of_ble_eq_true rfl⟩ rfl rfl (Nat.le_of_ble_eq_true rfl) ⟨Nat.zero_le _, Nat.zero_le _⟩ dX1_clause_192 (fun z69 H locs hW => ?_)
                                obtain ⟨a1, a2⟩ := so2 h
                                replace hW := gWd_nI a2 hW
                                exact g_nmi a1 (hfin _ _ _ _ (a1 ▸ z69) hW dX1_clause_195)
                              · replace h := gi_f h c65
                                rcases Classical.em (u2 = (8 : Int32)) with c70 | c70
                                · replace h := gi_t h c70
                                  refine g_tabIn (k := (8 : Int32)) (tgt := 205) (off := 98) hx hb c70 dX1_clause_107 (by decide) (by decide) (by decide) (by decide) ?_
                                  refine lv_aload_n hx hb dX1_clause_205 rfl (lv_at hl 0 rfl) ?_
                                  refine lv_iload_n hx hb dX1_clause_206 rfl (lv_at hl 1 rfl) ?_
                                  refine lv_iconst (v := (0 : Int32)) hx hb dX1_clause_207 (by decide) ?_
                                  refine lv_iconst (v := (5 : Int32)) hx hb dX1_clause_208 (by decide) ?_
                                  obtain ⟨⟨u71, I72⟩, e73, h⟩ := bd_o h hn
                                  replace h := pr_o h
                                  refine g_callVi (rest := []) K hW hl (kX1_oneNumber (l := l) (G := G) (ad := ad) hok u2 (0 : Int32) (5 : Int32) I28 J u71 I72 e73) kLC_275 rfl (gG_V q_655 q_657 q_22 q_136 q_658) nm_X1_oneNumber ⟨Nat.le_of_ble_eq_true rfl, Nat.le_of_ble_eq_true rfl⟩ rfl rfl (Nat.le_of_ble_eq_true rfl) ⟨Nat.zero_le _, Nat.zero_le _⟩ dX1_clause_209 (fun z74 H locs hW => ?_)
                                  obtain ⟨a1, a2⟩ := so2 h
                                  replace hW := gWd_nI a2 hW
                                  exact g_nmi a1 (hfin _ _ _ _ (a1 ▸ z74) hW dX1_clause_212)
                                · replace h := gi_f h c70
                                  rcases Classical.em (u2 = (9 : Int32)) with c75 | c75
                                  · replace h := gi_t h c75
                                    refine g_tabIn (k := (9 : Int32)) (tgt := 196) (off := 89) hx hb c75 dX1_clause_107 (by decide) (by decide) (by decide) (by decide) ?_
                                    refine lv_aload_n hx hb dX1_clause_196 rfl (lv_at hl 0 rfl) ?_
                                    refine lv_iload_n hx hb dX1_clause_197 rfl (lv_at hl 1 rfl) ?_
                                    refine lv_iconst (v := (1 : Int32)) hx hb dX1_clause_198 (by decide) ?_
                                    refine lv_bipush (v := (60 : Int32)) hx hb dX1_clause_199 (by decide) ?_
                                    obtain ⟨⟨u76, I77⟩, e78, h⟩ := bd_o h hn
                                    replace h := pr_o h
                                    refine g_callVi (rest := []) K hW hl (kX1_oneNumber (l := l) (G := G) (ad := ad) hok u2 (1 : Int32) (60 : Int32) I28 J u76 I77 e78) kLC_275 rfl (gG_V q_655 q_657 q_22 q_136 q_658) nm_X1_oneNumber ⟨Nat.le_of_ble_eq_true rfl, Nat.le_of_ble_eq_true rfl⟩ rfl rfl (Nat.le_of_ble_eq_true rfl) ⟨Nat.zero_le _, Nat.zero_le _⟩ dX1_clause_201 (fun z79 H locs hW => ?_)
                                    obtain ⟨a1, a2⟩ := so2 h
                                    replace hW := gWd_nI a2 hW
                                    exact g_nmi a1 (hfin _ _ _ _ (a1 ▸ z79) hW dX1_clause_204)
                                  · replace h := gi_f h c75
                                    refine lv_tableOut (tgt := 205) hx hb dX1_clause_107 (by have := lv_neT (a := 0) c30 (by decide); have := lv_neT (a := 1) c35 (by decide); have := lv_neT (a := 2) c40 (by decide); have := lv_neT (a := 3) c45 (by decide); have := lv_neT (a := 4) c50 (by decide); have := lv_neT (a := 5) c55 (by decide); have := lv_neT (a := 6) c60 (by decide); have := lv_neT (a := 7) c65 (by decide); have := lv_neT (a := 8) c70 (by decide); have := lv_neT (a := 9) c75 (by decide); omega) (by decide) ?_
                                    refine lv_aload_n hx hb dX1_clause_205 rfl (lv_at hl 0 rfl) ?_
                                    refine lv_iload_n hx hb dX1_clause_206 rfl (lv_at hl 1 rfl) ?_
                                    refine lv_iconst (v := (0 : Int32)) hx hb dX1_clause_207 (by decide) ?_
                                    refine lv_iconst (v := (5 : Int32)) hx hb dX1_clause_208 (by decide) ?_
                                    obtain ⟨⟨u80, I81⟩, e82, h⟩ := bd_o h hn
                                    replace h := pr_o h
                                    refine g_callVi (rest := []) K hW hl (kX1_oneNumber (l := l) (G := G) (ad := ad) hok u2 (0 : Int32) (5 : Int32) I28 J u80 I81 e82) kLC_275 rfl (gG_V q_655 q_657 q_22 q_136 q_658) nm_X1_oneNumber ⟨Nat.le_of_ble_eq_true rfl, Nat.le_of_ble_eq_true rfl⟩ rfl rfl (Nat.le_of_ble_eq_true rfl) ⟨Nat.zero_le _, Nat.zero_le _⟩ dX1_clause_209 (fun z83 H locs hW => ?_)
                                    obtain ⟨a1, a2⟩ := so2 h
                                    replace hW := gWd_nI a2 hW
                                    exact g_nmi a1 (hfin _ _ _ _ (a1 ▸ z83) hW dX1_clause_212)
              · replace h := gi_f h c27
                refine lv_aload_n hx hb dX1_clause_89 rfl (lv_at hl 0 rfl) ?_
                refine lv_bipush (v := (6 : Int32)) hx hb dX1_clause_90 (by decide) ?_
                obtain ⟨⟨u84, I85⟩, e86, h⟩ := bd_o h hn
                replace h := pr_o h
                refine g_callVi (rest := []) K hW hl (kX1_fails (l := l) (G := G) (ad := ad) hok (6 : Int32) I22 J u84 I85 e86) kLC_275 rfl (gG_V q_575 q_577 q_7 q_136 q_578) nm_X1_fails ⟨Nat.le_of_ble_eq_true rfl, Nat.le_of_ble_eq_true rfl⟩ rfl rfl (Nat.le_of_ble_eq_true rfl) ⟨Nat.zero_le _, Nat.zero_le _⟩ dX1_clause_92 (fun z87 H locs hW => ?_)
                obtain ⟨a1, a2⟩ := so2 h
                replace hW := gWd_nI a2 hW
                exact g_nmi a1 (hfin _ _ _ _ (a1 ▸ z87) hW dX1_clause_95)
            refine lv_icmp_gt (tgt := 83) hx hb dX1_clause_60 (by decide) (fun c88 => ?_) (fun c88 => ?_)
            · replace h := gi_t h c88
              exact hj26 h _ _ hW _ (lv_sub hl [0, 1, 2] rfl)
            · replace h := gi_f h c88
              refine lv_aload_n hx hb dX1_clause_63 rfl (lv_at hl 0 rfl) ?_
              obtain ⟨g89, h⟩ := gd_o h hn
              refine g_get K hW (t := 3) (ci := 1) (k := 6) (v := .ref (ad ((I22 275 6).toNatClampNeg))) kLC_275 rfl rfl i_X1 (by decide) q_356 rfl (gfv3 rLC_275_6) dX1_clause_64 ?_
              refine lv_aload_n hx hb dX1_clause_67 rfl (lv_at hl 0 rfl) ?_
              refine g_get K hW (t := 0) (ci := 1) (k := 5) (v := .int (I22 275 5)) kLC_275 rfl rfl i_X1 (by decide) q_355 rfl rfl dX1_clause_68 ?_
              obtain ⟨u90, e91, h⟩ := bd_o h hn
              refine g_callVi (rest := []) K hW hl (kX3_rules (l := l) (G := G) (ad := ad) hok ((I22 275 6).toNatClampNeg) g89 (I22 275 5) I22 J u90 e91) g89 rfl (gG_V q_579 q_580 q_581 q_137 q_582) nm_X3_rules ⟨Nat.le_of_ble_eq_true rfl, Nat.le_of_ble_eq_true rfl⟩ rfl rfl (Nat.le_of_ble_eq_true rfl) ⟨Nat.zero_le _, Nat.zero_le _⟩ dX1_clause_71 (fun z92 H locs hW => ?_)
              refine lv_if_eq (tgt := 83) hx hb dX1_clause_74 (by decide) (fun c93 => ?_) (fun c93 => ?_)
              · replace h := gi_t h c93
                exact hj26 h _ _ hW _ (lv_sub hl [0, 1, 2] rfl)
              · replace h := gi_f h c93
                refine lv_aload_n hx hb dX1_clause_77 rfl (lv_at hl 0 rfl) ?_
                refine lv_iconst (v := (4 : Int32)) hx hb dX1_clause_78 (by decide) ?_
                obtain ⟨⟨u94, I95⟩, e96, h⟩ := bd_o h hn
                replace h := pr_o h
                refine g_callVi (rest := []) K hW hl (kX1_fails (l := l) (G := G) (ad := ad) hok (4 : Int32) I22 J u94 I95 e96) kLC_275 rfl (gG_V q_575 q_577 q_7 q_136 q_578) nm_X1_fails ⟨Nat.le_of_ble_eq_true rfl, Nat.le_of_ble_eq_true rfl⟩ rfl rfl (Nat.le_of_ble_eq_true rfl) ⟨Nat.zero_le _, Nat.zero_le _⟩ dX1_clause_79 (fun z97 H locs hW => ?_)
                obtain ⟨a1, a2⟩ := so2 h
                replace hW := gWd_nI a2 hW
                exact g_nmi a1 (hfin _ _ _ _ (a1 ▸ z97) hW dX1_clause_82)
          refine lv_icmp_ne (tgt := 54) hx hb dX1_clause_47 (by decide) (fun c98 => ?_) (fun c98 => ?_)
          · replace h := gi_f h c98
            refine lv_iconst (v := (0 : Int32)) hx hb dX1_clause_54 (by decide) ?_
            exact hj21 (0 : Int32) h _ _ hW _ (lv_sub hl [2, 1, 0] rfl)
          · replace h := gi_t h c98
            refine lv_iconst (v := (1 : Int32)) hx hb dX1_clause_50 (by decide) ?_
            refine lv_goto (tgt := 55) hx hb dX1_clause_51 (by decide) ?_
            exact hj21 (1 : Int32) h _ _ hW _ (lv_sub hl [2, 1, 0] rfl)
        · replace h := gi_t h c17
          exact hj9 h _ _ hW _ (lv_sub hl [2] rfl)
theorem nm_X3_clear : gNm yX3_clear 0 := by decide +kernel
theorem nm_X1_split : gNm yX1_split 2 := by decide +kernel
theorem nm_X1_clause : gNm yX1_clause 0 := by decide +kernel
noncomputable def fX1_reads_63b (t0 : Nat) (rec : Int32 → gI → Option ((gI) ⊕ (gI))) (u19 : Int32) (I : gI) : Option ((gI) ⊕ (gI)) :=
  gi ((24 : Int32) < u19)
 (some (Sum.inr I))
 (gd (vp_in (I 275 4) 301) (gi ((I 276 ((I 275 4)).toNatClampNeg) = (40 : Int32))
 (some (Sum.inr I))
 (bd (fX1_clause I) (pr (fun (u25 : Int32) (I26 : gI) => gi (u25 = 0)
 (some (Sum.inl I26))
 (lz ((u19 + (1 : Int32))) (fun (u30 : Int32) => rec u30 I26)))))))
noncomputable def fX1_reads_63 (t0 : Nat) : Nat → Int32 → gI → Option ((gI) ⊕ (gI))
  | 0 => fun _ _ => none
  | n + 1 => fX1_reads_63b t0 (fX1_reads_63 t0 n)
set_option maxHeartbeats 4000000 in
set_option maxRecDepth 100000 in
theorem tX1_reads_63 {l : Launch} {G : gG} {ad : Nat → Nat} {p : Program} {e : Env} {s : State} {m : MethodId} {args : Array Value} {below : List Frame} {meth : Method} {c : Code} {Q : State → Prop} (hok : gInj LC ad) (K : gCx G (gA LC ad) p s m args c cX1_reads 5 RX1) (t0 : Nat) (ht0 : gAt LC t0 0 3) : ∀ (n : Nat) (u19 : Int32) (I : gI) (J : gJ) (out : Option ((gI) ⊕ (gI))), fX1_reads_63 t0 n u19 I = out → out ≠ none → ∀ (H : Heap) (locs : List Loc), gWd G LC ad (gA LC ad) s.heap I J H locs → ∀ (ls : Array Slot), lv_has ls 5 [(0, .ref (ad 275)), (4, .int u19)] → (∀ (I20 : gI), some (Sum.inl I20) = out → ∀ (H : Heap) (locs : List Loc), gWd G LC ad (gA LC ad) s.heap I20 J H locs → ∀ (ls : Array Slot), lv_has ls 5 [] → W p l e (gRm 93) s m args below meth c H locs 0 0 Q (F0 m 91 ls [])) → (∀ (I21 : gI), some (Sum.inr I21) = out → ∀ (H : Heap) (locs : List Loc), gWd G LC ad (gA LC ad) s.heap I21 J H locs → ∀ (ls : Array Slot), lv_has ls 5 [] → W p l e (gRm 93) s m args below meth c H locs 0 0 Q (F0 m 99 ls [])) → W p l e (gRm 93) s m args below meth c H locs 0 0 Q (F0 m 63 ls []) := by
  have hx := K.1; have hb := K.2.1; have hown := K.2.2.2.1; have hts := K.2.2.2.2.1
  intro n
  induction n with
  | zero => intro u19 I J out h hn; exact absurd h.symm hn
  | succ n ih =>
    intro u19 I J out h hn H locs hW ls hl hx1 hx2
    replace h : fX1_reads_63b t0 (fX1_reads_63 t0 n) u19 I = out := h
    unfold fX1_reads_63b at h
    refine lv_iload hx hb dX1_reads_63 (lv_at hl 1 rfl) ?_
    refine lv_bipush (v := (24 : Int32)) hx hb dX1_reads_65 (by decide) ?_
    refine lv_icmp_gt (tgt := 99) hx hb dX1_reads_67 (by decide) (fun c22 => ?_) (fun c22 => ?_)
    · replace h := gi_t h c22
      exact hx2 I h _ _ hW _ (lv_sub hl [] rfl)
    · replace h := gi_f h c22
      refine lv_aload_n hx hb dX1_reads_70 rfl (lv_at hl 0 rfl) ?_
      refine g_get K hW (t := 2) (ci := 1) (k := 0) (v := .ref (ad 276)) kLC_275 rfl rfl i_X1 (by decide) q_350 rfl (gfv2 rLC_275_0) dX1_reads_71 ?_
      refine lv_aload_n hx hb dX1_reads_74 rfl (lv_at hl 0 rfl) ?_
      refine g_get K hW (t := 0) (ci := 1) (k := 4) (v := .int (I 275 4)) kLC_275 rfl rfl i_X1 (by decide) q_354 rfl rfl dX1_reads_75 ?_
      obtain ⟨g23, h⟩ := gd_o h hn
      refine g_iald K hW kLC_276 g23 rfl dX1_reads_78 ?_
      refine lv_bipush (v := (40 : Int32)) hx hb dX1_reads_79 (by decide) ?_
      refine lv_icmp_eq (tgt := 99) hx hb dX1_reads_81 (by decide) (fun c24 => ?_) (fun c24 => ?_)
      · replace h := gi_t h c24
        exact hx2 I h _ _ hW _ (lv_sub hl [] rfl)
      · replace h := gi_f h c24
        refine lv_aload_n hx hb dX1_reads_84 rfl (lv_at hl 0 rfl) ?_
        obtain ⟨⟨u25, I26⟩, e27, h⟩ := bd_o h hn
        replace h := pr_o h
        refine g_callVi (rest := []) K hW hl (kX1_clause (l := l) (G := G) (ad := ad) hok I J u25 I26 e27) kLC_275 rfl (gG_V q_571 q_573 q_6 q_136 q_574) nm_X1_clause ⟨Nat.le_of_ble_eq_true rfl, Nat.le_of_ble_eq_true rfl⟩ rfl rfl (Nat.le_of_ble_eq_true rfl) ⟨Nat.zero_le _, Nat.zero_le _⟩ dX1_reads_85 (fun z28 H locs hW => ?_)
        refine lv_if_ne (tgt := 93) hx hb dX1_reads_88 (by decide) (fun c29 => ?_) (fun c29 => ?_)
        · replace h := gi_f h c29
          obtain ⟨u30, e31, h⟩ := lz_o h
          refine lv_iinc (v := u30) (lv' := [(4, .int u30), (0, .ref (ad 275))]) hx hb dX1_reads_93 hl (k := 1) rfl (by rw [e31]; rfl) (by decide) rfl (fun ls hl => ?_)
          refine lv_goto (tgt := 63) hx hb dX1_reads_96 (by decide) ?_
          exact ih u30 I26 J _ h hn _ _ hW _ (lv_sub hl [1, 0] rfl) hx1 hx2
        · replace h := gi_t h c29
          exact hx1 I26 h _ _ hW _ (lv_sub hl [] rfl)
noncomputable def fX1_reads (t0 : Nat) (x2 : Int32) (I : gI) : Option (Int32 × gI) :=
  gi (x2 < 0)
 (some ((0 : Int32), I))
 (gi ((300 : Int32) < x2)
 (some ((0 : Int32), I))
 (gi (x2 ≤ (300 : Int32))
 (lz (wI I 275 6 (nI t0)) (fun (I4 : gI) => gd (gAt LC (I4 275 6).toNatClampNeg 0 3) (bd (fX3_clear ((I4 275 6).toNatClampNeg) I4) (fun (I7 : gI) => lz (wI I7 275 4 (0 : Int32)) (fun (I10 : gI) => lz (wI I10 275 7 (0 : Int32)) (fun (I12 : gI) => lz (wI I12 275 8 (-1 : Int32)) (fun (I14 : gI) => bd (fX1_split x2 I14) (fun (I16 : gI) => bd (fX1_reads_63 t0 FU (0 : Int32) I16) (sm (fun (I34 : gI) => some ((0 : Int32), I34)) (fun (I36 : gI) => some ((1 : Int32), I36)))))))))))
 (some ((0 : Int32), I))))
set_option maxHeartbeats 4000000 in
set_option maxRecDepth 100000 in
theorem kX1_reads {l : Launch} {G : gG} {ad : Nat → Nat} (hok : gInj LC ad)  (t0 : Nat) (ht0 : gAt LC t0 0 3) (x2 : Int32) (I : gI) (J : gJ) (r : Int32) (I' : gI) (h : fX1_reads t0 x2 I = some (r, I')) : gMi l yX1_reads cX1_reads 5 (some .boolean) 93 G LC ad [.ref (ad 275), .ref (ad 274), .int x2, .ref (ad t0)] I J r (r = 0 ∨ r = 1) I' J := by
  refine gMz_of (lst := [(0, .ref (ad 275)), (1, .ref (ad 274)), (2, .int x2), (3, .ref (ad t0))]) (by decide) hok (Nat.le_of_ble_eq_true rfl) rfl ?_
  intro p e s m args below meth c Q ls K hW hl hfin
  have hn : (some (r, I') : Option (Int32 × gI)) ≠ none := Option.some_ne_none _
  have hx := K.1; have hb := K.2.1; have hown := K.2.2.2.1; have hts := K.2.2.2.2.1
  unfold fX1_reads at h
  refine lv_aload_n hx hb dX1_reads_0 rfl (lv_at hl 1 rfl) ?_
  refine lv_ifnull hx hb dX1_reads_1 ?_
  refine lv_aload_n hx hb dX1_reads_4 rfl (lv_at hl 3 rfl) ?_
  refine lv_ifnull hx hb dX1_reads_5 ?_
  refine lv_iload_n hx hb dX1_reads_8 rfl (lv_at hl 2 rfl) ?_
  refine lv_if_lt (tgt := 25) hx hb dX1_reads_9 (by decide) (fun c1 => ?_) (fun c1 => ?_)
  · replace h := gi_t h c1
    refine lv_iconst (v := (0 : Int32)) hx hb dX1_reads_25 (by decide) ?_
    obtain ⟨a1, a2⟩ := so2 h
    replace hW := gWd_nI a2 hW
    exact g_nmi a1 (hfin _ _ _ _ (a1 ▸ (Or.inl rfl)) hW dX1_reads_26)
  · replace h := gi_f h c1
    refine lv_iload_n hx hb dX1_reads_12 rfl (lv_at hl 2 rfl) ?_
    refine lv_aload_n hx hb dX1_reads_13 rfl (lv_at hl 1 rfl) ?_
    refine g_alen (v := (300 : Int32)) K hW kLC_274 (by decide) dX1_reads_14 ?_
    refine lv_icmp_gt (tgt := 25) hx hb dX1_reads_15 (by decide) (fun c2 => ?_) (fun c2 => ?_)
    · replace h := gi_t h c2
      refine lv_iconst (v := (0 : Int32)) hx hb dX1_reads_25 (by decide) ?_
      obtain ⟨a1, a2⟩ := so2 h
      replace hW := gWd_nI a2 hW
      exact g_nmi a1 (hfin _ _ _ _ (a1 ▸ (Or.inl rfl)) hW dX1_reads_26)
    · replace h := gi_f h c2
      refine lv_iload_n hx hb dX1_reads_18 rfl (lv_at hl 2 rfl) ?_
      refine lv_sipush (v := (300 : Int32)) hx hb dX1_reads_19 (by decide) ?_
      refine lv_icmp_le (tgt := 27) hx hb dX1_reads_22 (by decide) (fun c3 => ?_) (fun c3 => ?_)
      · replace h := gi_t h c3
        refine lv_aload_n hx hb dX1_reads_27 rfl (lv_at hl 0 rfl) ?_
        refine lv_aload_n hx hb dX1_reads_28 rfl (lv_at hl 3 rfl) ?_
        refine g_putR K hW (gAt_lt ht0) rLC_275_6 (ci := 1) (k := 6) kLC_275 rfl rfl i_X1 tyX1_ok nmX1 (by decide) q_356 rfl rfl rfl rfl dX1_reads_29 (fun H locs hW => ?_)
        obtain ⟨I4, e5, h⟩ := lz_o h
        replace hW := gWd_nI e5 hW
        refine lv_aload_n hx hb dX1_reads_32 rfl (lv_at hl 0 rfl) ?_
        obtain ⟨g6, h⟩ := gd_o h hn
        refine g_get K hW (t := 3) (ci := 1) (k := 6) (v := .ref (ad ((I4 275 6).toNatClampNeg))) kLC_275 rfl rfl i_X1 (by decide) q_356 rfl (gfv3 rLC_275_6) dX1_reads_33 ?_
        obtain ⟨I7, e8, h⟩ := bd_o h hn
        refine g_callVv (rest := []) K hW hl (kX3_clear (l := l) (G := G) (ad := ad) hok ((I4 275 6).toNatClampNeg) g6 I4 J I7 e8) g6 rfl (gG_V q_495 q_496 q_497 q_137 q_498) nm_X3_clear ⟨Nat.le_of_ble_eq_true rfl, Nat.le_of_ble_eq_true rfl⟩ rfl rfl (Nat.le_of_ble_eq_true rfl) ⟨Nat.zero_le _, Nat.zero_le _⟩ dX1_reads_36 (fun H locs hW => ?_)
        refine lv_aload_n hx hb dX1_reads_39 rfl (lv_at hl 0 rfl) ?_
        refine lv_iconst (v := (0 : Int32)) hx hb dX1_reads_40 (by decide) ?_
        refine g_putI K hW (ci := 1) (k := 4) kLC_275 rfl rfl i_X1 tyX1_ok nmX1 (by decide) q_354 rfl rfl rfl rfl dX1_reads_41 (fun H locs hW => ?_)
        obtain ⟨I10, e11, h⟩ := lz_o h
        replace hW := gWd_nI e11 hW
        refine lv_aload_n hx hb dX1_reads_44 rfl (lv_at hl 0 rfl) ?_
        refine lv_iconst (v := (0 : Int32)) hx hb dX1_reads_45 (by decide) ?_
        refine g_putI K hW (ci := 1) (k := 7) kLC_275 rfl rfl i_X1 tyX1_ok nmX1 (by decide) q_357 rfl rfl rfl rfl dX1_reads_46 (fun H locs hW => ?_)
        obtain ⟨I12, e13, h⟩ := lz_o h
        replace hW := gWd_nI e13 hW
        refine lv_aload_n hx hb dX1_reads_49 rfl (lv_at hl 0 rfl) ?_
        refine lv_iconst (v := (-1 : Int32)) hx hb dX1_reads_50 (by decide) ?_
        refine g_putI K hW (ci := 1) (k := 8) kLC_275 rfl rfl i_X1 tyX1_ok nmX1 (by decide) q_359 rfl rfl rfl rfl dX1_reads_51 (fun H locs hW => ?_)
        obtain ⟨I14, e15, h⟩ := lz_o h
        replace hW := gWd_nI e15 hW
        refine lv_aload_n hx hb dX1_reads_54 rfl (lv_at hl 0 rfl) ?_
        refine lv_aload_n hx hb dX1_reads_55 rfl (lv_at hl 1 rfl) ?_
        refine lv_iload_n hx hb dX1_reads_56 rfl (lv_at hl 2 rfl) ?_
        obtain ⟨I16, e17, h⟩ := bd_o h hn
        refine g_callVv (rest := []) K hW hl (kX1_split (l := l) (G := G) (ad := ad) hok x2 I14 J I16 e17) kLC_275 rfl (gG_V q_499 q_501 q_2 q_136 q_502) nm_X1_split ⟨Nat.le_of_ble_eq_true rfl, Nat.le_of_ble_eq_true rfl⟩ rfl rfl (Nat.le_of_ble_eq_true rfl) ⟨Nat.zero_le _, Nat.zero_le _⟩ dX1_reads_57 (fun H locs hW => ?_)
        refine lv_iconst (v := (0 : Int32)) hx hb dX1_reads_60 (by decide) ?_
        refine lv_istore (lv' := [(4, .int (0 : Int32)), (0, .ref (ad 275)), (1, .ref (ad 274)), (2, .int x2), (3, .ref (ad t0))]) hx hb dX1_reads_61 hl (by decide) rfl (fun ls hl => ?_)
        obtain ⟨r32, e33, h⟩ := bd_o h hn
        refine tX1_reads_63 hok K t0 ht0 FU (0 : Int32) I16 J (some r32) e33 (Option.some_ne_none _) _ _ hW _ (lv_sub hl [1, 0] rfl) ?_ ?_
        · intro I34 q35 H locs hW ls hl
          replace q35 := Option.some.inj q35
          subst q35
          replace h := sm_l h
          refine lv_iconst (v := (0 : Int32)) hx hb dX1_reads_91 (by decide) ?_
          obtain ⟨a1, a2⟩ := so2 h
          replace hW := gWd_nI a2 hW
          exact g_nmi a1 (hfin _ _ _ _ (a1 ▸ (Or.inl rfl)) hW dX1_reads_92)
        · intro I36 q37 H locs hW ls hl
          replace q37 := Option.some.inj q37
          subst q37
          replace h := sm_r h
          refine lv_iconst (v := (1 : Int32)) hx hb dX1_reads_99 (by decide) ?_
          obtain ⟨a1, a2⟩ := so2 h
          replace hW := gWd_nI a2 hW
          exact g_nmi a1 (hfin _ _ _ _ (a1 ▸ (Or.inr rfl)) hW dX1_reads_100)
      · replace h := gi_f h c3
        refine lv_iconst (v := (0 : Int32)) hx hb dX1_reads_25 (by decide) ?_
        obtain ⟨a1, a2⟩ := so2 h
        replace hW := gWd_nI a2 hW
        exact g_nmi a1 (hfin _ _ _ _ (a1 ▸ (Or.inl rfl)) hW dX1_reads_26)
theorem rLC_0_4 : LC.2.2 0 4 = some 275 := by decide +kernel
theorem nm_X1_reads : gNm yX1_reads 3 := by decide +kernel
noncomputable def fX6_text   (I : gI) : Option (Int32 × gI) :=
  gi ((I 1 13) < (4 : Int32))
 (gd (vp_in (I 1 13) 4) (bd (fX1_reads (296 + 8 * ((I 1 13)).toNatClampNeg) (I 0 10) I) (pr (fun (u3 : Int32) (I4 : gI) => lz (wI I4 0 10 (0 : Int32)) (fun (I7 : gI) => lz (wI I7 0 11 (I7 275 7)) (fun (I9 : gI) => lz (wI I9 0 12 (I9 275 8)) (fun (I11 : gI) => gi (u3 = 0)
 (some ((-1 : Int32), I11))
 (lz (wI I11 1 13 ((I11 1 13) + (1 : Int32))) (fun (I14 : gI) => some (((I14 1 13) - (1 : Int32)), I14))))))))))
 (some ((-1 : Int32), I))
set_option maxHeartbeats 4000000 in
set_option maxRecDepth 100000 in
theorem kX6_text {l : Launch} {G : gG} {ad : Nat → Nat} (hok : gInj LC ad)     (I : gI) (J : gJ) (r : Int32) (I' : gI) (h : fX6_text I = some (r, I')) : gMi l yX6_text cX6_text 2 (some .int) 94 G LC ad [.ref (ad 0)] I J r True I' J := by
  refine gMi_of (lst := [(0, .ref (ad 0))]) (by decide) hok (Nat.le_of_ble_eq_true rfl) rfl ?_
  intro p e s m args below meth c Q ls K hW hl hfin
  have hn : (some (r, I') : Option (Int32 × gI)) ≠ none := Option.some_ne_none _
  have hx := K.1; have hb := K.2.1; have hown := K.2.2.2.1; have hts := K.2.2.2.2.1
  unfold fX6_text at h
  refine lv_aload_n hx hb dX6_text_0 rfl (lv_at hl 0 rfl) ?_
  refine g_get K hW (t := 2) (ci := 5) (k := 0) (v := .ref (ad 1)) kLC_0 rfl rfl i_X6 (by decide) q_393 rfl (gfv2 rLC_0_0) dX6_text_1 ?_
  refine g_get K hW (t := 0) (ci := 0) (k := 13) (v := .int (I 1 13)) kLC_1 rfl rfl i_X0 (by decide) q_241 rfl rfl dX6_text_4 ?_
  refine lv_iconst (v := (4 : Int32)) hx hb dX6_text_7 (by decide) ?_
  refine lv_icmp_lt (tgt := 13) hx hb dX6_text_8 (by decide) (fun c1 => ?_) (fun c1 => ?_)
  · replace h := gi_t h c1
    refine lv_aload_n hx hb dX6_text_13 rfl (lv_at hl 0 rfl) ?_
    refine g_get K hW (t := 2) (ci := 5) (k := 4) (v := .ref (ad 275)) kLC_0 rfl rfl i_X6 (by decide) q_397 rfl (gfv2 rLC_0_4) dX6_text_14 ?_
    refine lv_aload_n hx hb dX6_text_17 rfl (lv_at hl 0 rfl) ?_
    refine g_get K hW (t := 2) (ci := 5) (k := 3) (v := .ref (ad 274)) kLC_0 rfl rfl i_X6 (by decide) q_396 rfl (gfv2 rLC_0_3) dX6_text_18 ?_
    refine lv_aload_n hx hb dX6_text_21 rfl (lv_at hl 0 rfl) ?_
    refine g_get K hW (t := 0) (ci := 5) (k := 10) (v := .int (I 0 10)) kLC_0 rfl rfl i_X6 (by decide) q_403 rfl rfl dX6_text_22 ?_
    refine lv_aload_n hx hb dX6_text_25 rfl (lv_at hl 0 rfl) ?_
    refine g_get K hW (t := 2) (ci := 5) (k := 2) (v := .ref (ad 273)) kLC_0 rfl rfl i_X6 (by decide) q_395 rfl (gfv2 rLC_0_2) dX6_text_26 ?_
    refine lv_aload_n hx hb dX6_text_29 rfl (lv_at hl 0 rfl) ?_
    refine g_get K hW (t := 2) (ci := 5) (k := 0) (v := .ref (ad 1)) kLC_0 rfl rfl i_X6 (by decide) q_393 rfl (gfv2 rLC_0_0) dX6_text_30 ?_
    refine g_get K hW (t := 0) (ci := 0) (k := 13) (v := .int (I 1 13)) kLC_1 rfl rfl i_X0 (by decide) q_241 rfl rfl dX6_text_33 ?_
    obtain ⟨g2, h⟩ := gd_o h hn
    refine g_aald6 K hW kLC_273 g2 (rTa _) dX6_text_36 ?_
    obtain ⟨⟨u3, I4⟩, e5, h⟩ := bd_o h hn
    replace h := pr_o h
    refine g_callVi (rest := []) K hW hl (kX1_reads (l := l) (G := G) (ad := ad) hok (296 + 8 * ((I 1 13)).toNatClampNeg) (kTa g2) (I 0 10) I J u3 I4 e5) kLC_275 rfl (gG_V q_491 q_492 q_493 q_136 q_494) nm_X1_reads ⟨Nat.le_of_ble_eq_true rfl, Nat.le_of_ble_eq_true rfl⟩ rfl rfl (Nat.le_of_ble_eq_true rfl) ⟨Nat.zero_le _, Nat.zero_le _⟩ dX6_text_37 (fun z6 H locs hW => ?_)
    refine lv_istore_n (lv' := [(1, .int u3), (0, .ref (ad 0))]) hx hb dX6_text_40 rfl hl (by decide) rfl (fun ls hl => ?_)
    refine lv_aload_n hx hb dX6_text_41 rfl (lv_at hl 1 rfl) ?_
    refine lv_iconst (v := (0 : Int32)) hx hb dX6_text_42 (by decide) ?_
    refine g_putI K hW (ci := 5) (k := 10) kLC_0 rfl rfl i_X6 tyX6_ok nmX6 (by decide) q_403 rfl rfl rfl rfl dX6_text_43 (fun H locs hW => ?_)
    obtain ⟨I7, e8, h⟩ := lz_o h
    replace hW := gWd_nI e8 hW
    refine lv_aload_n hx hb dX6_text_46 rfl (lv_at hl 1 rfl) ?_
    refine lv_aload_n hx hb dX6_text_47 rfl (lv_at hl 1 rfl) ?_
    refine g_get K hW (t := 2) (ci := 5) (k := 4) (v := .ref (ad 275)) kLC_0 rfl rfl i_X6 (by decide) q_397 rfl (gfv2 rLC_0_4) dX6_text_48 ?_
    refine g_get K hW (t := 0) (ci := 1) (k := 7) (v := .int (I7 275 7)) kLC_275 rfl rfl i_X1 (by decide) q_358 rfl rfl dX6_text_51 ?_
    refine g_putI K hW (ci := 5) (k := 11) kLC_0 rfl rfl i_X6 tyX6_ok nmX6 (by decide) q_404 rfl rfl rfl rfl dX6_text_54 (fun H locs hW => ?_)
    obtain ⟨I9, e10, h⟩ := lz_o h
    replace hW := gWd_nI e10 hW
    refine lv_aload_n hx hb dX6_text_57 rfl (lv_at hl 1 rfl) ?_
    refine lv_aload_n hx hb dX6_text_58 rfl (lv_at hl 1 rfl) ?_
    refine g_get K hW (t := 2) (ci := 5) (k := 4) (v := .ref (ad 275)) kLC_0 rfl rfl i_X6 (by decide) q_397 rfl (gfv2 rLC_0_4) dX6_text_59 ?_
    refine g_get K hW (t := 0) (ci := 1) (k := 8) (v := .int (I9 275 8)) kLC_275 rfl rfl i_X1 (by decide) q_360 rfl rfl dX6_text_62 ?_
    refine g_putI K hW (ci := 5) (k := 12) kLC_0 rfl rfl i_X6 tyX6_ok nmX6 (by decide) q_405 rfl rfl rfl rfl dX6_text_65 (fun H locs hW => ?_)
    obtain ⟨I11, e12, h⟩ := lz_o h
    replace hW := gWd_nI e12 hW
    refine lv_iload_n hx hb dX6_text_68 rfl (lv_at hl 0 rfl) ?_
    refine lv_if_ne (tgt := 74) hx hb dX6_text_69 (by decide) (fun c13 => ?_) (fun c13 => ?_)
    · replace h := gi_f h c13
      refine lv_aload_n hx hb dX6_text_74 rfl (lv_at hl 1 rfl) ?_
      refine g_get K hW (t := 2) (ci := 5) (k := 0) (v := .ref (ad 1)) kLC_0 rfl rfl i_X6 (by decide) q_393 rfl (gfv2 rLC_0_0) dX6_text_75 ?_
      refine lv_dup hx hb dX6_text_78 rfl ?_
      refine g_get K hW (t := 0) (ci := 0) (k := 13) (v := .int (I11 1 13)) kLC_1 rfl rfl i_X0 (by decide) q_241 rfl rfl dX6_text_79 ?_
      refine lv_iconst (v := (1 : Int32)) hx hb dX6_text_82 (by decide) ?_
      refine lv_iadd hx hb dX6_text_83 ?_
      refine g_putI K hW (ci := 0) (k := 13) kLC_1 rfl rfl i_X0 tyX0_ok nmX0 (by decide) q_241 rfl rfl rfl rfl dX6_text_84 (fun H locs hW => ?_)
      obtain ⟨I14, e15, h⟩ := lz_o h
      replace hW := gWd_nI e15 hW
      refine lv_aload_n hx hb dX6_text_87 rfl (lv_at hl 1 rfl) ?_
      refine g_get K hW (t := 2) (ci := 5) (k := 0) (v := .ref (ad 1)) kLC_0 rfl rfl i_X6 (by decide) q_393 rfl (gfv2 rLC_0_0) dX6_text_88 ?_
      refine g_get K hW (t := 0) (ci := 0) (k := 13) (v := .int (I14 1 13)) kLC_1 rfl rfl i_X0 (by decide) q_241 rfl rfl dX6_text_91 ?_
      refine lv_iconst (v := (1 : Int32)) hx hb dX6_text_94 (by decide) ?_
      refine lv_isub hx hb dX6_text_95 ?_
      obtain ⟨a1, a2⟩ := so2 h
      replace hW := gWd_nI a2 hW
      exact g_nmi a1 (hfin _ _ _ _ hW dX6_text_96)
    · replace h := gi_t h c13
      refine lv_iconst (v := (-1 : Int32)) hx hb dX6_text_72 (by decide) ?_
      obtain ⟨a1, a2⟩ := so2 h
      replace hW := gWd_nI a2 hW
      exact g_nmi a1 (hfin _ _ _ _ hW dX6_text_73)
  · replace h := gi_f h c1
    refine lv_iconst (v := (-1 : Int32)) hx hb dX6_text_11 (by decide) ?_
    obtain ⟨a1, a2⟩ := so2 h
    replace hW := gWd_nI a2 hW
    exact g_nmi a1 (hfin _ _ _ _ hW dX6_text_12)
