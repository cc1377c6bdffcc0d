-- 13.c05: the class: X6.yearly X6.years X6.undo X6.image X6.back X6.of X6.ofSort X6.at X6.is X6.book X6.linesOf X6.ledger X6.about X6.foretold X6.bidTogether
noncomputable def fX6_yearly  (x1 : Int32) (I : gI) : Option (gI) :=
  lz ((jrem (x1 / (6 : Int32)) (6 : Int32))) (fun (u1 : Int32) => lz ((jrem x1 (6 : Int32))) (fun (u3 : Int32) => gi (u3 = (0 : Int32))
 (bd (fX6_priceFor u1 I) (pr (fun (u6 : Int32) (I7 : gI) => gi (u6 = (-1 : Int32))
 (some I7)
 (bd (fX6_sellTo u1 u6 I7) (fun (I11 : gI) => some I11)))))
 (gi (u3 = (1 : Int32))
 (bd (fX6_priceFor u1 I) (pr (fun (u15 : Int32) (I16 : gI) => gi (u15 = (-1 : Int32))
 (some I16)
 (bd (fX6_sellTo u1 u15 I16) (fun (I20 : gI) => some I20)))))
 (gi (u3 = (2 : Int32))
 (gi ((jrem (x1 / (6 : Int32)) (3 : Int32)) = (1 : Int32))
 (gi ((fX6_isFree (jrem x1 (12 : Int32)) I) = 0)
 (some I)
 (bd (fX6_giveAway (jrem x1 (12 : Int32)) I) (fun (I27 : gI) => some I27)))
 (some I))
 (gi (u3 = (3 : Int32))
 (gi ((jrem x1 (4 : Int32)) = (3 : Int32))
 (bd (fX6_hasSlices u1 I) (fun (u32 : Int32) => gi (u32 = 0)
 (some I)
 (bd (fX6_turnAway u1 I) (fun (I36 : gI) => some I36))))
 (some I))
 (gi ((9999 : Int32) ≤ (I 11 7))
 (some I)
 (bd (fX6_dawnComes 11 I) (fun (I40 : gI) => some I40))))))))
set_option maxHeartbeats 4000000 in
set_option maxRecDepth 100000 in
theorem kX6_yearly {l : Launch} {G : gG} {ad : Nat → Nat} (hok : gInj LC ad)    (x1 : Int32) (I : gI) (J : gJ) (I' : gI) (h : fX6_yearly x1 I = some I') : gMv l yX6_yearly cX6_yearly 4 none 6 G LC ad [.ref (ad 0), .int x1] I J I' J := by
  refine gMv_of (lst := [(0, .ref (ad 0)), (1, .int x1)]) (by decide) hok (Nat.le_of_ble_eq_true rfl) rfl ?_
  intro p e s m args below meth c Q ls K hW hl hfin
  have hn : (some I' : Option (gI)) ≠ none := Option.some_ne_none _
  have hx := K.1; have hb := K.2.1; have hown := K.2.2.2.1; have hts := K.2.2.2.2.1
  unfold fX6_yearly at h
  refine lv_iload_n hx hb dX6_yearly_0 rfl (lv_at hl 1 rfl) ?_
  refine lv_bipush (v := (6 : Int32)) hx hb dX6_yearly_1 (by decide) ?_
  refine lv_idiv hx hb dX6_yearly_3 (by decide) ?_
  refine lv_bipush (v := (6 : Int32)) hx hb dX6_yearly_4 (by decide) ?_
  refine g_irem hx hb dX6_yearly_6 (by decide) ?_
  obtain ⟨u1, e2, h⟩ := lz_o h
  refine g_nmi e2 ?_
  refine lv_istore_n (lv' := [(2, .int u1), (0, .ref (ad 0)), (1, .int x1)]) hx hb dX6_yearly_7 rfl hl (by decide) rfl (fun ls hl => ?_)
  refine lv_iload_n hx hb dX6_yearly_8 rfl (lv_at hl 2 rfl) ?_
  refine lv_bipush (v := (6 : Int32)) hx hb dX6_yearly_9 (by decide) ?_
  refine g_irem hx hb dX6_yearly_11 (by decide) ?_
  obtain ⟨u3, e4, h⟩ := lz_o h
  refine g_nmi e4 ?_
  rcases Classical.em (u3 = (0 : Int32)) with c5 | c5
  · replace h := gi_t h c5
    refine g_tabIn (k := (0 : Int32)) (tgt := 44) (off := 32) hx hb c5 dX6_yearly_12 (by decide) (by decide) (by decide) (by decide) ?_
    refine lv_aload_n hx hb dX6_yearly_44 rfl (lv_at hl 1 rfl) ?_
    refine lv_iload_n hx hb dX6_yearly_45 rfl (lv_at hl 0 rfl) ?_
    obtain ⟨⟨u6, I7⟩, e8, h⟩ := bd_o h hn
    replace h := pr_o h
    refine g_callVi (rest := []) K hW hl (kX6_priceFor (l := l) (G := G) (ad := ad) hok u1 I J u6 I7 e8) kLC_0 rfl (gG_V q_676 q_678 q_24 q_133 q_679) nm_X6_priceFor ⟨Nat.le_of_ble_eq_true rfl, Nat.le_of_ble_eq_true rfl⟩ rfl rfl (Nat.le_of_ble_eq_true rfl) ⟨Nat.zero_le _, Nat.zero_le _⟩ dX6_yearly_46 (fun z9 H locs hW => ?_)
    refine lv_istore_n (lv' := [(3, .int u6), (2, .int u1), (0, .ref (ad 0)), (1, .int x1)]) hx hb dX6_yearly_49 rfl hl (by decide) rfl (fun ls hl => ?_)
    refine lv_iload_n hx hb dX6_yearly_50 rfl (lv_at hl 0 rfl) ?_
    refine lv_iconst (v := (-1 : Int32)) hx hb dX6_yearly_51 (by decide) ?_
    refine lv_icmp_eq (tgt := 146) hx hb dX6_yearly_52 (by decide) (fun c10 => ?_) (fun c10 => ?_)
    · replace h := gi_t h c10
      obtain a1 := so1 h
      replace hW := gWd_nI a1 hW
      exact hfin _ _ _ _ hW dX6_yearly_146
    · replace h := gi_f h c10
      refine lv_aload_n hx hb dX6_yearly_55 rfl (lv_at hl 2 rfl) ?_
      refine lv_iload_n hx hb dX6_yearly_56 rfl (lv_at hl 1 rfl) ?_
      refine lv_iload_n hx hb dX6_yearly_57 rfl (lv_at hl 0 rfl) ?_
      obtain ⟨I11, e12, h⟩ := bd_o h hn
      refine g_callVv (rest := []) K hW hl (kX6_sellTo (l := l) (G := G) (ad := ad) hok u1 u6 I7 J I11 e12) kLC_0 rfl (gG_V q_742 q_744 q_28 q_133 q_745) nm_X6_sellTo ⟨Nat.le_of_ble_eq_true rfl, Nat.le_of_ble_eq_true rfl⟩ rfl rfl (Nat.le_of_ble_eq_true rfl) ⟨Nat.zero_le _, Nat.zero_le _⟩ dX6_yearly_58 (fun H locs hW => ?_)
      refine lv_goto (tgt := 146) hx hb dX6_yearly_61 (by decide) ?_
      obtain a1 := so1 h
      replace hW := gWd_nI a1 hW
      exact hfin _ _ _ _ hW dX6_yearly_146
  · replace h := gi_f h c5
    rcases Classical.em (u3 = (1 : Int32)) with c14 | c14
    · replace h := gi_t h c14
      refine g_tabIn (k := (1 : Int32)) (tgt := 44) (off := 32) hx hb c14 dX6_yearly_12 (by decide) (by decide) (by decide) (by decide) ?_
      refine lv_aload_n hx hb dX6_yearly_44 rfl (lv_at hl 1 rfl) ?_
      refine lv_iload_n hx hb dX6_yearly_45 rfl (lv_at hl 0 rfl) ?_
      obtain ⟨⟨u15, I16⟩, e17, h⟩ := bd_o h hn
      replace h := pr_o h
      refine g_callVi (rest := []) K hW hl (kX6_priceFor (l := l) (G := G) (ad := ad) hok u1 I J u15 I16 e17) kLC_0 rfl (gG_V q_676 q_678 q_24 q_133 q_679) nm_X6_priceFor ⟨Nat.le_of_ble_eq_true rfl, Nat.le_of_ble_eq_true rfl⟩ rfl rfl (Nat.le_of_ble_eq_true rfl) ⟨Nat.zero_le _, Nat.zero_le _⟩ dX6_yearly_46 (fun z18 H locs hW => ?_)
      refine lv_istore_n (lv' := [(3, .int u15), (2, .int u1), (0, .ref (ad 0)), (1, .int x1)]) hx hb dX6_yearly_49 rfl hl (by decide) rfl (fun ls hl => ?_)
      refine lv_iload_n hx hb dX6_yearly_50 rfl (lv_at hl 0 rfl) ?_
      refine lv_iconst (v := (-1 : Int32)) hx hb dX6_yearly_51 (by decide) ?_
      refine lv_icmp_eq (tgt := 146) hx hb dX6_yearly_52 (by decide) (fun c19 => ?_) (fun c19 => ?_)
      · replace h := gi_t h c19
        obtain a1 := so1 h
        replace hW := gWd_nI a1 hW
        exact hfin _ _ _ _ hW dX6_yearly_146
      · replace h := gi_f h c19
        refine lv_aload_n hx hb dX6_yearly_55 rfl (lv_at hl 2 rfl) ?_
        refine lv_iload_n hx hb dX6_yearly_56 rfl (lv_at hl 1 rfl) ?_
        refine lv_iload_n hx hb dX6_yearly_57 rfl (lv_at hl 0 rfl) ?_
        obtain ⟨I20, e21, h⟩ := bd_o h hn
        refine g_callVv (rest := []) K hW hl (kX6_sellTo (l := l) (G := G) (ad := ad) hok u1 u15 I16 J I20 e21) kLC_0 rfl (gG_V q_742 q_744 q_28 q_133 q_745) nm_X6_sellTo ⟨Nat.le_of_ble_eq_true rfl, Nat.le_of_ble_eq_true rfl⟩ rfl rfl (Nat.le_of_ble_eq_true rfl) ⟨Nat.zero_le _, Nat.zero_le _⟩ dX6_yearly_58 (fun H locs hW => ?_)
        refine lv_goto (tgt := 146) hx hb dX6_yearly_61 (by decide) ?_
        obtain a1 := so1 h
        replace hW := gWd_nI a1 hW
        exact hfin _ _ _ _ hW dX6_yearly_146
    · replace h := gi_f h c14
      rcases Classical.em (u3 = (2 : Int32)) with c23 | c23
      · replace h := gi_t h c23
        refine g_tabIn (k := (2 : Int32)) (tgt := 64) (off := 52) hx hb c23 dX6_yearly_12 (by decide) (by decide) (by decide) (by decide) ?_
        refine lv_iload_n hx hb dX6_yearly_64 rfl (lv_at hl 2 rfl) ?_
        refine lv_bipush (v := (6 : Int32)) hx hb dX6_yearly_65 (by decide) ?_
        refine lv_idiv hx hb dX6_yearly_67 (by decide) ?_
        refine lv_iconst (v := (3 : Int32)) hx hb dX6_yearly_68 (by decide) ?_
        refine g_irem hx hb dX6_yearly_69 (by decide) ?_
        refine lv_iconst (v := (1 : Int32)) hx hb dX6_yearly_70 (by decide) ?_
        refine lv_icmp_ne (tgt := 146) hx hb dX6_yearly_71 (by decide) (fun c24 => ?_) (fun c24 => ?_)
        · replace h := gi_f h c24
          obtain a1 := so1 h
          replace hW := gWd_nI a1 hW
          exact hfin _ _ _ _ hW dX6_yearly_146
        · replace h := gi_t h c24
          refine lv_aload_n hx hb dX6_yearly_74 rfl (lv_at hl 1 rfl) ?_
          refine lv_iload_n hx hb dX6_yearly_75 rfl (lv_at hl 2 rfl) ?_
          refine lv_bipush (v := (12 : Int32)) hx hb dX6_yearly_76 (by decide) ?_
          refine g_irem hx hb dX6_yearly_78 (by decide) ?_
          refine g_callVi (rest := []) K hW hl (kX6_isFree (l := l) (G := G) (ad := ad) hok (jrem x1 (12 : Int32)) I J (fX6_isFree (jrem x1 (12 : Int32)) I) rfl) kLC_0 rfl (gG_V q_756 q_758 q_29 q_133 q_759) nm_X6_isFree ⟨Nat.le_of_ble_eq_true rfl, Nat.le_of_ble_eq_true rfl⟩ rfl rfl (Nat.le_of_ble_eq_true rfl) ⟨Nat.zero_le _, Nat.zero_le _⟩ dX6_yearly_79 (fun z25 H locs hW => ?_)
          refine lv_if_eq (tgt := 146) hx hb dX6_yearly_82 (by decide) (fun c26 => ?_) (fun c26 => ?_)
          · replace h := gi_t h c26
            obtain a1 := so1 h
            replace hW := gWd_nI a1 hW
            exact hfin _ _ _ _ hW dX6_yearly_146
          · replace h := gi_f h c26
            refine lv_aload_n hx hb dX6_yearly_85 rfl (lv_at hl 1 rfl) ?_
            refine lv_iload_n hx hb dX6_yearly_86 rfl (lv_at hl 2 rfl) ?_
            refine lv_bipush (v := (12 : Int32)) hx hb dX6_yearly_87 (by decide) ?_
            refine g_irem hx hb dX6_yearly_89 (by decide) ?_
            obtain ⟨I27, e28, h⟩ := bd_o h hn
            refine g_callVv (rest := []) K hW hl (kX6_giveAway (l := l) (G := G) (ad := ad) hok (jrem x1 (12 : Int32)) I J I27 e28) kLC_0 rfl (gG_V q_760 q_762 q_30 q_133 q_763) nm_X6_giveAway ⟨Nat.le_of_ble_eq_true rfl, Nat.le_of_ble_eq_true rfl⟩ rfl rfl (Nat.le_of_ble_eq_true rfl) ⟨Nat.zero_le _, Nat.zero_le _⟩ dX6_yearly_90 (fun H locs hW => ?_)
            refine lv_goto (tgt := 146) hx hb dX6_yearly_93 (by decide) ?_
            obtain a1 := so1 h
            replace hW := gWd_nI a1 hW
            exact hfin _ _ _ _ hW dX6_yearly_146
      · replace h := gi_f h c23
        rcases Classical.em (u3 = (3 : Int32)) with c30 | c30
        · replace h := gi_t h c30
          refine g_tabIn (k := (3 : Int32)) (tgt := 96) (off := 84) hx hb c30 dX6_yearly_12 (by decide) (by decide) (by decide) (by decide) ?_
          refine lv_iload_n hx hb dX6_yearly_96 rfl (lv_at hl 2 rfl) ?_
          refine lv_iconst (v := (4 : Int32)) hx hb dX6_yearly_97 (by decide) ?_
          refine g_irem hx hb dX6_yearly_98 (by decide) ?_
          refine lv_iconst (v := (3 : Int32)) hx hb dX6_yearly_99 (by decide) ?_
          refine lv_icmp_ne (tgt := 146) hx hb dX6_yearly_100 (by decide) (fun c31 => ?_) (fun c31 => ?_)
          · replace h := gi_f h c31
            obtain a1 := so1 h
            replace hW := gWd_nI a1 hW
            exact hfin _ _ _ _ hW dX6_yearly_146
          · replace h := gi_t h c31
            refine lv_aload_n hx hb dX6_yearly_103 rfl (lv_at hl 1 rfl) ?_
            refine lv_iload_n hx hb dX6_yearly_104 rfl (lv_at hl 0 rfl) ?_
            obtain ⟨u32, e33, h⟩ := bd_o h hn
            refine g_callVi (rest := []) K hW hl (kX6_hasSlices (l := l) (G := G) (ad := ad) hok u1 I J u32 e33) kLC_0 rfl (gG_V q_768 q_770 q_31 q_133 q_771) nm_X6_hasSlices ⟨Nat.le_of_ble_eq_true rfl, Nat.le_of_ble_eq_true rfl⟩ rfl rfl (Nat.le_of_ble_eq_true rfl) ⟨Nat.zero_le _, Nat.zero_le _⟩ dX6_yearly_105 (fun z34 H locs hW => ?_)
            refine lv_if_eq (tgt := 146) hx hb dX6_yearly_108 (by decide) (fun c35 => ?_) (fun c35 => ?_)
            · replace h := gi_t h c35
              obtain a1 := so1 h
              replace hW := gWd_nI a1 hW
              exact hfin _ _ _ _ hW dX6_yearly_146
            · replace h := gi_f h c35
              refine lv_aload_n hx hb dX6_yearly_111 rfl (lv_at hl 1 rfl) ?_
              refine lv_iload_n hx hb dX6_yearly_112 rfl (lv_at hl 0 rfl) ?_
              obtain ⟨I36, e37, h⟩ := bd_o h hn
              refine g_callVv (rest := []) K hW hl (kX6_turnAway (l := l) (G := G) (ad := ad) hok u1 I J I36 e37) kLC_0 rfl (gG_V q_772 q_774 q_32 q_133 q_775) nm_X6_turnAway ⟨Nat.le_of_ble_eq_true rfl, Nat.le_of_ble_eq_true rfl⟩ rfl rfl (Nat.le_of_ble_eq_true rfl) ⟨Nat.zero_le _, Nat.zero_le _⟩ dX6_yearly_113 (fun H locs hW => ?_)
              refine lv_goto (tgt := 146) hx hb dX6_yearly_116 (by decide) ?_
              obtain a1 := so1 h
              replace hW := gWd_nI a1 hW
              exact hfin _ _ _ _ hW dX6_yearly_146
        · replace h := gi_f h c30
          refine lv_tableOut (tgt := 119) hx hb dX6_yearly_12 (by have := lv_neT (a := 0) c5 (by decide); have := lv_neT (a := 1) c14 (by decide); have := lv_neT (a := 2) c23 (by decide); have := lv_neT (a := 3) c30 (by decide); omega) (by decide) ?_
          refine lv_aload_n hx hb dX6_yearly_119 rfl (lv_at hl 1 rfl) ?_
          refine g_get K hW (t := 2) (ci := 5) (k := 0) (v := .ref (ad 1)) kLC_0 rfl rfl i_X6 (by decide) q_393 rfl (gfv2 rLC_0_0) dX6_yearly_120 ?_
          refine g_get K hW (t := 2) (ci := 0) (k := 9) (v := .ref (ad 11)) kLC_1 rfl rfl i_X0 (by decide) q_232 rfl (gfv2 rLC_1_9) dX6_yearly_123 ?_
          refine g_get K hW (t := 0) (ci := 4) (k := 7) (v := .int (I 11 7)) kLC_11 rfl rfl i_X5 (by decide) q_187 rfl rfl dX6_yearly_126 ?_
          refine lv_sipush (v := (9999 : Int32)) hx hb dX6_yearly_129 (by decide) ?_
          refine lv_icmp_ge (tgt := 146) hx hb dX6_yearly_132 (by decide) (fun c39 => ?_) (fun c39 => ?_)
          · replace h := gi_t h c39
            obtain a1 := so1 h
            replace hW := gWd_nI a1 hW
            exact hfin _ _ _ _ hW dX6_yearly_146
          · replace h := gi_f h c39
            refine lv_aload_n hx hb dX6_yearly_135 rfl (lv_at hl 1 rfl) ?_
            refine lv_aload_n hx hb dX6_yearly_136 rfl (lv_at hl 1 rfl) ?_
            refine g_get K hW (t := 2) (ci := 5) (k := 0) (v := .ref (ad 1)) kLC_0 rfl rfl i_X6 (by decide) q_393 rfl (gfv2 rLC_0_0) dX6_yearly_137 ?_
            refine g_get K hW (t := 2) (ci := 0) (k := 9) (v := .ref (ad 11)) kLC_1 rfl rfl i_X0 (by decide) q_232 rfl (gfv2 rLC_1_9) dX6_yearly_140 ?_
            obtain ⟨I40, e41, h⟩ := bd_o h hn
            refine g_callVv (rest := []) K hW hl (kX6_dawnComes (l := l) (G := G) (ad := ad) hok 11 kLC_11 I J I40 e41) kLC_0 rfl (gG_V q_792 q_794 q_35 q_133 q_795) nm_X6_dawnComes ⟨Nat.le_of_ble_eq_true rfl, Nat.le_of_ble_eq_true rfl⟩ rfl rfl (Nat.le_of_ble_eq_true rfl) ⟨Nat.zero_le _, Nat.zero_le _⟩ dX6_yearly_143 (fun H locs hW => ?_)
            obtain a1 := so1 h
            replace hW := gWd_nI a1 hW
            exact hfin _ _ _ _ hW dX6_yearly_146
theorem nm_X6_yearly : gNm yX6_yearly 1 := by decide +kernel
noncomputable def fX6_years_49b  (rec : Int32 → Int32 → gI → Option ((gI))) (u10 : Int32) (u11 : Int32) (I : gI) : Option ((gI)) :=
  gi (u10 ≤ u11)
 (some I)
 (lz ((I 11 8)) (fun (u14 : Int32) => lz (wI I 11 8 (fX6_drawnAnew u14)) (fun (I17 : gI) => bd (fX6_yearly u14 I17) (fun (I19 : gI) => lz ((u11 + (1 : Int32))) (fun (u22 : Int32) => rec u10 u22 I19)))))
noncomputable def fX6_years_49  : Nat → Int32 → Int32 → gI → Option ((gI))
  | 0 => fun _ _ _ => none
  | n + 1 => fX6_years_49b  (fX6_years_49  n)
set_option maxHeartbeats 4000000 in
set_option maxRecDepth 100000 in
theorem tX6_years_49 {l : Launch} {G : gG} {ad : Nat → Nat} {p : Program} {e : Env} {s : State} {m : MethodId} {args : Array Value} {below : List Frame} {meth : Method} {c : Code} {Q : State → Prop} (hok : gInj LC ad) (K : gCx G (gA LC ad) p s m args c cX6_years 6 RX6)  : ∀ (n : Nat) (u10 : Int32) (u11 : Int32) (I : gI) (J : gJ) (out : Option ((gI))), fX6_years_49  n u10 u11 I = out → out ≠ none → ∀ (H : Heap) (locs : List Loc), gWd G LC ad (gA LC ad) s.heap I J H locs → ∀ (ls : Array Slot), lv_has ls 6 [(0, .ref (ad 0)), (2, .int u10), (3, .ref (ad 11)), (4, .int u11)] → (∀ (I12 : gI), some I12 = out → ∀ (H : Heap) (locs : List Loc), gWd G LC ad (gA LC ad) s.heap I12 J H locs → ∀ (ls : Array Slot), lv_has ls 6 [(3, .ref (ad 11))] → W p l e (gRm 7) s m args below meth c H locs 0 0 Q (F0 m 82 ls [])) → W p l e (gRm 7) s m args below meth c H locs 0 0 Q (F0 m 49 ls []) := by
  have hx := K.1; have hb := K.2.1; have hown := K.2.2.2.1; have hts := K.2.2.2.2.1
  intro n
  induction n with
  | zero => intro u10 u11 I J out h hn; exact absurd h.symm hn
  | succ n ih =>
    intro u10 u11 I J out h hn H locs hW ls hl hx1
    replace h : fX6_years_49b  (fX6_years_49  n) u10 u11 I = out := h
    unfold fX6_years_49b at h
    refine lv_iload hx hb dX6_years_49 (lv_at hl 3 rfl) ?_
    refine lv_iload_n hx hb dX6_years_51 rfl (lv_at hl 1 rfl) ?_
    refine lv_icmp_ge (tgt := 82) hx hb dX6_years_52 (by decide) (fun c13 => ?_) (fun c13 => ?_)
    · replace h := gi_t h c13
      exact hx1 I h _ _ hW _ (lv_sub hl [2] rfl)
    · replace h := gi_f h c13
      refine lv_aload_n hx hb dX6_years_55 rfl (lv_at hl 2 rfl) ?_
      refine g_get K hW (t := 0) (ci := 4) (k := 8) (v := .int (I 11 8)) kLC_11 rfl rfl i_X5 (by decide) q_189 rfl rfl dX6_years_56 ?_
      obtain ⟨u14, e15, h⟩ := lz_o h
      refine g_nmi e15 ?_
      refine lv_istore (lv' := [(5, .int u14), (0, .ref (ad 0)), (2, .int u10), (3, .ref (ad 11)), (4, .int u11)]) hx hb dX6_years_59 hl (by decide) rfl (fun ls hl => ?_)
      refine lv_aload_n hx hb dX6_years_61 rfl (lv_at hl 3 rfl) ?_
      refine lv_iload hx hb dX6_years_62 (lv_at hl 0 rfl) ?_
      refine g_callSi (rest := [.ref (ad 11)]) K hW hl (kX6_drawnAnew (l := l) (G := G) (ad := ad) hok u14 I J (fX6_drawnAnew u14) rfl) q_808 q_809 q_133 q_810 nm_X6_drawnAnew ⟨Nat.le_of_ble_eq_true rfl, Nat.le_of_ble_eq_true rfl⟩ rfl rfl (Nat.le_of_ble_eq_true rfl) ⟨Nat.zero_le _, Nat.zero_le _⟩ dX6_years_64 (fun z16 H locs hW => ?_)
      refine g_putI K hW (ci := 4) (k := 8) kLC_11 rfl rfl i_X5 tyX5_ok nmX5 (by decide) q_189 rfl rfl rfl rfl dX6_years_67 (fun H locs hW => ?_)
      obtain ⟨I17, e18, h⟩ := lz_o h
      replace hW := gWd_nI e18 hW
      refine lv_aload_n hx hb dX6_years_70 rfl (lv_at hl 1 rfl) ?_
      refine lv_iload hx hb dX6_years_71 (lv_at hl 0 rfl) ?_
      obtain ⟨I19, e20, h⟩ := bd_o h hn
      refine g_callVv (rest := []) K hW hl (kX6_yearly (l := l) (G := G) (ad := ad) hok u14 I17 J I19 e20) kLC_0 rfl (gG_V q_828 q_830 q_40 q_133 q_831) nm_X6_yearly ⟨Nat.le_of_ble_eq_true rfl, Nat.le_of_ble_eq_true rfl⟩ rfl rfl (Nat.le_of_ble_eq_true rfl) ⟨Nat.zero_le _, Nat.zero_le _⟩ dX6_years_73 (fun H locs hW => ?_)
      obtain ⟨u22, e23, h⟩ := lz_o h
      refine lv_iinc (v := u22) (lv' := [(4, .int u22), (5, .int u14), (0, .ref (ad 0)), (2, .int u10), (3, .ref (ad 11))]) hx hb dX6_years_76 hl (k := 4) rfl (by rw [e23]; rfl) (by decide) rfl (fun ls hl => ?_)
      refine lv_goto (tgt := 49) hx hb dX6_years_79 (by decide) ?_
      exact ih u10 u22 I19 J _ h hn _ _ hW _ (lv_sub hl [2, 3, 4, 0] rfl) hx1
noncomputable def fX6_years  (x1 : Int32) (x2 : Int32) (I : gI) : Option (Int32 × gI) :=
  gi ((fX6_within x1 (0 : Int32) (9999 : Int32)) = 0)
 (some ((-1 : Int32), I))
 (gi ((fX6_within x2 (1 : Int32) (40 : Int32)) = 0)
 (some ((-1 : Int32), I))
 (bd (fX6_remember I) (fun (I5 : gI) => lz (wI I5 11 8 ((x1 * (2 : Int32)) + (457 : Int32))) (fun (I8 : gI) => bd (fX6_years_49 FU x2 (0 : Int32) I8) (fun (I26 : gI) => some ((I26 11 7), I26))))))
set_option maxHeartbeats 4000000 in
set_option maxRecDepth 100000 in
theorem kX6_years {l : Launch} {G : gG} {ad : Nat → Nat} (hok : gInj LC ad)    (x1 : Int32) (x2 : Int32) (I : gI) (J : gJ) (r : Int32) (I' : gI) (h : fX6_years x1 x2 I = some (r, I')) : gMi l yX6_years cX6_years 6 (some .int) 7 G LC ad [.ref (ad 0), .int x1, .int x2] I J r True I' J := by
  refine gMi_of (lst := [(0, .ref (ad 0)), (1, .int x1), (2, .int x2)]) (by decide) hok (Nat.le_of_ble_eq_true rfl) rfl ?_
  intro p e s m args below meth c Q ls K hW hl hfin
  have hn : (some (r, I') : Option (Int32 × gI)) ≠ none := Option.some_ne_none _
  have hx := K.1; have hb := K.2.1; have hown := K.2.2.2.1; have hts := K.2.2.2.2.1
  unfold fX6_years at h
  refine lv_iload_n hx hb dX6_years_0 rfl (lv_at hl 1 rfl) ?_
  refine lv_iconst (v := (0 : Int32)) hx hb dX6_years_1 (by decide) ?_
  refine lv_sipush (v := (9999 : Int32)) hx hb dX6_years_2 (by decide) ?_
  refine g_callSi (rest := []) K hW hl (kX6_within (l := l) (G := G) (ad := ad) hok x1 (0 : Int32) (9999 : Int32) I J (fX6_within x1 (0 : Int32) (9999 : Int32)) rfl) q_440 q_441 q_133 q_442 nm_X6_within ⟨Nat.le_of_ble_eq_true rfl, Nat.le_of_ble_eq_true rfl⟩ rfl rfl (Nat.le_of_ble_eq_true rfl) ⟨Nat.zero_le _, Nat.zero_le _⟩ dX6_years_5 (fun z1 H locs hW => ?_)
  refine lv_if_eq (tgt := 21) hx hb dX6_years_8 (by decide) (fun c2 => ?_) (fun c2 => ?_)
  · replace h := gi_t h c2
    refine lv_iconst (v := (-1 : Int32)) hx hb dX6_years_21 (by decide) ?_
    obtain ⟨a1, a2⟩ := so2 h
    replace hW := gWd_nI a2 hW
    exact g_nmi a1 (hfin _ _ _ _ hW dX6_years_22)
  · replace h := gi_f h c2
    refine lv_iload_n hx hb dX6_years_11 rfl (lv_at hl 2 rfl) ?_
    refine lv_iconst (v := (1 : Int32)) hx hb dX6_years_12 (by decide) ?_
    refine lv_bipush (v := (40 : Int32)) hx hb dX6_years_13 (by decide) ?_
    refine g_callSi (rest := []) K hW hl (kX6_within (l := l) (G := G) (ad := ad) hok x2 (1 : Int32) (40 : Int32) I J (fX6_within x2 (1 : Int32) (40 : Int32)) rfl) q_440 q_441 q_133 q_442 nm_X6_within ⟨Nat.le_of_ble_eq_true rfl, Nat.le_of_ble_eq_true rfl⟩ rfl rfl (Nat.le_of_ble_eq_true rfl) ⟨Nat.zero_le _, Nat.zero_le _⟩ dX6_years_15 (fun z3 H locs hW => ?_)
    refine lv_if_ne (tgt := 23) hx hb dX6_years_18 (by decide) (fun c4 => ?_) (fun c4 => ?_)
    · replace h := gi_f h c4
      refine lv_aload_n hx hb dX6_years_23 rfl (lv_at hl 0 rfl) ?_
      obtain ⟨I5, e6, h⟩ := bd_o h hn
      refine g_callVv (rest := []) K hW hl (kX6_remember (l := l) (G := G) (ad := ad) hok I J I5 e6) kLC_0 rfl (gG_V q_731 q_733 q_27 q_133 q_734) nm_X6_remember ⟨Nat.le_of_ble_eq_true rfl, Nat.le_of_ble_eq_true rfl⟩ rfl rfl (Nat.le_of_ble_eq_true rfl) ⟨Nat.zero_le _, Nat.zero_le _⟩ dX6_years_24 (fun H locs hW => ?_)
      refine lv_aload_n hx hb dX6_years_27 rfl (lv_at hl 0 rfl) ?_
      refine g_get K hW (t := 2) (ci := 5) (k := 0) (v := .ref (ad 1)) kLC_0 rfl rfl i_X6 (by decide) q_393 rfl (gfv2 rLC_0_0) dX6_years_28 ?_
      refine g_get K hW (t := 2) (ci := 0) (k := 9) (v := .ref (ad 11)) kLC_1 rfl rfl i_X0 (by decide) q_232 rfl (gfv2 rLC_1_9) dX6_years_31 ?_
      refine lv_astore_n (lv' := [(3, .ref (ad 11)), (0, .ref (ad 0)), (1, .int x1), (2, .int x2)]) hx hb dX6_years_34 rfl hl (by decide) rfl (fun ls hl => ?_)
      refine lv_aload_n hx hb dX6_years_35 rfl (lv_at hl 0 rfl) ?_
      refine lv_iload_n hx hb dX6_years_36 rfl (lv_at hl 2 rfl) ?_
      refine lv_iconst (v := (2 : Int32)) hx hb dX6_years_37 (by decide) ?_
      refine lv_imul hx hb dX6_years_38 ?_
      refine lv_sipush (v := (457 : Int32)) hx hb dX6_years_39 (by decide) ?_
      refine lv_iadd hx hb dX6_years_42 ?_
      refine g_putI K hW (ci := 4) (k := 8) kLC_11 rfl rfl i_X5 tyX5_ok nmX5 (by decide) q_189 rfl rfl rfl rfl dX6_years_43 (fun H locs hW => ?_)
      obtain ⟨I8, e9, h⟩ := lz_o h
      replace hW := gWd_nI e9 hW
      refine lv_iconst (v := (0 : Int32)) hx hb dX6_years_46 (by decide) ?_
      refine lv_istore (lv' := [(4, .int (0 : Int32)), (3, .ref (ad 11)), (0, .ref (ad 0)), (1, .int x1), (2, .int x2)]) hx hb dX6_years_47 hl (by decide) rfl (fun ls hl => ?_)
      obtain ⟨r24, e25, h⟩ := bd_o h hn
      refine tX6_years_49 hok K FU x2 (0 : Int32) I8 J (some r24) e25 (Option.some_ne_none _) _ _ hW _ (lv_sub hl [2, 4, 1, 0] rfl) ?_
      · intro I26 q27 H locs hW ls hl
        replace q27 := Option.some.inj q27
        subst q27
        refine lv_aload_n hx hb dX6_years_82 rfl (lv_at hl 0 rfl) ?_
        refine g_get K hW (t := 0) (ci := 4) (k := 7) (v := .int (I26 11 7)) kLC_11 rfl rfl i_X5 (by decide) q_187 rfl rfl dX6_years_83 ?_
        obtain ⟨a1, a2⟩ := so2 h
        replace hW := gWd_nI a2 hW
        exact g_nmi a1 (hfin _ _ _ _ hW dX6_years_86)
    · replace h := gi_t h c4
      refine lv_iconst (v := (-1 : Int32)) hx hb dX6_years_21 (by decide) ?_
      obtain ⟨a1, a2⟩ := so2 h
      replace hW := gWd_nI a2 hW
      exact g_nmi a1 (hfin _ _ _ _ hW dX6_years_22)
noncomputable def fX6_undo_73b  (rec : Int32 → gI → Option ((gI))) (u12 : Int32) (I : gI) : Option ((gI)) :=
  gi ((I 1 12) ≤ u12)
 (some I)
 (gd (vp_in u12 6) (lz (wI I 12 (u12).toNatClampNeg (I 7 (u12).toNatClampNeg)) (fun (I17 : gI) => lz (wI I17 13 (u12).toNatClampNeg (0 : Int32)) (fun (I19 : gI) => lz ((u12 + (1 : Int32))) (fun (u20 : Int32) => rec u20 I19)))))
noncomputable def fX6_undo_73  : Nat → Int32 → gI → Option ((gI))
  | 0 => fun _ _ => none
  | n + 1 => fX6_undo_73b  (fX6_undo_73  n)
set_option maxHeartbeats 4000000 in
set_option maxRecDepth 100000 in
theorem tX6_undo_73 {l : Launch} {G : gG} {ad : Nat → Nat} {p : Program} {e : Env} {s : State} {m : MethodId} {args : Array Value} {below : List Frame} {meth : Method} {c : Code} {Q : State → Prop} (hok : gInj LC ad) (K : gCx G (gA LC ad) p s m args c cX6_undo 3 RX6)  : ∀ (n : Nat) (u12 : Int32) (I : gI) (J : gJ) (out : Option ((gI))), fX6_undo_73  n u12 I = out → out ≠ none → ∀ (H : Heap) (locs : List Loc), gWd G LC ad (gA LC ad) s.heap I J H locs → ∀ (ls : Array Slot), lv_has ls 3 [(0, .ref (ad 0)), (2, .int u12)] → (∀ (I13 : gI), some I13 = out → ∀ (H : Heap) (locs : List Loc), gWd G LC ad (gA LC ad) s.heap I13 J H locs → ∀ (ls : Array Slot), lv_has ls 3 [(0, .ref (ad 0))] → W p l e (gRm 2) s m args below meth c H locs 0 0 Q (F0 m 124 ls [])) → W p l e (gRm 2) s m args below meth c H locs 0 0 Q (F0 m 73 ls []) := by
  have hx := K.1; have hb := K.2.1; have hown := K.2.2.2.1; have hts := K.2.2.2.2.1
  intro n
  induction n with
  | zero => intro u12 I J out h hn; exact absurd h.symm hn
  | succ n ih =>
    intro u12 I J out h hn H locs hW ls hl hx1
    replace h : fX6_undo_73b  (fX6_undo_73  n) u12 I = out := h
    unfold fX6_undo_73b at h
    refine lv_iload_n hx hb dX6_undo_73 rfl (lv_at hl 1 rfl) ?_
    refine lv_aload_n hx hb dX6_undo_74 rfl (lv_at hl 0 rfl) ?_
    refine g_get K hW (t := 2) (ci := 5) (k := 0) (v := .ref (ad 1)) kLC_0 rfl rfl i_X6 (by decide) q_393 rfl (gfv2 rLC_0_0) dX6_undo_75 ?_
    refine g_get K hW (t := 0) (ci := 0) (k := 12) (v := .int (I 1 12)) kLC_1 rfl rfl i_X0 (by decide) q_238 rfl rfl dX6_undo_78 ?_
    refine lv_icmp_ge (tgt := 124) hx hb dX6_undo_81 (by decide) (fun c14 => ?_) (fun c14 => ?_)
    · replace h := gi_t h c14
      exact hx1 I h _ _ hW _ (lv_sub hl [0] rfl)
    · replace h := gi_f h c14
      refine lv_aload_n hx hb dX6_undo_84 rfl (lv_at hl 0 rfl) ?_
      refine g_get K hW (t := 2) (ci := 5) (k := 0) (v := .ref (ad 1)) kLC_0 rfl rfl i_X6 (by decide) q_393 rfl (gfv2 rLC_0_0) dX6_undo_85 ?_
      refine g_get K hW (t := 2) (ci := 0) (k := 9) (v := .ref (ad 11)) kLC_1 rfl rfl i_X0 (by decide) q_232 rfl (gfv2 rLC_1_9) dX6_undo_88 ?_
      refine g_get K hW (t := 2) (ci := 4) (k := 0) (v := .ref (ad 12)) kLC_11 rfl rfl i_X5 (by decide) q_169 rfl (gfv2 rLC_11_0) dX6_undo_91 ?_
      refine lv_iload_n hx hb dX6_undo_94 rfl (lv_at hl 1 rfl) ?_
      refine lv_aload_n hx hb dX6_undo_95 rfl (lv_at hl 0 rfl) ?_
      refine g_get K hW (t := 2) (ci := 5) (k := 0) (v := .ref (ad 1)) kLC_0 rfl rfl i_X6 (by decide) q_393 rfl (gfv2 rLC_0_0) dX6_undo_96 ?_
      refine g_get K hW (t := 2) (ci := 0) (k := 5) (v := .ref (ad 7)) kLC_1 rfl rfl i_X0 (by decide) q_224 rfl (gfv2 rLC_1_5) dX6_undo_99 ?_
      refine lv_iload_n hx hb dX6_undo_102 rfl (lv_at hl 1 rfl) ?_
      obtain ⟨g15, h⟩ := gd_o h hn
      refine g_iald K hW kLC_7 g15 rfl dX6_undo_103 ?_
      refine g_iast K hW kLC_12 g15 rfl dX6_undo_104 (fun H locs hW => ?_)
      obtain ⟨I17, e16, h⟩ := lz_o h
      replace hW := gWd_nI e16 hW
      refine lv_aload_n hx hb dX6_undo_105 rfl (lv_at hl 0 rfl) ?_
      refine g_get K hW (t := 2) (ci := 5) (k := 0) (v := .ref (ad 1)) kLC_0 rfl rfl i_X6 (by decide) q_393 rfl (gfv2 rLC_0_0) dX6_undo_106 ?_
      refine g_get K hW (t := 2) (ci := 0) (k := 9) (v := .ref (ad 11)) kLC_1 rfl rfl i_X0 (by decide) q_232 rfl (gfv2 rLC_1_9) dX6_undo_109 ?_
      refine g_get K hW (t := 2) (ci := 4) (k := 1) (v := .ref (ad 13)) kLC_11 rfl rfl i_X5 (by decide) q_172 rfl (gfv2 rLC_11_1) dX6_undo_112 ?_
      refine lv_iload_n hx hb dX6_undo_115 rfl (lv_at hl 1 rfl) ?_
      refine lv_iconst (v := (0 : Int32)) hx hb dX6_undo_116 (by decide) ?_
      refine g_iast K hW kLC_13 g15 rfl dX6_undo_117 (fun H locs hW => ?_)
      obtain ⟨I19, e18, h⟩ := lz_o h
      replace hW := gWd_nI e18 hW
      obtain ⟨u20, e21, h⟩ := lz_o h
      refine lv_iinc (v := u20) (lv' := [(2, .int u20), (0, .ref (ad 0))]) hx hb dX6_undo_118 hl (k := 1) rfl (by rw [e21]; rfl) (by decide) rfl (fun ls hl => ?_)
      refine lv_goto (tgt := 73) hx hb dX6_undo_121 (by decide) ?_
      exact ih u20 I19 J _ h hn _ _ hW _ (lv_sub hl [1, 0] rfl) hx1
noncomputable def fX6_undo   (I : gI) : Option (Int32 × gI) :=
  gi (0 < (I 1 19))
 (lz (wI I 1 19 ((I 1 19) - (1 : Int32))) (fun (I2 : gI) => lz ((jrem ((I2 1 18) + (I2 1 19)) (30 : Int32))) (fun (u4 : Int32) => gd (vp_in u4 30) (lz (fX5_become 11 (15 + 2 + 4 * (u4).toNatClampNeg) I2) (fun (I7 : gI) => lz ((I7 16 (u4).toNatClampNeg)) (fun (u10 : Int32) => bd (fX6_undo_73 FU u10 I7) (fun (I24 : gI) => some ((I24 1 19), I24))))))))
 (some ((-1 : Int32), I))
set_option maxHeartbeats 4000000 in
set_option maxRecDepth 100000 in
theorem kX6_undo {l : Launch} {G : gG} {ad : Nat → Nat} (hok : gInj LC ad)     (I : gI) (J : gJ) (r : Int32) (I' : gI) (h : fX6_undo I = some (r, I')) : gMi l yX6_undo cX6_undo 3 (some .int) 2 G LC ad [.ref (ad 0)] I J r True I' J := by
  refine gMi_of (lst := [(0, .ref (ad 0))]) (by decide) hok (Nat.le_of_ble_eq_true rfl) rfl ?_
  intro p e s m args below meth c Q ls K hW hl hfin
  have hn : (some (r, I') : Option (Int32 × gI)) ≠ none := Option.some_ne_none _
  have hx := K.1; have hb := K.2.1; have hown := K.2.2.2.1; have hts := K.2.2.2.2.1
  unfold fX6_undo at h
  refine lv_aload_n hx hb dX6_undo_0 rfl (lv_at hl 0 rfl) ?_
  refine g_get K hW (t := 2) (ci := 5) (k := 0) (v := .ref (ad 1)) kLC_0 rfl rfl i_X6 (by decide) q_393 rfl (gfv2 rLC_0_0) dX6_undo_1 ?_
  refine g_get K hW (t := 0) (ci := 0) (k := 19) (v := .int (I 1 19)) kLC_1 rfl rfl i_X0 (by decide) q_253 rfl rfl dX6_undo_4 ?_
  refine lv_if_gt (tgt := 12) hx hb dX6_undo_7 (by decide) (fun c1 => ?_) (fun c1 => ?_)
  · replace h := gi_t h c1
    refine lv_aload_n hx hb dX6_undo_12 rfl (lv_at hl 0 rfl) ?_
    refine g_get K hW (t := 2) (ci := 5) (k := 0) (v := .ref (ad 1)) kLC_0 rfl rfl i_X6 (by decide) q_393 rfl (gfv2 rLC_0_0) dX6_undo_13 ?_
    refine lv_dup hx hb dX6_undo_16 rfl ?_
    refine g_get K hW (t := 0) (ci := 0) (k := 19) (v := .int (I 1 19)) kLC_1 rfl rfl i_X0 (by decide) q_253 rfl rfl dX6_undo_17 ?_
    refine lv_iconst (v := (1 : Int32)) hx hb dX6_undo_20 (by decide) ?_
    refine lv_isub hx hb dX6_undo_21 ?_
    refine g_putI K hW (ci := 0) (k := 19) kLC_1 rfl rfl i_X0 tyX0_ok nmX0 (by decide) q_253 rfl rfl rfl rfl dX6_undo_22 (fun H locs hW => ?_)
    obtain ⟨I2, e3, h⟩ := lz_o h
    replace hW := gWd_nI e3 hW
    refine lv_aload_n hx hb dX6_undo_25 rfl (lv_at hl 0 rfl) ?_
    refine g_get K hW (t := 2) (ci := 5) (k := 0) (v := .ref (ad 1)) kLC_0 rfl rfl i_X6 (by decide) q_393 rfl (gfv2 rLC_0_0) dX6_undo_26 ?_
    refine g_get K hW (t := 0) (ci := 0) (k := 18) (v := .int (I2 1 18)) kLC_1 rfl rfl i_X0 (by decide) q_251 rfl rfl dX6_undo_29 ?_
    refine lv_aload_n hx hb dX6_undo_32 rfl (lv_at hl 0 rfl) ?_
    refine g_get K hW (t := 2) (ci := 5) (k := 0) (v := .ref (ad 1)) kLC_0 rfl rfl i_X6 (by decide) q_393 rfl (gfv2 rLC_0_0) dX6_undo_33 ?_
    refine g_get K hW (t := 0) (ci := 0) (k := 19) (v := .int (I2 1 19)) kLC_1 rfl rfl i_X0 (by decide) q_253 rfl rfl dX6_undo_36 ?_
    refine lv_iadd hx hb dX6_undo_39 ?_
    refine lv_bipush (v := (30 : Int32)) hx hb dX6_undo_40 (by decide) ?_
    refine g_irem hx hb dX6_undo_42 (by decide) ?_
    obtain ⟨u4, e5, h⟩ := lz_o h
    refine g_nmi e5 ?_
    refine lv_istore_n (lv' := [(1, .int u4), (0, .ref (ad 0))]) hx hb dX6_undo_43 rfl hl (by decide) rfl (fun ls hl => ?_)
    refine lv_aload_n hx hb dX6_undo_44 rfl (lv_at hl 1 rfl) ?_
    refine g_get K hW (t := 2) (ci := 5) (k := 0) (v := .ref (ad 1)) kLC_0 rfl rfl i_X6 (by decide) q_393 rfl (gfv2 rLC_0_0) dX6_undo_45 ?_
    refine g_get K hW (t := 2) (ci := 0) (k := 9) (v := .ref (ad 11)) kLC_1 rfl rfl i_X0 (by decide) q_232 rfl (gfv2 rLC_1_9) dX6_undo_48 ?_
    refine lv_aload_n hx hb dX6_undo_51 rfl (lv_at hl 1 rfl) ?_
    refine g_get K hW (t := 2) (ci := 5) (k := 0) (v := .ref (ad 1)) kLC_0 rfl rfl i_X6 (by decide) q_393 rfl (gfv2 rLC_0_0) dX6_undo_52 ?_
    refine g_get K hW (t := 2) (ci := 0) (k := 10) (v := .ref (ad 15)) kLC_1 rfl rfl i_X0 (by decide) q_234 rfl (gfv2 rLC_1_10) dX6_undo_55 ?_
    refine lv_iload_n hx hb dX6_undo_58 rfl (lv_at hl 0 rfl) ?_
    obtain ⟨g6, h⟩ := gd_o h hn
    refine g_aald5 K hW kLC_15 g6 (rWa kLC_15 g6) dX6_undo_59 ?_
    obtain ⟨I7, e8, h⟩ := lz_o h
    refine g_callVv (rest := []) K hW hl (kX5_become (l := l) (G := G) (ad := ad) hok 11 (15 + 2 + 4 * (u4).toNatClampNeg) kLC_11 (kWa kLC_15 g6) I2 J I7 e8.symm) kLC_11 rfl (gG_V q_735 q_736 q_737 q_135 q_738) nm_X5_become ⟨Nat.le_of_ble_eq_true rfl, Nat.le_of_ble_eq_true rfl⟩ rfl rfl (Nat.le_of_ble_eq_true rfl) ⟨Nat.zero_le _, Nat.zero_le _⟩ dX6_undo_60 (fun H locs hW => ?_)
    refine lv_aload_n hx hb dX6_undo_63 rfl (lv_at hl 1 rfl) ?_
    refine g_get K hW (t := 2) (ci := 5) (k := 0) (v := .ref (ad 1)) kLC_0 rfl rfl i_X6 (by decide) q_393 rfl (gfv2 rLC_0_0) dX6_undo_64 ?_
    refine g_get K hW (t := 2) (ci := 0) (k := 11) (v := .ref (ad 16)) kLC_1 rfl rfl i_X0 (by decide) q_236 rfl (gfv2 rLC_1_11) dX6_undo_67 ?_
    refine lv_iload_n hx hb dX6_undo_70 rfl (lv_at hl 0 rfl) ?_
    refine g_iald K hW kLC_16 g6 rfl dX6_undo_71 ?_
    obtain ⟨u10, e11, h⟩ := lz_o h
    refine g_nmi e11 ?_
    refine lv_istore_n (lv' := [(2, .int u10), (1, .int u4), (0, .ref (ad 0))]) hx hb dX6_undo_72 rfl hl (by decide) rfl (fun ls hl => ?_)
    obtain ⟨r22, e23, h⟩ := bd_o h hn
    refine tX6_undo_73 hok K FU u10 I7 J (some r22) e23 (Option.some_ne_none _) _ _ hW _ (lv_sub hl [2, 0] rfl) ?_
    · intro I24 q25 H locs hW ls hl
      replace q25 := Option.some.inj q25
      subst q25
      refine lv_aload_n hx hb dX6_undo_124 rfl (lv_at hl 0 rfl) ?_
      refine g_get K hW (t := 2) (ci := 5) (k := 0) (v := .ref (ad 1)) kLC_0 rfl rfl i_X6 (by decide) q_393 rfl (gfv2 rLC_0_0) dX6_undo_125 ?_
      refine g_get K hW (t := 0) (ci := 0) (k := 19) (v := .int (I24 1 19)) kLC_1 rfl rfl i_X0 (by decide) q_253 rfl rfl dX6_undo_128 ?_
      obtain ⟨a1, a2⟩ := so2 h
      replace hW := gWd_nI a2 hW
      exact g_nmi a1 (hfin _ _ _ _ hW dX6_undo_131)
  · replace h := gi_f h c1
    refine lv_iconst (v := (-1 : Int32)) hx hb dX6_undo_10 (by decide) ?_
    obtain ⟨a1, a2⟩ := so2 h
    replace hW := gWd_nI a2 hW
    exact g_nmi a1 (hfin _ _ _ _ hW dX6_undo_11)
theorem kLC_137 : gAt LC 137 0 0 := ⟨by decide, by decide +kernel⟩
theorem rLC_0_1 : LC.2.2 0 1 = some 137 := by decide +kernel
theorem nm_X0_become : gNm yX0_become 1 := by decide +kernel
noncomputable def fX6_image   (I : gI) : Option (Int32 × gI) :=
  bd (fX0_become 137 1 I) (fun (I1 : gI) => some ((I1 11 7), I1))
set_option maxHeartbeats 4000000 in
set_option maxRecDepth 100000 in
theorem kX6_image {l : Launch} {G : gG} {ad : Nat → Nat} (hok : gInj LC ad)     (I : gI) (J : gJ) (r : Int32) (I' : gI) (h : fX6_image I = some (r, I')) : gMi l yX6_image cX6_image 1 (some .int) 3 G LC ad [.ref (ad 0)] I J r True I' J := by
  refine gMi_of (lst := [(0, .ref (ad 0))]) (by decide) hok (Nat.le_of_ble_eq_true rfl) rfl ?_
  intro p e s m args below meth c Q ls K hW hl hfin
  have hn : (some (r, I') : Option (Int32 × gI)) ≠ none := Option.some_ne_none _
  have hx := K.1; have hb := K.2.1; have hown := K.2.2.2.1; have hts := K.2.2.2.2.1
  unfold fX6_image at h
  refine lv_aload_n hx hb dX6_image_0 rfl (lv_at hl 0 rfl) ?_
  refine g_get K hW (t := 2) (ci := 5) (k := 1) (v := .ref (ad 137)) kLC_0 rfl rfl i_X6 (by decide) q_394 rfl (gfv2 rLC_0_1) dX6_image_1 ?_
  refine lv_aload_n hx hb dX6_image_4 rfl (lv_at hl 0 rfl) ?_
  refine g_get K hW (t := 2) (ci := 5) (k := 0) (v := .ref (ad 1)) kLC_0 rfl rfl i_X6 (by decide) q_393 rfl (gfv2 rLC_0_0) dX6_image_5 ?_
  obtain ⟨I1, e2, h⟩ := bd_o h hn
  refine g_callVv (rest := []) K hW hl (kX0_become (l := l) (G := G) (ad := ad) hok 137 1 kLC_137 kLC_1 I J I1 e2) kLC_137 rfl (gG_V q_840 q_841 q_842 q_134 q_843) nm_X0_become ⟨Nat.le_of_ble_eq_true rfl, Nat.le_of_ble_eq_true rfl⟩ rfl rfl (Nat.le_of_ble_eq_true rfl) ⟨Nat.zero_le _, Nat.zero_le _⟩ dX6_image_8 (fun H locs hW => ?_)
  refine lv_aload_n hx hb dX6_image_11 rfl (lv_at hl 0 rfl) ?_
  refine g_get K hW (t := 2) (ci := 5) (k := 0) (v := .ref (ad 1)) kLC_0 rfl rfl i_X6 (by decide) q_393 rfl (gfv2 rLC_0_0) dX6_image_12 ?_
  refine g_get K hW (t := 2) (ci := 0) (k := 9) (v := .ref (ad 11)) kLC_1 rfl rfl i_X0 (by decide) q_232 rfl (gfv2 rLC_1_9) dX6_image_15 ?_
  refine g_get K hW (t := 0) (ci := 4) (k := 7) (v := .int (I1 11 7)) kLC_11 rfl rfl i_X5 (by decide) q_187 rfl rfl dX6_image_18 ?_
  obtain ⟨a1, a2⟩ := so2 h
  replace hW := gWd_nI a2 hW
  exact g_nmi a1 (hfin _ _ _ _ hW dX6_image_21)
noncomputable def fX6_back   (I : gI) : Option (Int32 × gI) :=
  bd (fX0_become 1 137 I) (fun (I1 : gI) => some ((I1 11 7), I1))
set_option maxHeartbeats 4000000 in
set_option maxRecDepth 100000 in
theorem kX6_back {l : Launch} {G : gG} {ad : Nat → Nat} (hok : gInj LC ad)     (I : gI) (J : gJ) (r : Int32) (I' : gI) (h : fX6_back I = some (r, I')) : gMi l yX6_back cX6_back 1 (some .int) 3 G LC ad [.ref (ad 0)] I J r True I' J := by
  refine gMi_of (lst := [(0, .ref (ad 0))]) (by decide) hok (Nat.le_of_ble_eq_true rfl) rfl ?_
  intro p e s m args below meth c Q ls K hW hl hfin
  have hn : (some (r, I') : Option (Int32 × gI)) ≠ none := Option.some_ne_none _
  have hx := K.1; have hb := K.2.1; have hown := K.2.2.2.1; have hts := K.2.2.2.2.1
  unfold fX6_back at h
  refine lv_aload_n hx hb dX6_back_0 rfl (lv_at hl 0 rfl) ?_
  refine g_get K hW (t := 2) (ci := 5) (k := 0) (v := .ref (ad 1)) kLC_0 rfl rfl i_X6 (by decide) q_393 rfl (gfv2 rLC_0_0) dX6_back_1 ?_
  refine lv_aload_n hx hb dX6_back_4 rfl (lv_at hl 0 rfl) ?_
  refine g_get K hW (t := 2) (ci := 5) (k := 1) (v := .ref (ad 137)) kLC_0 rfl rfl i_X6 (by decide) q_394 rfl (gfv2 rLC_0_1) dX6_back_5 ?_
  obtain ⟨I1, e2, h⟩ := bd_o h hn
  refine g_callVv (rest := []) K hW hl (kX0_become (l := l) (G := G) (ad := ad) hok 1 137 kLC_1 kLC_137 I J I1 e2) kLC_1 rfl (gG_V q_840 q_841 q_842 q_134 q_843) nm_X0_become ⟨Nat.le_of_ble_eq_true rfl, Nat.le_of_ble_eq_true rfl⟩ rfl rfl (Nat.le_of_ble_eq_true rfl) ⟨Nat.zero_le _, Nat.zero_le _⟩ dX6_back_8 (fun H locs hW => ?_)
  refine lv_aload_n hx hb dX6_back_11 rfl (lv_at hl 0 rfl) ?_
  refine g_get K hW (t := 2) (ci := 5) (k := 0) (v := .ref (ad 1)) kLC_0 rfl rfl i_X6 (by decide) q_393 rfl (gfv2 rLC_0_0) dX6_back_12 ?_
  refine g_get K hW (t := 2) (ci := 0) (k := 9) (v := .ref (ad 11)) kLC_1 rfl rfl i_X0 (by decide) q_232 rfl (gfv2 rLC_1_9) dX6_back_15 ?_
  refine g_get K hW (t := 0) (ci := 4) (k := 7) (v := .int (I1 11 7)) kLC_11 rfl rfl i_X5 (by decide) q_187 rfl rfl dX6_back_18 ?_
  obtain ⟨a1, a2⟩ := so2 h
  replace hW := gWd_nI a2 hW
  exact g_nmi a1 (hfin _ _ _ _ hW dX6_back_21)
noncomputable def fX6_of  (x1 : Int32) (x2 : Int32) (I : gI) : Option (Int32 × gI) :=
  gi ((fX6_isBuyer x1 I) = 0)
 (some ((-10 : Int32), I))
 (gi (x2 = (0 : Int32))
 (gd (vp_in x1 6) (some ((I 4 (x1).toNatClampNeg), I)))
 (gi (x2 = (1 : Int32))
 (gd (vp_in x1 6) (some ((I 5 (x1).toNatClampNeg), I)))
 (gi (x2 = (2 : Int32))
 (gd (vp_in x1 6) (some ((I 6 (x1).toNatClampNeg), I)))
 (gi (x2 = (3 : Int32))
 (gd (vp_in x1 6) (some ((I 12 (x1).toNatClampNeg), I)))
 (gi (x2 = (4 : Int32))
 (bd (fX6_bidsNow x1 I) (pr (fun (u12 : Int32) (I13 : gI) => some (u12, I13))))
 (gi (x2 = (5 : Int32))
 (bd (fX6_earns 11 x1 I) (pr (fun (u17 : Int32) (I18 : gI) => some (u17, I18))))
 (gi (x2 = (6 : Int32))
 (gd (vp_in x1 6) (some ((fJ6_bitCount_0f7a4 (I 13 (x1).toNatClampNeg)), I)))
 (some ((-10 : Int32), I)))))))))
set_option maxHeartbeats 4000000 in
set_option maxRecDepth 100000 in
theorem kX6_of {l : Launch} {G : gG} {ad : Nat → Nat} (hok : gInj LC ad)    (x1 : Int32) (x2 : Int32) (I : gI) (J : gJ) (r : Int32) (I' : gI) (h : fX6_of x1 x2 I = some (r, I')) : gMi l yX6_of cX6_of 3 (some .int) 6 G LC ad [.ref (ad 0), .int x1, .int x2] I J r True I' J := by
  refine gMi_of (lst := [(0, .ref (ad 0)), (1, .int x1), (2, .int x2)]) (by decide) hok (Nat.le_of_ble_eq_true rfl) rfl ?_
  intro p e s m args below meth c Q ls K hW hl hfin
  have hn : (some (r, I') : Option (Int32 × gI)) ≠ none := Option.some_ne_none _
  have hx := K.1; have hb := K.2.1; have hown := K.2.2.2.1; have hts := K.2.2.2.2.1
  unfold fX6_of at h
  refine lv_aload_n hx hb dX6_of_0 rfl (lv_at hl 0 rfl) ?_
  refine lv_iload_n hx hb dX6_of_1 rfl (lv_at hl 1 rfl) ?_
  refine g_callVi (rest := []) K hW hl (kX6_isBuyer (l := l) (G := G) (ad := ad) hok x1 I J (fX6_isBuyer x1 I) rfl) kLC_0 rfl (gG_V q_461 q_463 q_0 q_133 q_464) nm_X6_isBuyer ⟨Nat.le_of_ble_eq_true rfl, Nat.le_of_ble_eq_true rfl⟩ rfl rfl (Nat.le_of_ble_eq_true rfl) ⟨Nat.zero_le _, Nat.zero_le _⟩ dX6_of_2 (fun z1 H locs hW => ?_)
  refine lv_if_ne (tgt := 11) hx hb dX6_of_5 (by decide) (fun c2 => ?_) (fun c2 => ?_)
  · replace h := gi_f h c2
    refine lv_iload_n hx hb dX6_of_11 rfl (lv_at hl 2 rfl) ?_
    rcases Classical.em (x2 = (0 : Int32)) with c3 | c3
    · replace h := gi_t h c3
      refine g_tabIn (k := (0 : Int32)) (tgt := 56) (off := 44) hx hb c3 dX6_of_12 (by decide) (by decide) (by decide) (by decide) ?_
      refine lv_aload_n hx hb dX6_of_56 rfl (lv_at hl 0 rfl) ?_
      refine g_get K hW (t := 2) (ci := 5) (k := 0) (v := .ref (ad 1)) kLC_0 rfl rfl i_X6 (by decide) q_393 rfl (gfv2 rLC_0_0) dX6_of_57 ?_
      refine g_get K hW (t := 2) (ci := 0) (k := 2) (v := .ref (ad 4)) kLC_1 rfl rfl i_X0 (by decide) q_217 rfl (gfv2 rLC_1_2) dX6_of_60 ?_
      refine lv_iload_n hx hb dX6_of_63 rfl (lv_at hl 1 rfl) ?_
      obtain ⟨g4, h⟩ := gd_o h hn
      refine g_iald K hW kLC_4 g4 rfl dX6_of_64 ?_
      obtain ⟨a1, a2⟩ := so2 h
      replace hW := gWd_nI a2 hW
      exact g_nmi a1 (hfin _ _ _ _ hW dX6_of_65)
    · replace h := gi_f h c3
      rcases Classical.em (x2 = (1 : Int32)) with c5 | c5
      · replace h := gi_t h c5
        refine g_tabIn (k := (1 : Int32)) (tgt := 66) (off := 54) hx hb c5 dX6_of_12 (by decide) (by decide) (by decide) (by decide) ?_
        refine lv_aload_n hx hb dX6_of_66 rfl (lv_at hl 0 rfl) ?_
        refine g_get K hW (t := 2) (ci := 5) (k := 0) (v := .ref (ad 1)) kLC_0 rfl rfl i_X6 (by decide) q_393 rfl (gfv2 rLC_0_0) dX6_of_67 ?_
        refine g_get K hW (t := 2) (ci := 0) (k := 3) (v := .ref (ad 5)) kLC_1 rfl rfl i_X0 (by decide) q_220 rfl (gfv2 rLC_1_3) dX6_of_70 ?_
        refine lv_iload_n hx hb dX6_of_73 rfl (lv_at hl 1 rfl) ?_
        obtain ⟨g6, h⟩ := gd_o h hn
        refine g_iald K hW kLC_5 g6 rfl dX6_of_74 ?_
        obtain ⟨a1, a2⟩ := so2 h
        replace hW := gWd_nI a2 hW
        exact g_nmi a1 (hfin _ _ _ _ hW dX6_of_75)
      · replace h := gi_f h c5
        rcases Classical.em (x2 = (2 : Int32)) with c7 | c7
        · replace h := gi_t h c7
          refine g_tabIn (k := (2 : Int32)) (tgt := 76) (off := 64) hx hb c7 dX6_of_12 (by decide) (by decide) (by decide) (by decide) ?_
          refine lv_aload_n hx hb dX6_of_76 rfl (lv_at hl 0 rfl) ?_
          refine g_get K hW (t := 2) (ci := 5) (k := 0) (v := .ref (ad 1)) kLC_0 rfl rfl i_X6 (by decide) q_393 rfl (gfv2 rLC_0_0) dX6_of_77 ?_
          refine g_get K hW (t := 2) (ci := 0) (k := 4) (v := .ref (ad 6)) kLC_1 rfl rfl i_X0 (by decide) q_222 rfl (gfv2 rLC_1_4) dX6_of_80 ?_
          refine lv_iload_n hx hb dX6_of_83 rfl (lv_at hl 1 rfl) ?_
          obtain ⟨g8, h⟩ := gd_o h hn
          refine g_iald K hW kLC_6 g8 rfl dX6_of_84 ?_
          obtain ⟨a1, a2⟩ := so2 h
          replace hW := gWd_nI a2 hW
          exact g_nmi a1 (hfin _ _ _ _ hW dX6_of_85)
        · replace h := gi_f h c7
          rcases Classical.em (x2 = (3 : Int32)) with c9 | c9
          · replace h := gi_t h c9
            refine g_tabIn (k := (3 : Int32)) (tgt := 86) (off := 74) hx hb c9 dX6_of_12 (by decide) (by decide) (by decide) (by decide) ?_
            refine lv_aload_n hx hb dX6_of_86 rfl (lv_at hl 0 rfl) ?_
            refine g_get K hW (t := 2) (ci := 5) (k := 0) (v := .ref (ad 1)) kLC_0 rfl rfl i_X6 (by decide) q_393 rfl (gfv2 rLC_0_0) dX6_of_87 ?_
            refine g_get K hW (t := 2) (ci := 0) (k := 9) (v := .ref (ad 11)) kLC_1 rfl rfl i_X0 (by decide) q_232 rfl (gfv2 rLC_1_9) dX6_of_90 ?_
            refine g_get K hW (t := 2) (ci := 4) (k := 0) (v := .ref (ad 12)) kLC_11 rfl rfl i_X5 (by decide) q_169 rfl (gfv2 rLC_11_0) dX6_of_93 ?_
            refine lv_iload_n hx hb dX6_of_96 rfl (lv_at hl 1 rfl) ?_
            obtain ⟨g10, h⟩ := gd_o h hn
            refine g_iald K hW kLC_12 g10 rfl dX6_of_97 ?_
            obtain ⟨a1, a2⟩ := so2 h
            replace hW := gWd_nI a2 hW
            exact g_nmi a1 (hfin _ _ _ _ hW dX6_of_98)
          · replace h := gi_f h c9
            rcases Classical.em (x2 = (4 : Int32)) with c11 | c11
            · replace h := gi_t h c11
              refine g_tabIn (k := (4 : Int32)) (tgt := 99) (off := 87) hx hb c11 dX6_of_12 (by decide) (by decide) (by decide) (by decide) ?_
              refine lv_aload_n hx hb dX6_of_99 rfl (lv_at hl 0 rfl) ?_
              refine lv_iload_n hx hb dX6_of_100 rfl (lv_at hl 1 rfl) ?_
              obtain ⟨⟨u12, I13⟩, e14, h⟩ := bd_o h hn
              replace h := pr_o h
              refine g_callVi (rest := []) K hW hl (kX6_bidsNow (l := l) (G := G) (ad := ad) hok x1 I J u12 I13 e14) kLC_0 rfl (gG_V q_780 q_782 q_33 q_133 q_783) nm_X6_bidsNow ⟨Nat.le_of_ble_eq_true rfl, Nat.le_of_ble_eq_true rfl⟩ rfl rfl (Nat.le_of_ble_eq_true rfl) ⟨Nat.zero_le _, Nat.zero_le _⟩ dX6_of_101 (fun z15 H locs hW => ?_)
              obtain ⟨a1, a2⟩ := so2 h
              replace hW := gWd_nI a2 hW
              exact g_nmi a1 (hfin _ _ _ _ hW dX6_of_104)
            · replace h := gi_f h c11
              rcases Classical.em (x2 = (5 : Int32)) with c16 | c16
              · replace h := gi_t h c16
                refine g_tabIn (k := (5 : Int32)) (tgt := 105) (off := 93) hx hb c16 dX6_of_12 (by decide) (by decide) (by decide) (by decide) ?_
                refine lv_aload_n hx hb dX6_of_105 rfl (lv_at hl 0 rfl) ?_
                refine lv_aload_n hx hb dX6_of_106 rfl (lv_at hl 0 rfl) ?_
                refine g_get K hW (t := 2) (ci := 5) (k := 0) (v := .ref (ad 1)) kLC_0 rfl rfl i_X6 (by decide) q_393 rfl (gfv2 rLC_0_0) dX6_of_107 ?_
                refine g_get K hW (t := 2) (ci := 0) (k := 9) (v := .ref (ad 11)) kLC_1 rfl rfl i_X0 (by decide) q_232 rfl (gfv2 rLC_1_9) dX6_of_110 ?_
                refine lv_iload_n hx hb dX6_of_113 rfl (lv_at hl 1 rfl) ?_
                obtain ⟨⟨u17, I18⟩, e19, h⟩ := bd_o h hn
                replace h := pr_o h
                refine g_callVi (rest := []) K hW hl (kX6_earns (l := l) (G := G) (ad := ad) hok 11 kLC_11 x1 I J u17 I18 e19) kLC_0 rfl (gG_V q_796 q_798 q_36 q_133 q_799) nm_X6_earns ⟨Nat.le_of_ble_eq_true rfl, Nat.le_of_ble_eq_true rfl⟩ rfl rfl (Nat.le_of_ble_eq_true rfl) ⟨Nat.zero_le _, Nat.zero_le _⟩ dX6_of_114 (fun z20 H locs hW => ?_)
                obtain ⟨a1, a2⟩ := so2 h
                replace hW := gWd_nI a2 hW
                exact g_nmi a1 (hfin _ _ _ _ hW dX6_of_117)
              · replace h := gi_f h c16
                rcases Classical.em (x2 = (6 : Int32)) with c21 | c21
                · replace h := gi_t h c21
                  refine g_tabIn (k := (6 : Int32)) (tgt := 118) (off := 106) hx hb c21 dX6_of_12 (by decide) (by decide) (by decide) (by decide) ?_
                  refine lv_aload_n hx hb dX6_of_118 rfl (lv_at hl 0 rfl) ?_
                  refine g_get K hW (t := 2) (ci := 5) (k := 0) (v := .ref (ad 1)) kLC_0 rfl rfl i_X6 (by decide) q_393 rfl (gfv2 rLC_0_0) dX6_of_119 ?_
                  refine g_get K hW (t := 2) (ci := 0) (k := 9) (v := .ref (ad 11)) kLC_1 rfl rfl i_X0 (by decide) q_232 rfl (gfv2 rLC_1_9) dX6_of_122 ?_
                  refine g_get K hW (t := 2) (ci := 4) (k := 1) (v := .ref (ad 13)) kLC_11 rfl rfl i_X5 (by decide) q_172 rfl (gfv2 rLC_11_1) dX6_of_125 ?_
                  refine lv_iload_n hx hb dX6_of_128 rfl (lv_at hl 1 rfl) ?_
                  obtain ⟨g22, h⟩ := gd_o h hn
                  refine g_iald K hW kLC_13 g22 rfl dX6_of_129 ?_
                  refine g_callSi (rest := []) K hW hl (kJ6_bitCount_0f7a4 (l := l) (G := G) (ad := ad) hok (I 13 (x1).toNatClampNeg) I J (fJ6_bitCount_0f7a4 (I 13 (x1).toNatClampNeg)) rfl) q_465 q_466 q_146 q_467 nm_J6_bitCount_0f7a4 ⟨Nat.le_of_ble_eq_true rfl, Nat.le_of_ble_eq_true rfl⟩ rfl rfl (Nat.le_of_ble_eq_true rfl) ⟨Nat.zero_le _, Nat.zero_le _⟩ dX6_of_130 (fun z23 H locs hW => ?_)
                  obtain ⟨a1, a2⟩ := so2 h
                  replace hW := gWd_nI a2 hW
                  exact g_nmi a1 (hfin _ _ _ _ hW dX6_of_133)
                · replace h := gi_f h c21
                  refine lv_tableOut (tgt := 134) hx hb dX6_of_12 (by have := lv_neT (a := 0) c3 (by decide); have := lv_neT (a := 1) c5 (by decide); have := lv_neT (a := 2) c7 (by decide); have := lv_neT (a := 3) c9 (by decide); have := lv_neT (a := 4) c11 (by decide); have := lv_neT (a := 5) c16 (by decide); have := lv_neT (a := 6) c21 (by decide); omega) (by decide) ?_
                  refine lv_bipush (v := (-10 : Int32)) hx hb dX6_of_134 (by decide) ?_
                  obtain ⟨a1, a2⟩ := so2 h
                  replace hW := gWd_nI a2 hW
                  exact g_nmi a1 (hfin _ _ _ _ hW dX6_of_136)
  · replace h := gi_t h c2
    refine lv_bipush (v := (-10 : Int32)) hx hb dX6_of_8 (by decide) ?_
    obtain ⟨a1, a2⟩ := so2 h
    replace hW := gWd_nI a2 hW
    exact g_nmi a1 (hfin _ _ _ _ hW dX6_of_10)
noncomputable def fX6_ofSort  (x1 : Int32) (x2 : Int32) (I : gI) : Option (Int32) :=
  gi ((fX6_isSort x1) = 0)
 (some (-1 : Int32))
 (gi (x2 = (0 : Int32))
 (gd (vp_in x1 5) (some (I 2 (x1).toNatClampNeg)))
 (gi (x2 = (1 : Int32))
 (gd (vp_in x1 5) (some (I 3 (x1).toNatClampNeg)))
 (some (-1 : Int32))))
set_option maxHeartbeats 4000000 in
set_option maxRecDepth 100000 in
theorem kX6_ofSort {l : Launch} {G : gG} {ad : Nat → Nat} (hok : gInj LC ad)    (x1 : Int32) (x2 : Int32) (I : gI) (J : gJ) (r : Int32) (h : fX6_ofSort x1 x2 I = some r) : gMi l yX6_ofSort cX6_ofSort 3 (some .int) 2 G LC ad [.ref (ad 0), .int x1, .int x2] I J r True I J := by
  refine gMi_of (lst := [(0, .ref (ad 0)), (1, .int x1), (2, .int x2)]) (by decide) hok (Nat.le_of_ble_eq_true rfl) rfl ?_
  intro p e s m args below meth c Q ls K hW hl hfin
  have hn : (some r : Option (Int32)) ≠ none := Option.some_ne_none _
  have hx := K.1; have hb := K.2.1; have hown := K.2.2.2.1; have hts := K.2.2.2.2.1
  unfold fX6_ofSort at h
  refine lv_iload_n hx hb dX6_ofSort_0 rfl (lv_at hl 1 rfl) ?_
  refine g_callSi (rest := []) K hW hl (kX6_isSort (l := l) (G := G) (ad := ad) hok x1 I J (fX6_isSort x1) rfl) q_437 q_438 q_133 q_439 nm_X6_isSort ⟨Nat.le_of_ble_eq_true rfl, Nat.le_of_ble_eq_true rfl⟩ rfl rfl (Nat.le_of_ble_eq_true rfl) ⟨Nat.zero_le _, Nat.zero_le _⟩ dX6_ofSort_1 (fun z1 H locs hW => ?_)
  refine lv_if_ne (tgt := 9) hx hb dX6_ofSort_4 (by decide) (fun c2 => ?_) (fun c2 => ?_)
  · replace h := gi_f h c2
    refine lv_iload_n hx hb dX6_ofSort_9 rfl (lv_at hl 2 rfl) ?_
    rcases Classical.em (x2 = (0 : Int32)) with c3 | c3
    · replace h := gi_t h c3
      refine g_lookIn (k := (0 : Int32)) (tgt := 36) (off := 26) hx hb c3 dX6_ofSort_10 (by decide) (by decide) (by decide) ?_
      refine lv_aload_n hx hb dX6_ofSort_36 rfl (lv_at hl 0 rfl) ?_
      refine g_get K hW (t := 2) (ci := 5) (k := 0) (v := .ref (ad 1)) kLC_0 rfl rfl i_X6 (by decide) q_393 rfl (gfv2 rLC_0_0) dX6_ofSort_37 ?_
      refine g_get K hW (t := 2) (ci := 0) (k := 0) (v := .ref (ad 2)) kLC_1 rfl rfl i_X0 (by decide) q_212 rfl (gfv2 rLC_1_0) dX6_ofSort_40 ?_
      refine lv_iload_n hx hb dX6_ofSort_43 rfl (lv_at hl 1 rfl) ?_
      obtain ⟨g4, h⟩ := gd_o h hn
      refine g_iald K hW kLC_2 g4 rfl dX6_ofSort_44 ?_
      obtain a1 := so1 h
      exact g_nmi a1 (hfin _ _ _ _ hW dX6_ofSort_45)
    · replace h := gi_f h c3
      rcases Classical.em (x2 = (1 : Int32)) with c5 | c5
      · replace h := gi_t h c5
        refine g_lookIn (k := (1 : Int32)) (tgt := 46) (off := 36) hx hb c5 dX6_ofSort_10 (by decide) (by decide) (by decide) ?_
        refine lv_aload_n hx hb dX6_ofSort_46 rfl (lv_at hl 0 rfl) ?_
        refine g_get K hW (t := 2) (ci := 5) (k := 0) (v := .ref (ad 1)) kLC_0 rfl rfl i_X6 (by decide) q_393 rfl (gfv2 rLC_0_0) dX6_ofSort_47 ?_
        refine g_get K hW (t := 2) (ci := 0) (k := 1) (v := .ref (ad 3)) kLC_1 rfl rfl i_X0 (by decide) q_214 rfl (gfv2 rLC_1_1) dX6_ofSort_50 ?_
        refine lv_iload_n hx hb dX6_ofSort_53 rfl (lv_at hl 1 rfl) ?_
        obtain ⟨g6, h⟩ := gd_o h hn
        refine g_iald K hW kLC_3 g6 rfl dX6_ofSort_54 ?_
        obtain a1 := so1 h
        exact g_nmi a1 (hfin _ _ _ _ hW dX6_ofSort_55)
      · replace h := gi_f h c5
        refine lv_lookup (tgt := 56) (off := 46) hx hb dX6_ofSort_10 (by decide) (by show Op.lookupswitch.offset [(0, 26), (1, 36)] (46) x2.toInt = _; rw [lv_osw c3 (by decide), lv_osw c5 (by decide)]; rfl) (by decide) ?_
        refine lv_iconst (v := (-1 : Int32)) hx hb dX6_ofSort_56 (by decide) ?_
        obtain a1 := so1 h
        exact g_nmi a1 (hfin _ _ _ _ hW dX6_ofSort_57)
  · replace h := gi_t h c2
    refine lv_iconst (v := (-1 : Int32)) hx hb dX6_ofSort_7 (by decide) ?_
    obtain a1 := so1 h
    exact g_nmi a1 (hfin _ _ _ _ hW dX6_ofSort_8)
noncomputable def fX6_at_22b  (rec : Int32 → Int32 → gI → Option ((Int32) ⊕ (Unit))) (u5 : Int32) (u6 : Int32) (I : gI) : Option ((Int32) ⊕ (Unit)) :=
  gi ((I 1 12) ≤ u6)
 (some (Sum.inr ()))
 (gd (vp_in u6 6) (gi (((jshr (I 13 (u6).toNatClampNeg) u5) &&& (1 : Int32)) = (1 : Int32))
 (some (Sum.inl u6))
 (lz ((u6 + (1 : Int32))) (fun (u11 : Int32) => rec u5 u11 I))))
noncomputable def fX6_at_22  : Nat → Int32 → Int32 → gI → Option ((Int32) ⊕ (Unit))
  | 0 => fun _ _ _ => none
  | n + 1 => fX6_at_22b  (fX6_at_22  n)
set_option maxHeartbeats 4000000 in
set_option maxRecDepth 100000 in
theorem tX6_at_22 {l : Launch} {G : gG} {ad : Nat → Nat} {p : Program} {e : Env} {s : State} {m : MethodId} {args : Array Value} {below : List Frame} {meth : Method} {c : Code} {Q : State → Prop} (hok : gInj LC ad) (K : gCx G (gA LC ad) p s m args c cX6_at 3 RX6)  : ∀ (n : Nat) (u5 : Int32) (u6 : Int32) (I : gI) (J : gJ) (out : Option ((Int32) ⊕ (Unit))), fX6_at_22  n u5 u6 I = out → out ≠ none → ∀ (H : Heap) (locs : List Loc), gWd G LC ad (gA LC ad) s.heap I J H locs → ∀ (ls : Array Slot), lv_has ls 3 [(0, .ref (ad 0)), (1, .int u5), (2, .int u6)] → (∀ (y7 : Int32), some (Sum.inl y7) = out → ∀ (H : Heap) (locs : List Loc), gWd G LC ad (gA LC ad) s.heap I J H locs → ∀ (ls : Array Slot), lv_has ls 3 [(2, .int y7)] → W p l e (gRm 3) s m args below meth c H locs 0 0 Q (F0 m 53 ls [])) → (some (Sum.inr ()) = out → ∀ (H : Heap) (locs : List Loc), gWd G LC ad (gA LC ad) s.heap I J H locs → ∀ (ls : Array Slot), lv_has ls 3 [] → W p l e (gRm 3) s m args below meth c H locs 0 0 Q (F0 m 61 ls [])) → W p l e (gRm 3) s m args below meth c H locs 0 0 Q (F0 m 22 ls []) := by
  have hx := K.1; have hb := K.2.1; have hown := K.2.2.2.1; have hts := K.2.2.2.2.1
  intro n
  induction n with
  | zero => intro u5 u6 I J out h hn; exact absurd h.symm hn
  | succ n ih =>
    intro u5 u6 I J out h hn H locs hW ls hl hx1 hx2
    replace h : fX6_at_22b  (fX6_at_22  n) u5 u6 I = out := h
    unfold fX6_at_22b at h
    refine lv_iload_n hx hb dX6_at_22 rfl (lv_at hl 2 rfl) ?_
    refine lv_aload_n hx hb dX6_at_23 rfl (lv_at hl 0 rfl) ?_
    refine g_get K hW (t := 2) (ci := 5) (k := 0) (v := .ref (ad 1)) kLC_0 rfl rfl i_X6 (by decide) q_393 rfl (gfv2 rLC_0_0) dX6_at_24 ?_
    refine g_get K hW (t := 0) (ci := 0) (k := 12) (v := .int (I 1 12)) kLC_1 rfl rfl i_X0 (by decide) q_238 rfl rfl dX6_at_27 ?_
    refine lv_icmp_ge (tgt := 61) hx hb dX6_at_30 (by decide) (fun c8 => ?_) (fun c8 => ?_)
    · replace h := gi_t h c8
      exact hx2 h _ _ hW _ (lv_sub hl [] rfl)
    · replace h := gi_f h c8
      refine lv_aload_n hx hb dX6_at_33 rfl (lv_at hl 0 rfl) ?_
      refine g_get K hW (t := 2) (ci := 5) (k := 0) (v := .ref (ad 1)) kLC_0 rfl rfl i_X6 (by decide) q_393 rfl (gfv2 rLC_0_0) dX6_at_34 ?_
      refine g_get K hW (t := 2) (ci := 0) (k := 9) (v := .ref (ad 11)) kLC_1 rfl rfl i_X0 (by decide) q_232 rfl (gfv2 rLC_1_9) dX6_at_37 ?_
      refine g_get K hW (t := 2) (ci := 4) (k := 1) (v := .ref (ad 13)) kLC_11 rfl rfl i_X5 (by decide) q_172 rfl (gfv2 rLC_11_1) dX6_at_40 ?_
      refine lv_iload_n hx hb dX6_at_43 rfl (lv_at hl 2 rfl) ?_
      obtain ⟨g9, h⟩ := gd_o h hn
      refine g_iald K hW kLC_13 g9 rfl dX6_at_44 ?_
      refine lv_iload_n hx hb dX6_at_45 rfl (lv_at hl 1 rfl) ?_
      refine g_ishr hx hb dX6_at_46 ?_
      refine lv_iconst (v := (1 : Int32)) hx hb dX6_at_47 (by decide) ?_
      refine lv_iand hx hb dX6_at_48 ?_
      refine lv_iconst (v := (1 : Int32)) hx hb dX6_at_49 (by decide) ?_
      refine lv_icmp_ne (tgt := 55) hx hb dX6_at_50 (by decide) (fun c10 => ?_) (fun c10 => ?_)
      · replace h := gi_f h c10
        obtain ⟨u11, e12, h⟩ := lz_o h
        refine lv_iinc (v := u11) (lv' := [(2, .int u11), (0, .ref (ad 0)), (1, .int u5)]) hx hb dX6_at_55 hl (k := 2) rfl (by rw [e12]; rfl) (by decide) rfl (fun ls hl => ?_)
        refine lv_goto (tgt := 22) hx hb dX6_at_58 (by decide) ?_
        exact ih u5 u11 I J _ h hn _ _ hW _ (lv_sub hl [1, 2, 0] rfl) hx1 hx2
      · replace h := gi_t h c10
        exact hx1 u6 h _ _ hW _ (lv_sub hl [2] rfl)
noncomputable def fX6_at  (x1 : Int32) (I : gI) : Option (Int32) :=
  gi ((fX6_isSlice x1) = 0)
 (some (-2 : Int32))
 (gi ((fX6_isFree x1 I) = 0)
 (bd (fX6_at_22 FU x1 (0 : Int32) I) (sm (fun (u15 : Int32) => some u15) (fun _ => some (6 : Int32))))
 (some (-1 : Int32)))
set_option maxHeartbeats 4000000 in
set_option maxRecDepth 100000 in
theorem kX6_at {l : Launch} {G : gG} {ad : Nat → Nat} (hok : gInj LC ad)    (x1 : Int32) (I : gI) (J : gJ) (r : Int32) (h : fX6_at x1 I = some r) : gMi l yX6_at cX6_at 3 (some .int) 3 G LC ad [.ref (ad 0), .int x1] I J r True I J := by
  refine gMi_of (lst := [(0, .ref (ad 0)), (1, .int x1)]) (by decide) hok (Nat.le_of_ble_eq_true rfl) rfl ?_
  intro p e s m args below meth c Q ls K hW hl hfin
  have hn : (some r : Option (Int32)) ≠ none := Option.some_ne_none _
  have hx := K.1; have hb := K.2.1; have hown := K.2.2.2.1; have hts := K.2.2.2.2.1
  unfold fX6_at at h
  refine lv_iload_n hx hb dX6_at_0 rfl (lv_at hl 1 rfl) ?_
  refine g_callSi (rest := []) K hW hl (kX6_isSlice (l := l) (G := G) (ad := ad) hok x1 I J (fX6_isSlice x1) rfl) q_454 q_455 q_133 q_456 nm_X6_isSlice ⟨Nat.le_of_ble_eq_true rfl, Nat.le_of_ble_eq_true rfl⟩ rfl rfl (Nat.le_of_ble_eq_true rfl) ⟨Nat.zero_le _, Nat.zero_le _⟩ dX6_at_1 (fun z1 H locs hW => ?_)
  refine lv_if_ne (tgt := 10) hx hb dX6_at_4 (by decide) (fun c2 => ?_) (fun c2 => ?_)
  · replace h := gi_f h c2
    refine lv_aload_n hx hb dX6_at_10 rfl (lv_at hl 0 rfl) ?_
    refine lv_iload_n hx hb dX6_at_11 rfl (lv_at hl 1 rfl) ?_
    refine g_callVi (rest := []) K hW hl (kX6_isFree (l := l) (G := G) (ad := ad) hok x1 I J (fX6_isFree x1 I) rfl) kLC_0 rfl (gG_V q_756 q_758 q_29 q_133 q_759) nm_X6_isFree ⟨Nat.le_of_ble_eq_true rfl, Nat.le_of_ble_eq_true rfl⟩ rfl rfl (Nat.le_of_ble_eq_true rfl) ⟨Nat.zero_le _, Nat.zero_le _⟩ dX6_at_12 (fun z3 H locs hW => ?_)
    refine lv_if_eq (tgt := 20) hx hb dX6_at_15 (by decide) (fun c4 => ?_) (fun c4 => ?_)
    · replace h := gi_t h c4
      refine lv_iconst (v := (0 : Int32)) hx hb dX6_at_20 (by decide) ?_
      refine lv_istore_n (lv' := [(2, .int (0 : Int32)), (0, .ref (ad 0)), (1, .int x1)]) hx hb dX6_at_21 rfl hl (by decide) rfl (fun ls hl => ?_)
      obtain ⟨r13, e14, h⟩ := bd_o h hn
      refine tX6_at_22 hok K FU x1 (0 : Int32) I J (some r13) e14 (Option.some_ne_none _) _ _ hW _ (lv_sub hl [1, 2, 0] rfl) ?_ ?_
      · intro u15 q16 H locs hW ls hl
        replace q16 := Option.some.inj q16
        subst q16
        replace h := sm_l h
        refine lv_iload_n hx hb dX6_at_53 rfl (lv_at hl 0 rfl) ?_
        obtain a1 := so1 h
        exact g_nmi a1 (hfin _ _ _ _ hW dX6_at_54)
      · intro q17 H locs hW ls hl
        replace q17 := Option.some.inj q17
        subst q17
        replace h := sm_r h
        refine lv_bipush (v := (6 : Int32)) hx hb dX6_at_61 (by decide) ?_
        obtain a1 := so1 h
        exact g_nmi a1 (hfin _ _ _ _ hW dX6_at_63)
    · replace h := gi_f h c4
      refine lv_iconst (v := (-1 : Int32)) hx hb dX6_at_18 (by decide) ?_
      obtain a1 := so1 h
      exact g_nmi a1 (hfin _ _ _ _ hW dX6_at_19)
  · replace h := gi_t h c2
    refine lv_bipush (v := (-2 : Int32)) hx hb dX6_at_7 (by decide) ?_
    obtain a1 := so1 h
    exact g_nmi a1 (hfin _ _ _ _ hW dX6_at_9)
noncomputable def fX6_is  (x1 : Int32) (I : gI) : Int32 :=
  gi (x1 = (0 : Int32))
 ((I 11 7))
 (gi (x1 = (1 : Int32))
 ((I 11 8))
 (gi (x1 = (2 : Int32))
 ((I 11 6))
 (gi (x1 = (3 : Int32))
 ((I 11 5))
 (gi (x1 = (4 : Int32))
 ((I 11 4))
 ((-2 : Int32))))))
set_option maxHeartbeats 4000000 in
set_option maxRecDepth 100000 in
theorem kX6_is {l : Launch} {G : gG} {ad : Nat → Nat} (hok : gInj LC ad)    (x1 : Int32) (I : gI) (J : gJ) (r : Int32) (h : fX6_is x1 I = r) : gMi l yX6_is cX6_is 2 (some .int) 1 G LC ad [.ref (ad 0), .int x1] I J r True I J := by
  refine gMi_of (lst := [(0, .ref (ad 0)), (1, .int x1)]) (by decide) hok (Nat.le_of_ble_eq_true rfl) rfl ?_
  intro p e s m args below meth c Q ls K hW hl hfin
  have hx := K.1; have hb := K.2.1; have hown := K.2.2.2.1; have hts := K.2.2.2.2.1
  unfold fX6_is at h
  refine lv_iload_n hx hb dX6_is_0 rfl (lv_at hl 1 rfl) ?_
  rcases Classical.em (x1 = (0 : Int32)) with c1 | c1
  · replace h := gi_t h c1
    refine g_tabIn (k := (0 : Int32)) (tgt := 36) (off := 35) hx hb c1 dX6_is_1 (by decide) (by decide) (by decide) (by decide) ?_
    refine lv_aload_n hx hb dX6_is_36 rfl (lv_at hl 0 rfl) ?_
    refine g_get K hW (t := 2) (ci := 5) (k := 0) (v := .ref (ad 1)) kLC_0 rfl rfl i_X6 (by decide) q_393 rfl (gfv2 rLC_0_0) dX6_is_37 ?_
    refine g_get K hW (t := 2) (ci := 0) (k := 9) (v := .ref (ad 11)) kLC_1 rfl rfl i_X0 (by decide) q_232 rfl (gfv2 rLC_1_9) dX6_is_40 ?_
    refine g_get K hW (t := 0) (ci := 4) (k := 7) (v := .int (I 11 7)) kLC_11 rfl rfl i_X5 (by decide) q_187 rfl rfl dX6_is_43 ?_
    obtain a1 := h.symm
    exact g_nmi a1 (hfin _ _ _ _ hW dX6_is_46)
  · replace h := gi_f h c1
    rcases Classical.em (x1 = (1 : Int32)) with c2 | c2
    · replace h := gi_t h c2
      refine g_tabIn (k := (1 : Int32)) (tgt := 47) (off := 46) hx hb c2 dX6_is_1 (by decide) (by decide) (by decide) (by decide) ?_
      refine lv_aload_n hx hb dX6_is_47 rfl (lv_at hl 0 rfl) ?_
      refine g_get K hW (t := 2) (ci := 5) (k := 0) (v := .ref (ad 1)) kLC_0 rfl rfl i_X6 (by decide) q_393 rfl (gfv2 rLC_0_0) dX6_is_48 ?_
      refine g_get K hW (t := 2) (ci := 0) (k := 9) (v := .ref (ad 11)) kLC_1 rfl rfl i_X0 (by decide) q_232 rfl (gfv2 rLC_1_9) dX6_is_51 ?_
      refine g_get K hW (t := 0) (ci := 4) (k := 8) (v := .int (I 11 8)) kLC_11 rfl rfl i_X5 (by decide) q_189 rfl rfl dX6_is_54 ?_
      obtain a1 := h.symm
      exact g_nmi a1 (hfin _ _ _ _ hW dX6_is_57)
    · replace h := gi_f h c2
      rcases Classical.em (x1 = (2 : Int32)) with c3 | c3
      · replace h := gi_t h c3
        refine g_tabIn (k := (2 : Int32)) (tgt := 58) (off := 57) hx hb c3 dX6_is_1 (by decide) (by decide) (by decide) (by decide) ?_
        refine lv_aload_n hx hb dX6_is_58 rfl (lv_at hl 0 rfl) ?_
        refine g_get K hW (t := 2) (ci := 5) (k := 0) (v := .ref (ad 1)) kLC_0 rfl rfl i_X6 (by decide) q_393 rfl (gfv2 rLC_0_0) dX6_is_59 ?_
        refine g_get K hW (t := 2) (ci := 0) (k := 9) (v := .ref (ad 11)) kLC_1 rfl rfl i_X0 (by decide) q_232 rfl (gfv2 rLC_1_9) dX6_is_62 ?_
        refine g_get K hW (t := 0) (ci := 4) (k := 6) (v := .int (I 11 6)) kLC_11 rfl rfl i_X5 (by decide) q_184 rfl rfl dX6_is_65 ?_
        obtain a1 := h.symm
        exact g_nmi a1 (hfin _ _ _ _ hW dX6_is_68)
      · replace h := gi_f h c3
        rcases Classical.em (x1 = (3 : Int32)) with c4 | c4
        · replace h := gi_t h c4
          refine g_tabIn (k := (3 : Int32)) (tgt := 69) (off := 68) hx hb c4 dX6_is_1 (by decide) (by decide) (by decide) (by decide) ?_
          refine lv_aload_n hx hb dX6_is_69 rfl (lv_at hl 0 rfl) ?_
          refine g_get K hW (t := 2) (ci := 5) (k := 0) (v := .ref (ad 1)) kLC_0 rfl rfl i_X6 (by decide) q_393 rfl (gfv2 rLC_0_0) dX6_is_70 ?_
          refine g_get K hW (t := 2) (ci := 0) (k := 9) (v := .ref (ad 11)) kLC_1 rfl rfl i_X0 (by decide) q_232 rfl (gfv2 rLC_1_9) dX6_is_73 ?_
          refine g_get K hW (t := 0) (ci := 4) (k := 5) (v := .int (I 11 5)) kLC_11 rfl rfl i_X5 (by decide) q_182 rfl rfl dX6_is_76 ?_
          obtain a1 := h.symm
          exact g_nmi a1 (hfin _ _ _ _ hW dX6_is_79)
        · replace h := gi_f h c4
          rcases Classical.em (x1 = (4 : Int32)) with c5 | c5
          · replace h := gi_t h c5
            refine g_tabIn (k := (4 : Int32)) (tgt := 80) (off := 79) hx hb c5 dX6_is_1 (by decide) (by decide) (by decide) (by decide) ?_
            refine lv_aload_n hx hb dX6_is_80 rfl (lv_at hl 0 rfl) ?_
            refine g_get K hW (t := 2) (ci := 5) (k := 0) (v := .ref (ad 1)) kLC_0 rfl rfl i_X6 (by decide) q_393 rfl (gfv2 rLC_0_0) dX6_is_81 ?_
            refine g_get K hW (t := 2) (ci := 0) (k := 9) (v := .ref (ad 11)) kLC_1 rfl rfl i_X0 (by decide) q_232 rfl (gfv2 rLC_1_9) dX6_is_84 ?_
            refine g_get K hW (t := 0) (ci := 4) (k := 4) (v := .int (I 11 4)) kLC_11 rfl rfl i_X5 (by decide) q_180 rfl rfl dX6_is_87 ?_
            obtain a1 := h.symm
            exact g_nmi a1 (hfin _ _ _ _ hW dX6_is_90)
          · replace h := gi_f h c5
            refine lv_tableOut (tgt := 91) hx hb dX6_is_1 (by have := lv_neT (a := 0) c1 (by decide); have := lv_neT (a := 1) c2 (by decide); have := lv_neT (a := 2) c3 (by decide); have := lv_neT (a := 3) c4 (by decide); have := lv_neT (a := 4) c5 (by decide); omega) (by decide) ?_
            refine lv_bipush (v := (-2 : Int32)) hx hb dX6_is_91 (by decide) ?_
            obtain a1 := h.symm
            exact g_nmi a1 (hfin _ _ _ _ hW dX6_is_93)
theorem kLC_14 : gAt LC 14 1 25 := ⟨by decide, by decide +kernel⟩
theorem rLC_11_2 : LC.2.2 11 2 = some 14 := by decide +kernel
theorem nm_X5_dayOf : gNm yX5_dayOf 1 := by decide +kernel
theorem nm_X5_kindOf : gNm yX5_kindOf 1 := by decide +kernel
theorem nm_X5_whomOf : gNm yX5_whomOf 1 := by decide +kernel
theorem nm_X5_priceOf : gNm yX5_priceOf 1 := by decide +kernel
noncomputable def fX6_book  (x1 : Int32) (x2 : Int32) (I : gI) : Option (Int32) :=
  gi (x1 = (-1 : Int32))
 (some (I 11 3))
 (gi ((fX6_within x1 (0 : Int32) ((I 11 3) - (1 : Int32))) = 0)
 (some (-2 : Int32))
 (gd (vp_in x1 25) (lz ((I 14 (x1).toNatClampNeg)) (fun (u5 : Int32) => gi (x2 = (0 : Int32))
 (some (fX5_dayOf u5))
 (gi (x2 = (1 : Int32))
 (some (fX5_kindOf u5))
 (gi (x2 = (2 : Int32))
 (some (fX5_whomOf u5))
 (gi (x2 = (3 : Int32))
 (some (fX5_priceOf u5))
 (some (-2 : Int32)))))))))
set_option maxHeartbeats 4000000 in
set_option maxRecDepth 100000 in
theorem kX6_book {l : Launch} {G : gG} {ad : Nat → Nat} (hok : gInj LC ad)    (x1 : Int32) (x2 : Int32) (I : gI) (J : gJ) (r : Int32) (h : fX6_book x1 x2 I = some r) : gMi l yX6_book cX6_book 5 (some .int) 2 G LC ad [.ref (ad 0), .int x1, .int x2] I J r True I J := by
  refine gMi_of (lst := [(0, .ref (ad 0)), (1, .int x1), (2, .int x2)]) (by decide) hok (Nat.le_of_ble_eq_true rfl) rfl ?_
  intro p e s m args below meth c Q ls K hW hl hfin
  have hn : (some r : Option (Int32)) ≠ none := Option.some_ne_none _
  have hx := K.1; have hb := K.2.1; have hown := K.2.2.2.1; have hts := K.2.2.2.2.1
  unfold fX6_book at h
  refine lv_aload_n hx hb dX6_book_0 rfl (lv_at hl 0 rfl) ?_
  refine g_get K hW (t := 2) (ci := 5) (k := 0) (v := .ref (ad 1)) kLC_0 rfl rfl i_X6 (by decide) q_393 rfl (gfv2 rLC_0_0) dX6_book_1 ?_
  refine g_get K hW (t := 2) (ci := 0) (k := 9) (v := .ref (ad 11)) kLC_1 rfl rfl i_X0 (by decide) q_232 rfl (gfv2 rLC_1_9) dX6_book_4 ?_
  refine lv_astore_n (lv' := [(3, .ref (ad 11)), (0, .ref (ad 0)), (1, .int x1), (2, .int x2)]) hx hb dX6_book_7 rfl hl (by decide) rfl (fun ls hl => ?_)
  refine lv_iload_n hx hb dX6_book_8 rfl (lv_at hl 2 rfl) ?_
  refine lv_iconst (v := (-1 : Int32)) hx hb dX6_book_9 (by decide) ?_
  refine lv_icmp_ne (tgt := 18) hx hb dX6_book_10 (by decide) (fun c1 => ?_) (fun c1 => ?_)
  · replace h := gi_f h c1
    refine lv_iload_n hx hb dX6_book_18 rfl (lv_at hl 2 rfl) ?_
    refine lv_iconst (v := (0 : Int32)) hx hb dX6_book_19 (by decide) ?_
    refine lv_aload_n hx hb dX6_book_20 rfl (lv_at hl 0 rfl) ?_
    refine g_get K hW (t := 0) (ci := 4) (k := 3) (v := .int (I 11 3)) kLC_11 rfl rfl i_X5 (by decide) q_177 rfl rfl dX6_book_21 ?_
    refine lv_iconst (v := (1 : Int32)) hx hb dX6_book_24 (by decide) ?_
    refine lv_isub hx hb dX6_book_25 ?_
    refine g_callSi (rest := []) K hW hl (kX6_within (l := l) (G := G) (ad := ad) hok x1 (0 : Int32) ((I 11 3) - (1 : Int32)) I J (fX6_within x1 (0 : Int32) ((I 11 3) - (1 : Int32))) rfl) q_440 q_441 q_133 q_442 nm_X6_within ⟨Nat.le_of_ble_eq_true rfl, Nat.le_of_ble_eq_true rfl⟩ rfl rfl (Nat.le_of_ble_eq_true rfl) ⟨Nat.zero_le _, Nat.zero_le _⟩ dX6_book_26 (fun z2 H locs hW => ?_)
    refine lv_if_ne (tgt := 35) hx hb dX6_book_29 (by decide) (fun c3 => ?_) (fun c3 => ?_)
    · replace h := gi_f h c3
      refine lv_aload_n hx hb dX6_book_35 rfl (lv_at hl 0 rfl) ?_
      refine g_get K hW (t := 2) (ci := 4) (k := 2) (v := .ref (ad 14)) kLC_11 rfl rfl i_X5 (by decide) q_175 rfl (gfv2 rLC_11_2) dX6_book_36 ?_
      refine lv_iload_n hx hb dX6_book_39 rfl (lv_at hl 2 rfl) ?_
      obtain ⟨g4, h⟩ := gd_o h hn
      refine g_iald K hW kLC_14 g4 rfl dX6_book_40 ?_
      obtain ⟨u5, e6, h⟩ := lz_o h
      refine g_nmi e6 ?_
      refine lv_istore (lv' := [(4, .int u5), (3, .ref (ad 11)), (0, .ref (ad 0)), (1, .int x1), (2, .int x2)]) hx hb dX6_book_41 hl (by decide) rfl (fun ls hl => ?_)
      refine lv_iload_n hx hb dX6_book_43 rfl (lv_at hl 4 rfl) ?_
      rcases Classical.em (x2 = (0 : Int32)) with c7 | c7
      · replace h := gi_t h c7
        refine g_tabIn (k := (0 : Int32)) (tgt := 76) (off := 32) hx hb c7 dX6_book_44 (by decide) (by decide) (by decide) (by decide) ?_
        refine lv_iload hx hb dX6_book_76 (lv_at hl 0 rfl) ?_
        refine g_callSi (rest := []) K hW hl (kX5_dayOf (l := l) (G := G) (ad := ad) hok u5 I J (fX5_dayOf u5) rfl) q_870 q_871 q_135 q_872 nm_X5_dayOf ⟨Nat.le_of_ble_eq_true rfl, Nat.le_of_ble_eq_true rfl⟩ rfl rfl (Nat.le_of_ble_eq_true rfl) ⟨Nat.zero_le _, Nat.zero_le _⟩ dX6_book_78 (fun z8 H locs hW => ?_)
        obtain a1 := so1 h
        exact g_nmi a1 (hfin _ _ _ _ hW dX6_book_81)
      · replace h := gi_f h c7
        rcases Classical.em (x2 = (1 : Int32)) with c9 | c9
        · replace h := gi_t h c9
          refine g_tabIn (k := (1 : Int32)) (tgt := 82) (off := 38) hx hb c9 dX6_book_44 (by decide) (by decide) (by decide) (by decide) ?_
          refine lv_iload hx hb dX6_book_82 (lv_at hl 0 rfl) ?_
          refine g_callSi (rest := []) K hW hl (kX5_kindOf (l := l) (G := G) (ad := ad) hok u5 I J (fX5_kindOf u5) rfl) q_873 q_874 q_135 q_875 nm_X5_kindOf ⟨Nat.le_of_ble_eq_true rfl, Nat.le_of_ble_eq_true rfl⟩ rfl rfl (Nat.le_of_ble_eq_true rfl) ⟨Nat.zero_le _, Nat.zero_le _⟩ dX6_book_84 (fun z10 H locs hW => ?_)
          obtain a1 := so1 h
          exact g_nmi a1 (hfin _ _ _ _ hW dX6_book_87)
        · replace h := gi_f h c9
          rcases Classical.em (x2 = (2 : Int32)) with c11 | c11
          · replace h := gi_t h c11
            refine g_tabIn (k := (2 : Int32)) (tgt := 88) (off := 44) hx hb c11 dX6_book_44 (by decide) (by decide) (by decide) (by decide) ?_
            refine lv_iload hx hb dX6_book_88 (lv_at hl 0 rfl) ?_
            refine g_callSi (rest := []) K hW hl (kX5_whomOf (l := l) (G := G) (ad := ad) hok u5 I J (fX5_whomOf u5) rfl) q_876 q_877 q_135 q_878 nm_X5_whomOf ⟨Nat.le_of_ble_eq_true rfl, Nat.le_of_ble_eq_true rfl⟩ rfl rfl (Nat.le_of_ble_eq_true rfl) ⟨Nat.zero_le _, Nat.zero_le _⟩ dX6_book_90 (fun z12 H locs hW => ?_)
            obtain a1 := so1 h
            exact g_nmi a1 (hfin _ _ _ _ hW dX6_book_93)
          · replace h := gi_f h c11
            rcases Classical.em (x2 = (3 : Int32)) with c13 | c13
            · replace h := gi_t h c13
              refine g_tabIn (k := (3 : Int32)) (tgt := 94) (off := 50) hx hb c13 dX6_book_44 (by decide) (by decide) (by decide) (by decide) ?_
              refine lv_iload hx hb dX6_book_94 (lv_at hl 0 rfl) ?_
              refine g_callSi (rest := []) K hW hl (kX5_priceOf (l := l) (G := G) (ad := ad) hok u5 I J (fX5_priceOf u5) rfl) q_879 q_880 q_135 q_881 nm_X5_priceOf ⟨Nat.le_of_ble_eq_true rfl, Nat.le_of_ble_eq_true rfl⟩ rfl rfl (Nat.le_of_ble_eq_true rfl) ⟨Nat.zero_le _, Nat.zero_le _⟩ dX6_book_96 (fun z14 H locs hW => ?_)
              obtain a1 := so1 h
              exact g_nmi a1 (hfin _ _ _ _ hW dX6_book_99)
            · replace h := gi_f h c13
              refine lv_tableOut (tgt := 100) hx hb dX6_book_44 (by have := lv_neT (a := 0) c7 (by decide); have := lv_neT (a := 1) c9 (by decide); have := lv_neT (a := 2) c11 (by decide); have := lv_neT (a := 3) c13 (by decide); omega) (by decide) ?_
              refine lv_bipush (v := (-2 : Int32)) hx hb dX6_book_100 (by decide) ?_
              obtain a1 := so1 h
              exact g_nmi a1 (hfin _ _ _ _ hW dX6_book_102)
    · replace h := gi_t h c3
      refine lv_bipush (v := (-2 : Int32)) hx hb dX6_book_32 (by decide) ?_
      obtain a1 := so1 h
      exact g_nmi a1 (hfin _ _ _ _ hW dX6_book_34)
  · replace h := gi_t h c1
    refine lv_aload_n hx hb dX6_book_13 rfl (lv_at hl 0 rfl) ?_
    refine g_get K hW (t := 0) (ci := 4) (k := 3) (v := .int (I 11 3)) kLC_11 rfl rfl i_X5 (by decide) q_177 rfl rfl dX6_book_14 ?_
    obtain a1 := so1 h
    exact g_nmi a1 (hfin _ _ _ _ hW dX6_book_17)
noncomputable def fX6_linesOf_4b  (rec : Int32 → Int32 → Int32 → gI → Option ((Int32))) (u1 : Int32) (u2 : Int32) (u3 : Int32) (I : gI) : Option ((Int32)) :=
  gi ((I 11 3) ≤ u3)
 (some u2)
 (gi ((25 : Int32) ≤ u3)
 (some u2)
 (gd (vp_in u3 25) (lz (fun (u9 : Int32) => lz ((u3 + (1 : Int32))) (fun (u13 : Int32) => rec u1 u9 u13 I)) (fun j10 => gi ((fX5_kindOf (I 14 (u3).toNatClampNeg)) = u1)
 (lz ((u2 + (1 : Int32))) (fun (u16 : Int32) => j10 u16))
 (j10 u2)))))
noncomputable def fX6_linesOf_4  : Nat → Int32 → Int32 → Int32 → gI → Option ((Int32))
  | 0 => fun _ _ _ _ => none
  | n + 1 => fX6_linesOf_4b  (fX6_linesOf_4  n)
set_option maxHeartbeats 4000000 in
set_option maxRecDepth 100000 in
theorem tX6_linesOf_4 {l : Launch} {G : gG} {ad : Nat → Nat} {p : Program} {e : Env} {s : State} {m : MethodId} {args : Array Value} {below : List Frame} {meth : Method} {c : Code} {Q : State → Prop} (hok : gInj LC ad) (K : gCx G (gA LC ad) p s m args c cX6_linesOf 4 RX6)  : ∀ (n : Nat) (u1 : Int32) (u2 : Int32) (u3 : Int32) (I : gI) (J : gJ) (out : Option ((Int32))), fX6_linesOf_4  n u1 u2 u3 I = out → out ≠ none → ∀ (H : Heap) (locs : List Loc), gWd G LC ad (gA LC ad) s.heap I J H locs → ∀ (ls : Array Slot), lv_has ls 4 [(0, .ref (ad 0)), (1, .int u1), (2, .int u2), (3, .int u3)] → (∀ (y4 : Int32), some y4 = out → ∀ (H : Heap) (locs : List Loc), gWd G LC ad (gA LC ad) s.heap I J H locs → ∀ (ls : Array Slot), lv_has ls 4 [(2, .int y4)] → W p l e (gRm 2) s m args below meth c H locs 0 0 Q (F0 m 52 ls [])) → W p l e (gRm 2) s m args below meth c H locs 0 0 Q (F0 m 4 ls []) := by
  have hx := K.1; have hb := K.2.1; have hown := K.2.2.2.1; have hts := K.2.2.2.2.1
  intro n
  induction n with
  | zero => intro u1 u2 u3 I J out h hn; exact absurd h.symm hn
  | succ n ih =>
    intro u1 u2 u3 I J out h hn H locs hW ls hl hx1
    replace h : fX6_linesOf_4b  (fX6_linesOf_4  n) u1 u2 u3 I = out := h
    unfold fX6_linesOf_4b at h
    refine lv_iload_n hx hb dX6_linesOf_4 rfl (lv_at hl 3 rfl) ?_
    refine lv_aload_n hx hb dX6_linesOf_5 rfl (lv_at hl 0 rfl) ?_
    refine g_get K hW (t := 2) (ci := 5) (k := 0) (v := .ref (ad 1)) kLC_0 rfl rfl i_X6 (by decide) q_393 rfl (gfv2 rLC_0_0) dX6_linesOf_6 ?_
    refine g_get K hW (t := 2) (ci := 0) (k := 9) (v := .ref (ad 11)) kLC_1 rfl rfl i_X0 (by decide) q_232 rfl (gfv2 rLC_1_9) dX6_linesOf_9 ?_
    refine g_get K hW (t := 0) (ci := 4) (k := 3) (v := .int (I 11 3)) kLC_11 rfl rfl i_X5 (by decide) q_177 rfl rfl dX6_linesOf_12 ?_
    refine lv_icmp_ge (tgt := 52) hx hb dX6_linesOf_15 (by decide) (fun c5 => ?_) (fun c5 => ?_)
    · replace h := gi_t h c5
      exact hx1 u2 h _ _ hW _ (lv_sub hl [2] rfl)
    · replace h := gi_f h c5
      refine lv_iload_n hx hb dX6_linesOf_18 rfl (lv_at hl 3 rfl) ?_
      refine lv_bipush (v := (25 : Int32)) hx hb dX6_linesOf_19 (by decide) ?_
      refine lv_icmp_ge (tgt := 52) hx hb dX6_linesOf_21 (by decide) (fun c6 => ?_) (fun c6 => ?_)
      · replace h := gi_t h c6
        exact hx1 u2 h _ _ hW _ (lv_sub hl [2] rfl)
      · replace h := gi_f h c6
        refine lv_aload_n hx hb dX6_linesOf_24 rfl (lv_at hl 0 rfl) ?_
        refine g_get K hW (t := 2) (ci := 5) (k := 0) (v := .ref (ad 1)) kLC_0 rfl rfl i_X6 (by decide) q_393 rfl (gfv2 rLC_0_0) dX6_linesOf_25 ?_
        refine g_get K hW (t := 2) (ci := 0) (k := 9) (v := .ref (ad 11)) kLC_1 rfl rfl i_X0 (by decide) q_232 rfl (gfv2 rLC_1_9) dX6_linesOf_28 ?_
        refine g_get K hW (t := 2) (ci := 4) (k := 2) (v := .ref (ad 14)) kLC_11 rfl rfl i_X5 (by decide) q_175 rfl (gfv2 rLC_11_2) dX6_linesOf_31 ?_
        refine lv_iload_n hx hb dX6_linesOf_34 rfl (lv_at hl 3 rfl) ?_
        obtain ⟨g7, h⟩ := gd_o h hn
        refine g_iald K hW kLC_14 g7 rfl dX6_linesOf_35 ?_
        refine g_callSi (rest := []) K hW hl (kX5_kindOf (l := l) (G := G) (ad := ad) hok (I 14 (u3).toNatClampNeg) I J (fX5_kindOf (I 14 (u3).toNatClampNeg)) rfl) q_873 q_874 q_135 q_875 nm_X5_kindOf ⟨Nat.le_of_ble_eq_true rfl, Nat.le_of_ble_eq_true rfl⟩ rfl rfl (Nat.le_of_ble_eq_true rfl) ⟨Nat.zero_le _, Nat.zero_le _⟩ dX6_linesOf_36 (fun z8 H locs hW => ?_)
        refine lv_iload_n hx hb dX6_linesOf_39 rfl (lv_at hl 1 rfl) ?_
        obtain ⟨j10, e11, h⟩ := lz_o h
        have hj12 : ∀ (u9 : Int32), j10 u9 = out → ∀ (H : Heap) (locs : List Loc), gWd G LC ad (gA LC ad) s.heap I J H locs → ∀ (ls : Array Slot), lv_has ls 4 [(0, .ref (ad 0)), (1, .int u1), (2, .int u9), (3, .int u3)] → W p l e (gRm 2) s m args below meth c H locs 0 0 Q (F0 m 46 ls []) := by
          intro u9 h H locs hW ls hl
          replace h := jn1 e11 h
          obtain ⟨u13, e14, h⟩ := lz_o h
          refine lv_iinc (v := u13) (lv' := [(3, .int u13), (0, .ref (ad 0)), (1, .int u1), (2, .int u9)]) hx hb dX6_linesOf_46 hl (k := 3) rfl (by rw [e14]; rfl) (by decide) rfl (fun ls hl => ?_)
          refine lv_goto (tgt := 4) hx hb dX6_linesOf_49 (by decide) ?_
          exact ih u1 u9 u13 I J _ h hn _ _ hW _ (lv_sub hl [1, 2, 3, 0] rfl) hx1
        refine lv_icmp_ne (tgt := 46) hx hb dX6_linesOf_40 (by decide) (fun c15 => ?_) (fun c15 => ?_)
        · replace h := gi_f h c15
          exact hj12 u2 h _ _ hW _ (lv_sub hl [0, 1, 2, 3] rfl)
        · replace h := gi_t h c15
          obtain ⟨u16, e17, h⟩ := lz_o h
          refine lv_iinc (v := u16) (lv' := [(2, .int u16), (0, .ref (ad 0)), (1, .int u1), (3, .int u3)]) hx hb dX6_linesOf_43 hl (k := 2) rfl (by rw [e17]; rfl) (by decide) rfl (fun ls hl => ?_)
          exact hj12 u16 h _ _ hW _ (lv_sub hl [1, 2, 0, 3] rfl)
noncomputable def fX6_linesOf  (x1 : Int32) (I : gI) : Option (Int32) :=
  bd (fX6_linesOf_4 FU x1 (0 : Int32) (0 : Int32) I) (fun (u20 : Int32) => some u20)
set_option maxHeartbeats 4000000 in
set_option maxRecDepth 100000 in
theorem kX6_linesOf {l : Launch} {G : gG} {ad : Nat → Nat} (hok : gInj LC ad)    (x1 : Int32) (I : gI) (J : gJ) (r : Int32) (h : fX6_linesOf x1 I = some r) : gMi l yX6_linesOf cX6_linesOf 4 (some .int) 2 G LC ad [.ref (ad 0), .int x1] I J r True I J := by
  refine gMi_of (lst := [(0, .ref (ad 0)), (1, .int x1)]) (by decide) hok (Nat.le_of_ble_eq_true rfl) rfl ?_
  intro p e s m args below meth c Q ls K hW hl hfin
  have hn : (some r : Option (Int32)) ≠ none := Option.some_ne_none _
  have hx := K.1; have hb := K.2.1; have hown := K.2.2.2.1; have hts := K.2.2.2.2.1
  unfold fX6_linesOf at h
  refine lv_iconst (v := (0 : Int32)) hx hb dX6_linesOf_0 (by decide) ?_
  refine lv_istore_n (lv' := [(2, .int (0 : Int32)), (0, .ref (ad 0)), (1, .int x1)]) hx hb dX6_linesOf_1 rfl hl (by decide) rfl (fun ls hl => ?_)
  refine lv_iconst (v := (0 : Int32)) hx hb dX6_linesOf_2 (by decide) ?_
  refine lv_istore_n (lv' := [(3, .int (0 : Int32)), (2, .int (0 : Int32)), (0, .ref (ad 0)), (1, .int x1)]) hx hb dX6_linesOf_3 rfl hl (by decide) rfl (fun ls hl => ?_)
  obtain ⟨r18, e19, h⟩ := bd_o h hn
  refine tX6_linesOf_4 hok K FU x1 (0 : Int32) (0 : Int32) I J (some r18) e19 (Option.some_ne_none _) _ _ hW _ (lv_sub hl [2, 3, 1, 0] rfl) ?_
  · intro u20 q21 H locs hW ls hl
    replace q21 := Option.some.inj q21
    subst q21
    refine lv_iload_n hx hb dX6_linesOf_52 rfl (lv_at hl 0 rfl) ?_
    obtain a1 := so1 h
    exact g_nmi a1 (hfin _ _ _ _ hW dX6_linesOf_53)
theorem nm_X6_linesOf : gNm yX6_linesOf 1 := by decide +kernel
noncomputable def fX6_ledger  (x1 : Int32) (I : gI) : Option (Int32) :=
  gi ((fX6_within x1 (0 : Int32) (4 : Int32)) = 0)
 (some (-2 : Int32))
 (bd (fX6_linesOf x1 I) (fun (u3 : Int32) => some u3))
set_option maxHeartbeats 4000000 in
set_option maxRecDepth 100000 in
theorem kX6_ledger {l : Launch} {G : gG} {ad : Nat → Nat} (hok : gInj LC ad)    (x1 : Int32) (I : gI) (J : gJ) (r : Int32) (h : fX6_ledger x1 I = some r) : gMi l yX6_ledger cX6_ledger 2 (some .int) 3 G LC ad [.ref (ad 0), .int x1] I J r True I J := by
  refine gMi_of (lst := [(0, .ref (ad 0)), (1, .int x1)]) (by decide) hok (Nat.le_of_ble_eq_true rfl) rfl ?_
  intro p e s m args below meth c Q ls K hW hl hfin
  have hn : (some r : Option (Int32)) ≠ none := Option.some_ne_none _
  have hx := K.1; have hb := K.2.1; have hown := K.2.2.2.1; have hts := K.2.2.2.2.1
  unfold fX6_ledger at h
  refine lv_iload_n hx hb dX6_ledger_0 rfl (lv_at hl 1 rfl) ?_
  refine lv_iconst (v := (0 : Int32)) hx hb dX6_ledger_1 (by decide) ?_
  refine lv_iconst (v := (4 : Int32)) hx hb dX6_ledger_2 (by decide) ?_
  refine g_callSi (rest := []) K hW hl (kX6_within (l := l) (G := G) (ad := ad) hok x1 (0 : Int32) (4 : Int32) I J (fX6_within x1 (0 : Int32) (4 : Int32)) rfl) q_440 q_441 q_133 q_442 nm_X6_within ⟨Nat.le_of_ble_eq_true rfl, Nat.le_of_ble_eq_true rfl⟩ rfl rfl (Nat.le_of_ble_eq_true rfl) ⟨Nat.zero_le _, Nat.zero_le _⟩ dX6_ledger_3 (fun z1 H locs hW => ?_)
  refine lv_if_eq (tgt := 17) hx hb dX6_ledger_6 (by decide) (fun c2 => ?_) (fun c2 => ?_)
  · replace h := gi_t h c2
    refine lv_bipush (v := (-2 : Int32)) hx hb dX6_ledger_17 (by decide) ?_
    obtain a1 := so1 h
    exact g_nmi a1 (hfin _ _ _ _ hW dX6_ledger_19)
  · replace h := gi_f h c2
    refine lv_aload_n hx hb dX6_ledger_9 rfl (lv_at hl 0 rfl) ?_
    refine lv_iload_n hx hb dX6_ledger_10 rfl (lv_at hl 1 rfl) ?_
    obtain ⟨u3, e4, h⟩ := bd_o h hn
    refine g_callVi (rest := []) K hW hl (kX6_linesOf (l := l) (G := G) (ad := ad) hok x1 I J u3 e4) kLC_0 rfl (gG_V q_886 q_888 q_41 q_133 q_889) nm_X6_linesOf ⟨Nat.le_of_ble_eq_true rfl, Nat.le_of_ble_eq_true rfl⟩ rfl rfl (Nat.le_of_ble_eq_true rfl) ⟨Nat.zero_le _, Nat.zero_le _⟩ dX6_ledger_11 (fun z5 H locs hW => ?_)
    refine lv_goto (tgt := 19) hx hb dX6_ledger_14 (by decide) ?_
    obtain a1 := so1 h
    exact g_nmi a1 (hfin _ _ _ _ hW dX6_ledger_19)
noncomputable def fX6_about  (x1 : Int32) (I : gI) : Int32 :=
  gi (x1 = (0 : Int32))
 ((I 1 12))
 (gi (x1 = (1 : Int32))
 ((I 1 13))
 (gi (x1 = (2 : Int32))
 ((I 1 14))
 (gi (x1 = (3 : Int32))
 ((I 1 19))
 (gi (x1 = (4 : Int32))
 ((fJ6_bitCount_0f7a4 (I 1 16)))
 (gi (x1 = (5 : Int32))
 ((I 1 15))
 (gi (x1 = (6 : Int32))
 ((I 0 10))
 ((-2 : Int32))))))))
set_option maxHeartbeats 4000000 in
set_option maxRecDepth 100000 in
theorem kX6_about {l : Launch} {G : gG} {ad : Nat → Nat} (hok : gInj LC ad)    (x1 : Int32) (I : gI) (J : gJ) (r : Int32) (h : fX6_about x1 I = r) : gMi l yX6_about cX6_about 2 (some .int) 2 G LC ad [.ref (ad 0), .int x1] I J r True I J := by
  refine gMi_of (lst := [(0, .ref (ad 0)), (1, .int x1)]) (by decide) hok (Nat.le_of_ble_eq_true rfl) rfl ?_
  intro p e s m args below meth c Q ls K hW hl hfin
  have hx := K.1; have hb := K.2.1; have hown := K.2.2.2.1; have hts := K.2.2.2.2.1
  unfold fX6_about at h
  refine lv_iload_n hx hb dX6_about_0 rfl (lv_at hl 1 rfl) ?_
  rcases Classical.em (x1 = (0 : Int32)) with c1 | c1
  · replace h := gi_t h c1
    refine g_tabIn (k := (0 : Int32)) (tgt := 44) (off := 43) hx hb c1 dX6_about_1 (by decide) (by decide) (by decide) (by decide) ?_
    refine lv_aload_n hx hb dX6_about_44 rfl (lv_at hl 0 rfl) ?_
    refine g_get K hW (t := 2) (ci := 5) (k := 0) (v := .ref (ad 1)) kLC_0 rfl rfl i_X6 (by decide) q_393 rfl (gfv2 rLC_0_0) dX6_about_45 ?_
    refine g_get K hW (t := 0) (ci := 0) (k := 12) (v := .int (I 1 12)) kLC_1 rfl rfl i_X0 (by decide) q_238 rfl rfl dX6_about_48 ?_
    obtain a1 := h.symm
    exact g_nmi a1 (hfin _ _ _ _ hW dX6_about_51)
  · replace h := gi_f h c1
    rcases Classical.em (x1 = (1 : Int32)) with c2 | c2
    · replace h := gi_t h c2
      refine g_tabIn (k := (1 : Int32)) (tgt := 52) (off := 51) hx hb c2 dX6_about_1 (by decide) (by decide) (by decide) (by decide) ?_
      refine lv_aload_n hx hb dX6_about_52 rfl (lv_at hl 0 rfl) ?_
      refine g_get K hW (t := 2) (ci := 5) (k := 0) (v := .ref (ad 1)) kLC_0 rfl rfl i_X6 (by decide) q_393 rfl (gfv2 rLC_0_0) dX6_about_53 ?_
      refine g_get K hW (t := 0) (ci := 0) (k := 13) (v := .int (I 1 13)) kLC_1 rfl rfl i_X0 (by decide) q_241 rfl rfl dX6_about_56 ?_
      obtain a1 := h.symm
      exact g_nmi a1 (hfin _ _ _ _ hW dX6_about_59)
    · replace h := gi_f h c2
      rcases Classical.em (x1 = (2 : Int32)) with c3 | c3
      · replace h := gi_t h c3
        refine g_tabIn (k := (2 : Int32)) (tgt := 60) (off := 59) hx hb c3 dX6_about_1 (by decide) (by decide) (by decide) (by decide) ?_
        refine lv_aload_n hx hb dX6_about_60 rfl (lv_at hl 0 rfl) ?_
        refine g_get K hW (t := 2) (ci := 5) (k := 0) (v := .ref (ad 1)) kLC_0 rfl rfl i_X6 (by decide) q_393 rfl (gfv2 rLC_0_0) dX6_about_61 ?_
        refine g_get K hW (t := 0) (ci := 0) (k := 14) (v := .int (I 1 14)) kLC_1 rfl rfl i_X0 (by decide) q_243 rfl rfl dX6_about_64 ?_
        obtain a1 := h.symm
        exact g_nmi a1 (hfin _ _ _ _ hW dX6_about_67)
      · replace h := gi_f h c3
        rcases Classical.em (x1 = (3 : Int32)) with c4 | c4
        · replace h := gi_t h c4
          refine g_tabIn (k := (3 : Int32)) (tgt := 68) (off := 67) hx hb c4 dX6_about_1 (by decide) (by decide) (by decide) (by decide) ?_
          refine lv_aload_n hx hb dX6_about_68 rfl (lv_at hl 0 rfl) ?_
          refine g_get K hW (t := 2) (ci := 5) (k := 0) (v := .ref (ad 1)) kLC_0 rfl rfl i_X6 (by decide) q_393 rfl (gfv2 rLC_0_0) dX6_about_69 ?_
          refine g_get K hW (t := 0) (ci := 0) (k := 19) (v := .int (I 1 19)) kLC_1 rfl rfl i_X0 (by decide) q_253 rfl rfl dX6_about_72 ?_
          obtain a1 := h.symm
          exact g_nmi a1 (hfin _ _ _ _ hW dX6_about_75)
        · replace h := gi_f h c4
          rcases Classical.em (x1 = (4 : Int32)) with c5 | c5
          · replace h := gi_t h c5
            refine g_tabIn (k := (4 : Int32)) (tgt := 76) (off := 75) hx hb c5 dX6_about_1 (by decide) (by decide) (by decide) (by decide) ?_
            refine lv_aload_n hx hb dX6_about_76 rfl (lv_at hl 0 rfl) ?_
            refine g_get K hW (t := 2) (ci := 5) (k := 0) (v := .ref (ad 1)) kLC_0 rfl rfl i_X6 (by decide) q_393 rfl (gfv2 rLC_0_0) dX6_about_77 ?_
            refine g_get K hW (t := 0) (ci := 0) (k := 16) (v := .int (I 1 16)) kLC_1 rfl rfl i_X0 (by decide) q_247 rfl rfl dX6_about_80 ?_
            refine g_callSi (rest := []) K hW hl (kJ6_bitCount_0f7a4 (l := l) (G := G) (ad := ad) hok (I 1 16) I J (fJ6_bitCount_0f7a4 (I 1 16)) rfl) q_465 q_466 q_146 q_467 nm_J6_bitCount_0f7a4 ⟨Nat.le_of_ble_eq_true rfl, Nat.le_of_ble_eq_true rfl⟩ rfl rfl (Nat.le_of_ble_eq_true rfl) ⟨Nat.zero_le _, Nat.zero_le _⟩ dX6_about_83 (fun z6 H locs hW => ?_)
            obtain a1 := h.symm
            exact g_nmi a1 (hfin _ _ _ _ hW dX6_about_86)
          · replace h := gi_f h c5
            rcases Classical.em (x1 = (5 : Int32)) with c7 | c7
            · replace h := gi_t h c7
              refine g_tabIn (k := (5 : Int32)) (tgt := 87) (off := 86) hx hb c7 dX6_about_1 (by decide) (by decide) (by decide) (by decide) ?_
              refine lv_aload_n hx hb dX6_about_87 rfl (lv_at hl 0 rfl) ?_
              refine g_get K hW (t := 2) (ci := 5) (k := 0) (v := .ref (ad 1)) kLC_0 rfl rfl i_X6 (by decide) q_393 rfl (gfv2 rLC_0_0) dX6_about_88 ?_
              refine g_get K hW (t := 0) (ci := 0) (k := 15) (v := .int (I 1 15)) kLC_1 rfl rfl i_X0 (by decide) q_245 rfl rfl dX6_about_91 ?_
              obtain a1 := h.symm
              exact g_nmi a1 (hfin _ _ _ _ hW dX6_about_94)
            · replace h := gi_f h c7
              rcases Classical.em (x1 = (6 : Int32)) with c8 | c8
              · replace h := gi_t h c8
                refine g_tabIn (k := (6 : Int32)) (tgt := 95) (off := 94) hx hb c8 dX6_about_1 (by decide) (by decide) (by decide) (by decide) ?_
                refine lv_aload_n hx hb dX6_about_95 rfl (lv_at hl 0 rfl) ?_
                refine g_get K hW (t := 0) (ci := 5) (k := 10) (v := .int (I 0 10)) kLC_0 rfl rfl i_X6 (by decide) q_403 rfl rfl dX6_about_96 ?_
                obtain a1 := h.symm
                exact g_nmi a1 (hfin _ _ _ _ hW dX6_about_99)
              · replace h := gi_f h c8
                refine lv_tableOut (tgt := 100) hx hb dX6_about_1 (by have := lv_neT (a := 0) c1 (by decide); have := lv_neT (a := 1) c2 (by decide); have := lv_neT (a := 2) c3 (by decide); have := lv_neT (a := 3) c4 (by decide); have := lv_neT (a := 4) c5 (by decide); have := lv_neT (a := 5) c7 (by decide); have := lv_neT (a := 6) c8 (by decide); omega) (by decide) ?_
                refine lv_bipush (v := (-2 : Int32)) hx hb dX6_about_100 (by decide) ?_
                obtain a1 := h.symm
                exact g_nmi a1 (hfin _ _ _ _ hW dX6_about_102)
theorem kLC_289 : gAt LC 289 0 4 := ⟨by decide, by decide +kernel⟩
theorem rLC_0_6 : LC.2.2 0 6 = some 289 := by decide +kernel
theorem kLC_290 : gAt LC 290 1 6 := ⟨by decide, by decide +kernel⟩
theorem rLC_289_0 : LC.2.2 289 0 = some 290 := by decide +kernel
noncomputable def fX6_foretold_37b  (rec : Int32 → Int32 → Int32 → gI → Option ((gI))) (u8 : Int32) (u9 : Int32) (u10 : Int32) (I : gI) : Option ((gI)) :=
  gi (u8 ≤ u10)
 (some I)
 (gi ((9999 : Int32) ≤ (I 289 7))
 (some I)
 (bd (fX6_dawnComes 289 I) (fun (I14 : gI) => lz ((u10 + (1 : Int32))) (fun (u17 : Int32) => rec u8 u9 u17 I14))))
noncomputable def fX6_foretold_37  : Nat → Int32 → Int32 → Int32 → gI → Option ((gI))
  | 0 => fun _ _ _ _ => none
  | n + 1 => fX6_foretold_37b  (fX6_foretold_37  n)
set_option maxHeartbeats 4000000 in
set_option maxRecDepth 100000 in
theorem tX6_foretold_37 {l : Launch} {G : gG} {ad : Nat → Nat} {p : Program} {e : Env} {s : State} {m : MethodId} {args : Array Value} {below : List Frame} {meth : Method} {c : Code} {Q : State → Prop} (hok : gInj LC ad) (K : gCx G (gA LC ad) p s m args c cX6_foretold 5 RX6)  : ∀ (n : Nat) (u8 : Int32) (u9 : Int32) (u10 : Int32) (I : gI) (J : gJ) (out : Option ((gI))), fX6_foretold_37  n u8 u9 u10 I = out → out ≠ none → ∀ (H : Heap) (locs : List Loc), gWd G LC ad (gA LC ad) s.heap I J H locs → ∀ (ls : Array Slot), lv_has ls 5 [(0, .ref (ad 0)), (1, .int u8), (2, .int u9), (3, .int u10)] → (∀ (I11 : gI), some I11 = out → ∀ (H : Heap) (locs : List Loc), gWd G LC ad (gA LC ad) s.heap I11 J H locs → ∀ (ls : Array Slot), lv_has ls 5 [(0, .ref (ad 0)), (2, .int u9)] → W p l e (gRm 6) s m args below meth c H locs 0 0 Q (F0 m 69 ls [])) → W p l e (gRm 6) s m args below meth c H locs 0 0 Q (F0 m 37 ls []) := by
  have hx := K.1; have hb := K.2.1; have hown := K.2.2.2.1; have hts := K.2.2.2.2.1
  intro n
  induction n with
  | zero => intro u8 u9 u10 I J out h hn; exact absurd h.symm hn
  | succ n ih =>
    intro u8 u9 u10 I J out h hn H locs hW ls hl hx1
    replace h : fX6_foretold_37b  (fX6_foretold_37  n) u8 u9 u10 I = out := h
    unfold fX6_foretold_37b at h
    refine lv_iload_n hx hb dX6_foretold_37 rfl (lv_at hl 3 rfl) ?_
    refine lv_iload_n hx hb dX6_foretold_38 rfl (lv_at hl 1 rfl) ?_
    refine lv_icmp_ge (tgt := 69) hx hb dX6_foretold_39 (by decide) (fun c12 => ?_) (fun c12 => ?_)
    · replace h := gi_t h c12
      exact hx1 I h _ _ hW _ (lv_sub hl [0, 2] rfl)
    · replace h := gi_f h c12
      refine lv_aload_n hx hb dX6_foretold_42 rfl (lv_at hl 0 rfl) ?_
      refine g_get K hW (t := 2) (ci := 5) (k := 6) (v := .ref (ad 289)) kLC_0 rfl rfl i_X6 (by decide) q_399 rfl (gfv2 rLC_0_6) dX6_foretold_43 ?_
      refine g_get K hW (t := 0) (ci := 4) (k := 7) (v := .int (I 289 7)) kLC_289 rfl rfl i_X5 (by decide) q_187 rfl rfl dX6_foretold_46 ?_
      refine lv_sipush (v := (9999 : Int32)) hx hb dX6_foretold_49 (by decide) ?_
      refine lv_icmp_ge (tgt := 69) hx hb dX6_foretold_52 (by decide) (fun c13 => ?_) (fun c13 => ?_)
      · replace h := gi_t h c13
        exact hx1 I h _ _ hW _ (lv_sub hl [0, 2] rfl)
      · replace h := gi_f h c13
        refine lv_aload_n hx hb dX6_foretold_55 rfl (lv_at hl 0 rfl) ?_
        refine lv_aload_n hx hb dX6_foretold_56 rfl (lv_at hl 0 rfl) ?_
        refine g_get K hW (t := 2) (ci := 5) (k := 6) (v := .ref (ad 289)) kLC_0 rfl rfl i_X6 (by decide) q_399 rfl (gfv2 rLC_0_6) dX6_foretold_57 ?_
        obtain ⟨I14, e15, h⟩ := bd_o h hn
        refine g_callVv (rest := []) K hW hl (kX6_dawnComes (l := l) (G := G) (ad := ad) hok 289 kLC_289 I J I14 e15) kLC_0 rfl (gG_V q_792 q_794 q_35 q_133 q_795) nm_X6_dawnComes ⟨Nat.le_of_ble_eq_true rfl, Nat.le_of_ble_eq_true rfl⟩ rfl rfl (Nat.le_of_ble_eq_true rfl) ⟨Nat.zero_le _, Nat.zero_le _⟩ dX6_foretold_60 (fun H locs hW => ?_)
        obtain ⟨u17, e18, h⟩ := lz_o h
        refine lv_iinc (v := u17) (lv' := [(3, .int u17), (0, .ref (ad 0)), (1, .int u8), (2, .int u9)]) hx hb dX6_foretold_63 hl (k := 3) rfl (by rw [e18]; rfl) (by decide) rfl (fun ls hl => ?_)
        refine lv_goto (tgt := 37) hx hb dX6_foretold_66 (by decide) ?_
        exact ih u8 u9 u17 I14 J _ h hn _ _ hW _ (lv_sub hl [1, 2, 3, 0] rfl) hx1
noncomputable def fX6_foretold_86b  (rec : Int32 → Int32 → gI → Option ((Int32))) (u24 : Int32) (u25 : Int32) (I : gI) : Option ((Int32)) :=
  gi ((I 1 12) ≤ u25)
 (some u24)
 (gd (vp_in u25 6) (lz ((u24 + (I 290 (u25).toNatClampNeg))) (fun (u29 : Int32) => lz ((u25 + (1 : Int32))) (fun (u31 : Int32) => rec u29 u31 I))))
noncomputable def fX6_foretold_86  : Nat → Int32 → Int32 → gI → Option ((Int32))
  | 0 => fun _ _ _ => none
  | n + 1 => fX6_foretold_86b  (fX6_foretold_86  n)
set_option maxHeartbeats 4000000 in
set_option maxRecDepth 100000 in
theorem tX6_foretold_86 {l : Launch} {G : gG} {ad : Nat → Nat} {p : Program} {e : Env} {s : State} {m : MethodId} {args : Array Value} {below : List Frame} {meth : Method} {c : Code} {Q : State → Prop} (hok : gInj LC ad) (K : gCx G (gA LC ad) p s m args c cX6_foretold 5 RX6)  : ∀ (n : Nat) (u24 : Int32) (u25 : Int32) (I : gI) (J : gJ) (out : Option ((Int32))), fX6_foretold_86  n u24 u25 I = out → out ≠ none → ∀ (H : Heap) (locs : List Loc), gWd G LC ad (gA LC ad) s.heap I J H locs → ∀ (ls : Array Slot), lv_has ls 5 [(0, .ref (ad 0)), (3, .int u24), (4, .int u25)] → (∀ (y26 : Int32), some y26 = out → ∀ (H : Heap) (locs : List Loc), gWd G LC ad (gA LC ad) s.heap I J H locs → ∀ (ls : Array Slot), lv_has ls 5 [(3, .int y26)] → W p l e (gRm 6) s m args below meth c H locs 0 0 Q (F0 m 117 ls [])) → W p l e (gRm 6) s m args below meth c H locs 0 0 Q (F0 m 86 ls []) := by
  have hx := K.1; have hb := K.2.1; have hown := K.2.2.2.1; have hts := K.2.2.2.2.1
  intro n
  induction n with
  | zero => intro u24 u25 I J out h hn; exact absurd h.symm hn
  | succ n ih =>
    intro u24 u25 I J out h hn H locs hW ls hl hx1
    replace h : fX6_foretold_86b  (fX6_foretold_86  n) u24 u25 I = out := h
    unfold fX6_foretold_86b at h
    refine lv_iload hx hb dX6_foretold_86 (lv_at hl 2 rfl) ?_
    refine lv_aload_n hx hb dX6_foretold_88 rfl (lv_at hl 0 rfl) ?_
    refine g_get K hW (t := 2) (ci := 5) (k := 0) (v := .ref (ad 1)) kLC_0 rfl rfl i_X6 (by decide) q_393 rfl (gfv2 rLC_0_0) dX6_foretold_89 ?_
    refine g_get K hW (t := 0) (ci := 0) (k := 12) (v := .int (I 1 12)) kLC_1 rfl rfl i_X0 (by decide) q_238 rfl rfl dX6_foretold_92 ?_
    refine lv_icmp_ge (tgt := 117) hx hb dX6_foretold_95 (by decide) (fun c27 => ?_) (fun c27 => ?_)
    · replace h := gi_t h c27
      exact hx1 u24 h _ _ hW _ (lv_sub hl [1] rfl)
    · replace h := gi_f h c27
      refine lv_iload_n hx hb dX6_foretold_98 rfl (lv_at hl 1 rfl) ?_
      refine lv_aload_n hx hb dX6_foretold_99 rfl (lv_at hl 0 rfl) ?_
      refine g_get K hW (t := 2) (ci := 5) (k := 6) (v := .ref (ad 289)) kLC_0 rfl rfl i_X6 (by decide) q_399 rfl (gfv2 rLC_0_6) dX6_foretold_100 ?_
      refine g_get K hW (t := 2) (ci := 4) (k := 0) (v := .ref (ad 290)) kLC_289 rfl rfl i_X5 (by decide) q_169 rfl (gfv2 rLC_289_0) dX6_foretold_103 ?_
      refine lv_iload hx hb dX6_foretold_106 (lv_at hl 2 rfl) ?_
      obtain ⟨g28, h⟩ := gd_o h hn
      refine g_iald K hW kLC_290 g28 rfl dX6_foretold_108 ?_
      refine lv_iadd hx hb dX6_foretold_109 ?_
      obtain ⟨u29, e30, h⟩ := lz_o h
      refine g_nmi e30 ?_
      refine lv_istore_n (lv' := [(3, .int u29), (0, .ref (ad 0)), (4, .int u25)]) hx hb dX6_foretold_110 rfl hl (by decide) rfl (fun ls hl => ?_)
      obtain ⟨u31, e32, h⟩ := lz_o h
      refine lv_iinc (v := u31) (lv' := [(4, .int u31), (3, .int u29), (0, .ref (ad 0))]) hx hb dX6_foretold_111 hl (k := 2) rfl (by rw [e32]; rfl) (by decide) rfl (fun ls hl => ?_)
      refine lv_goto (tgt := 86) hx hb dX6_foretold_114 (by decide) ?_
      exact ih u29 u31 I J _ h hn _ _ hW _ (lv_sub hl [2, 1, 0] rfl) hx1
noncomputable def fX6_foretold  (x1 : Int32) (x2 : Int32) (I : gI) : Option (Int32 × gI) :=
  gi ((fX6_within x1 (1 : Int32) (60 : Int32)) = 0)
 (some ((-1 : Int32), I))
 (gi ((fX6_within x2 (0 : Int32) (1 : Int32)) = 0)
 (some ((-1 : Int32), I))
 (lz (fX5_become 289 11 I) (fun (I5 : gI) => bd (fX6_foretold_37 FU x1 x2 (0 : Int32) I5) (fun (I21 : gI) => gi (x2 = 0)
 (some ((I21 289 5), I21))
 (bd (fX6_foretold_86 FU (0 : Int32) (0 : Int32) I21) (fun (u35 : Int32) => some (u35, I21)))))))
set_option maxHeartbeats 4000000 in
set_option maxRecDepth 100000 in
theorem kX6_foretold {l : Launch} {G : gG} {ad : Nat → Nat} (hok : gInj LC ad)    (x1 : Int32) (x2 : Int32) (I : gI) (J : gJ) (r : Int32) (I' : gI) (h : fX6_foretold x1 x2 I = some (r, I')) : gMi l yX6_foretold cX6_foretold 5 (some .int) 6 G LC ad [.ref (ad 0), .int x1, .int x2] I J r True I' J := by
  refine gMi_of (lst := [(0, .ref (ad 0)), (1, .int x1), (2, .int x2)]) (by decide) hok (Nat.le_of_ble_eq_true rfl) rfl ?_
  intro p e s m args below meth c Q ls K hW hl hfin
  have hn : (some (r, I') : Option (Int32 × gI)) ≠ none := Option.some_ne_none _
  have hx := K.1; have hb := K.2.1; have hown := K.2.2.2.1; have hts := K.2.2.2.2.1
  unfold fX6_foretold at h
  refine lv_iload_n hx hb dX6_foretold_0 rfl (lv_at hl 1 rfl) ?_
  refine lv_iconst (v := (1 : Int32)) hx hb dX6_foretold_1 (by decide) ?_
  refine lv_bipush (v := (60 : Int32)) hx hb dX6_foretold_2 (by decide) ?_
  refine g_callSi (rest := []) K hW hl (kX6_within (l := l) (G := G) (ad := ad) hok x1 (1 : Int32) (60 : Int32) I J (fX6_within x1 (1 : Int32) (60 : Int32)) rfl) q_440 q_441 q_133 q_442 nm_X6_within ⟨Nat.le_of_ble_eq_true rfl, Nat.le_of_ble_eq_true rfl⟩ rfl rfl (Nat.le_of_ble_eq_true rfl) ⟨Nat.zero_le _, Nat.zero_le _⟩ dX6_foretold_4 (fun z1 H locs hW => ?_)
  refine lv_if_eq (tgt := 19) hx hb dX6_foretold_7 (by decide) (fun c2 => ?_) (fun c2 => ?_)
  · replace h := gi_t h c2
    refine lv_iconst (v := (-1 : Int32)) hx hb dX6_foretold_19 (by decide) ?_
    obtain ⟨a1, a2⟩ := so2 h
    replace hW := gWd_nI a2 hW
    exact g_nmi a1 (hfin _ _ _ _ hW dX6_foretold_20)
  · replace h := gi_f h c2
    refine lv_iload_n hx hb dX6_foretold_10 rfl (lv_at hl 2 rfl) ?_
    refine lv_iconst (v := (0 : Int32)) hx hb dX6_foretold_11 (by decide) ?_
    refine lv_iconst (v := (1 : Int32)) hx hb dX6_foretold_12 (by decide) ?_
    refine g_callSi (rest := []) K hW hl (kX6_within (l := l) (G := G) (ad := ad) hok x2 (0 : Int32) (1 : Int32) I J (fX6_within x2 (0 : Int32) (1 : Int32)) rfl) q_440 q_441 q_133 q_442 nm_X6_within ⟨Nat.le_of_ble_eq_true rfl, Nat.le_of_ble_eq_true rfl⟩ rfl rfl (Nat.le_of_ble_eq_true rfl) ⟨Nat.zero_le _, Nat.zero_le _⟩ dX6_foretold_13 (fun z3 H locs hW => ?_)
    refine lv_if_ne (tgt := 21) hx hb dX6_foretold_16 (by decide) (fun c4 => ?_) (fun c4 => ?_)
    · replace h := gi_f h c4
      refine lv_aload_n hx hb dX6_foretold_21 rfl (lv_at hl 0 rfl) ?_
      refine g_get K hW (t := 2) (ci := 5) (k := 6) (v := .ref (ad 289)) kLC_0 rfl rfl i_X6 (by decide) q_399 rfl (gfv2 rLC_0_6) dX6_foretold_22 ?_
      refine lv_aload_n hx hb dX6_foretold_25 rfl (lv_at hl 0 rfl) ?_
      refine g_get K hW (t := 2) (ci := 5) (k := 0) (v := .ref (ad 1)) kLC_0 rfl rfl i_X6 (by decide) q_393 rfl (gfv2 rLC_0_0) dX6_foretold_26 ?_
      refine g_get K hW (t := 2) (ci := 0) (k := 9) (v := .ref (ad 11)) kLC_1 rfl rfl i_X0 (by decide) q_232 rfl (gfv2 rLC_1_9) dX6_foretold_29 ?_
      obtain ⟨I5, e6, h⟩ := lz_o h
      refine g_callVv (rest := []) K hW hl (kX5_become (l := l) (G := G) (ad := ad) hok 289 11 kLC_289 kLC_11 I J I5 e6.symm) kLC_289 rfl (gG_V q_735 q_736 q_737 q_135 q_738) nm_X5_become ⟨Nat.le_of_ble_eq_true rfl, Nat.le_of_ble_eq_true rfl⟩ rfl rfl (Nat.le_of_ble_eq_true rfl) ⟨Nat.zero_le _, Nat.zero_le _⟩ dX6_foretold_32 (fun H locs hW => ?_)
      refine lv_iconst (v := (0 : Int32)) hx hb dX6_foretold_35 (by decide) ?_
      refine lv_istore_n (lv' := [(3, .int (0 : Int32)), (0, .ref (ad 0)), (1, .int x1), (2, .int x2)]) hx hb dX6_foretold_36 rfl hl (by decide) rfl (fun ls hl => ?_)
      obtain ⟨r19, e20, h⟩ := bd_o h hn
      refine tX6_foretold_37 hok K FU x1 x2 (0 : Int32) I5 J (some r19) e20 (Option.some_ne_none _) _ _ hW _ (lv_sub hl [1, 2, 3, 0] rfl) ?_
      · intro I21 q22 H locs hW ls hl
        replace q22 := Option.some.inj q22
        subst q22
        refine lv_iload_n hx hb dX6_foretold_69 rfl (lv_at hl 1 rfl) ?_
        refine lv_if_ne (tgt := 81) hx hb dX6_foretold_70 (by decide) (fun c23 => ?_) (fun c23 => ?_)
        · replace h := gi_f h c23
          refine lv_iconst (v := (0 : Int32)) hx hb dX6_foretold_81 (by decide) ?_
          refine lv_istore_n (lv' := [(3, .int (0 : Int32)), (0, .ref (ad 0)), (2, .int x2)]) hx hb dX6_foretold_82 rfl hl (by decide) rfl (fun ls hl => ?_)
          refine lv_iconst (v := (0 : Int32)) hx hb dX6_foretold_83 (by decide) ?_
          refine lv_istore (lv' := [(4, .int (0 : Int32)), (3, .int (0 : Int32)), (0, .ref (ad 0)), (2, .int x2)]) hx hb dX6_foretold_84 hl (by decide) rfl (fun ls hl => ?_)
          obtain ⟨r33, e34, h⟩ := bd_o h hn
          refine tX6_foretold_86 hok K FU (0 : Int32) (0 : Int32) I21 J (some r33) e34 (Option.some_ne_none _) _ _ hW _ (lv_sub hl [2, 1, 0] rfl) ?_
          · intro u35 q36 H locs hW ls hl
            replace q36 := Option.some.inj q36
            subst q36
            refine lv_iload_n hx hb dX6_foretold_117 rfl (lv_at hl 0 rfl) ?_
            obtain ⟨a1, a2⟩ := so2 h
            replace hW := gWd_nI a2 hW
            exact g_nmi a1 (hfin _ _ _ _ hW dX6_foretold_118)
        · replace h := gi_t h c23
          refine lv_aload_n hx hb dX6_foretold_73 rfl (lv_at hl 0 rfl) ?_
          refine g_get K hW (t := 2) (ci := 5) (k := 6) (v := .ref (ad 289)) kLC_0 rfl rfl i_X6 (by decide) q_399 rfl (gfv2 rLC_0_6) dX6_foretold_74 ?_
          refine g_get K hW (t := 0) (ci := 4) (k := 5) (v := .int (I21 289 5)) kLC_289 rfl rfl i_X5 (by decide) q_182 rfl rfl dX6_foretold_77 ?_
          obtain ⟨a1, a2⟩ := so2 h
          replace hW := gWd_nI a2 hW
          exact g_nmi a1 (hfin _ _ _ _ hW dX6_foretold_80)
    · replace h := gi_t h c4
      refine lv_iconst (v := (-1 : Int32)) hx hb dX6_foretold_19 (by decide) ?_
      obtain ⟨a1, a2⟩ := so2 h
      replace hW := gWd_nI a2 hW
      exact g_nmi a1 (hfin _ _ _ _ hW dX6_foretold_20)
theorem kLC_293 : gAt LC 293 1 6 := ⟨by decide, by decide +kernel⟩
theorem rLC_0_7 : LC.2.2 0 7 = some 293 := by decide +kernel
noncomputable def fX6_bidTogether_4b  (rec : Int32 → Int32 → Int32 → gI → Option ((Int32))) (u1 : Int32) (u2 : Int32) (u3 : Int32) (I : gI) : Option ((Int32)) :=
  gi ((6 : Int32) ≤ u3)
 (some u2)
 (lz (fun (u6 : Int32) => lz ((u3 + (1 : Int32))) (fun (u10 : Int32) => rec u1 u6 u10 I)) (fun j7 => gi (((jshr u1 u3) &&& (1 : Int32)) = (1 : Int32))
 (gd (vp_in u3 6) (lz ((u2 + (I 293 (u3).toNatClampNeg))) (fun (u14 : Int32) => j7 u14)))
 (j7 u2)))
noncomputable def fX6_bidTogether_4  : Nat → Int32 → Int32 → Int32 → gI → Option ((Int32))
  | 0 => fun _ _ _ _ => none
  | n + 1 => fX6_bidTogether_4b  (fX6_bidTogether_4  n)
set_option maxHeartbeats 4000000 in
set_option maxRecDepth 100000 in
theorem tX6_bidTogether_4 {l : Launch} {G : gG} {ad : Nat → Nat} {p : Program} {e : Env} {s : State} {m : MethodId} {args : Array Value} {below : List Frame} {meth : Method} {c : Code} {Q : State → Prop} (hok : gInj LC ad) (K : gCx G (gA LC ad) p s m args c cX6_bidTogether 4 RX6)  : ∀ (n : Nat) (u1 : Int32) (u2 : Int32) (u3 : Int32) (I : gI) (J : gJ) (out : Option ((Int32))), fX6_bidTogether_4  n u1 u2 u3 I = out → out ≠ none → ∀ (H : Heap) (locs : List Loc), gWd G LC ad (gA LC ad) s.heap I J H locs → ∀ (ls : Array Slot), lv_has ls 4 [(0, .ref (ad 0)), (1, .int u1), (2, .int u2), (3, .int u3)] → (∀ (y4 : Int32), some y4 = out → ∀ (H : Heap) (locs : List Loc), gWd G LC ad (gA LC ad) s.heap I J H locs → ∀ (ls : Array Slot), lv_has ls 4 [(2, .int y4)] → W p l e (gRm 1) s m args below meth c H locs 0 0 Q (F0 m 34 ls [])) → W p l e (gRm 1) s m args below meth c H locs 0 0 Q (F0 m 4 ls []) := by
  have hx := K.1; have hb := K.2.1; have hown := K.2.2.2.1; have hts := K.2.2.2.2.1
  intro n
  induction n with
  | zero => intro u1 u2 u3 I J out h hn; exact absurd h.symm hn
  | succ n ih =>
    intro u1 u2 u3 I J out h hn H locs hW ls hl hx1
    replace h : fX6_bidTogether_4b  (fX6_bidTogether_4  n) u1 u2 u3 I = out := h
    unfold fX6_bidTogether_4b at h
    refine lv_iload_n hx hb dX6_bidTogether_4 rfl (lv_at hl 3 rfl) ?_
    refine lv_bipush (v := (6 : Int32)) hx hb dX6_bidTogether_5 (by decide) ?_
    refine lv_icmp_ge (tgt := 34) hx hb dX6_bidTogether_7 (by decide) (fun c5 => ?_) (fun c5 => ?_)
    · replace h := gi_t h c5
      exact hx1 u2 h _ _ hW _ (lv_sub hl [2] rfl)
    · replace h := gi_f h c5
      refine lv_iload_n hx hb dX6_bidTogether_10 rfl (lv_at hl 1 rfl) ?_
      refine lv_iload_n hx hb dX6_bidTogether_11 rfl (lv_at hl 3 rfl) ?_
      refine g_ishr hx hb dX6_bidTogether_12 ?_
      refine lv_iconst (v := (1 : Int32)) hx hb dX6_bidTogether_13 (by decide) ?_
      refine lv_iand hx hb dX6_bidTogether_14 ?_
      refine lv_iconst (v := (1 : Int32)) hx hb dX6_bidTogether_15 (by decide) ?_
      obtain ⟨j7, e8, h⟩ := lz_o h
      have hj9 : ∀ (u6 : Int32), j7 u6 = out → ∀ (H : Heap) (locs : List Loc), gWd G LC ad (gA LC ad) s.heap I J H locs → ∀ (ls : Array Slot), lv_has ls 4 [(0, .ref (ad 0)), (1, .int u1), (2, .int u6), (3, .int u3)] → W p l e (gRm 1) s m args below meth c H locs 0 0 Q (F0 m 28 ls []) := by
        intro u6 h H locs hW ls hl
        replace h := jn1 e8 h
        obtain ⟨u10, e11, h⟩ := lz_o h
        refine lv_iinc (v := u10) (lv' := [(3, .int u10), (0, .ref (ad 0)), (1, .int u1), (2, .int u6)]) hx hb dX6_bidTogether_28 hl (k := 3) rfl (by rw [e11]; rfl) (by decide) rfl (fun ls hl => ?_)
        refine lv_goto (tgt := 4) hx hb dX6_bidTogether_31 (by decide) ?_
        exact ih u1 u6 u10 I J _ h hn _ _ hW _ (lv_sub hl [1, 2, 3, 0] rfl) hx1
      refine lv_icmp_ne (tgt := 28) hx hb dX6_bidTogether_16 (by decide) (fun c12 => ?_) (fun c12 => ?_)
      · replace h := gi_f h c12
        exact hj9 u2 h _ _ hW _ (lv_sub hl [0, 1, 2, 3] rfl)
      · replace h := gi_t h c12
        refine lv_iload_n hx hb dX6_bidTogether_19 rfl (lv_at hl 2 rfl) ?_
        refine lv_aload_n hx hb dX6_bidTogether_20 rfl (lv_at hl 0 rfl) ?_
        refine g_get K hW (t := 2) (ci := 5) (k := 7) (v := .ref (ad 293)) kLC_0 rfl rfl i_X6 (by decide) q_400 rfl (gfv2 rLC_0_7) dX6_bidTogether_21 ?_
        refine lv_iload_n hx hb dX6_bidTogether_24 rfl (lv_at hl 3 rfl) ?_
        obtain ⟨g13, h⟩ := gd_o h hn
        refine g_iald K hW kLC_293 g13 rfl dX6_bidTogether_25 ?_
        refine lv_iadd hx hb dX6_bidTogether_26 ?_
        obtain ⟨u14, e15, h⟩ := lz_o h
        refine g_nmi e15 ?_
        refine lv_istore_n (lv' := [(2, .int u14), (0, .ref (ad 0)), (1, .int u1), (3, .int u3)]) hx hb dX6_bidTogether_27 rfl hl (by decide) rfl (fun ls hl => ?_)
        exact hj9 u14 h _ _ hW _ (lv_sub hl [1, 2, 0, 3] rfl)
noncomputable def fX6_bidTogether  (x1 : Int32) (I : gI) : Option (Int32) :=
  bd (fX6_bidTogether_4 FU x1 (0 : Int32) (0 : Int32) I) (fun (u18 : Int32) => some u18)
set_option maxHeartbeats 4000000 in
set_option maxRecDepth 100000 in
theorem kX6_bidTogether {l : Launch} {G : gG} {ad : Nat → Nat} (hok : gInj LC ad)    (x1 : Int32) (I : gI) (J : gJ) (r : Int32) (h : fX6_bidTogether x1 I = some r) : gMi l yX6_bidTogether cX6_bidTogether 4 (some .int) 1 G LC ad [.ref (ad 0), .int x1] I J r True I J := by
  refine gMi_of (lst := [(0, .ref (ad 0)), (1, .int x1)]) (by decide) hok (Nat.le_of_ble_eq_true rfl) rfl ?_
  intro p e s m args below meth c Q ls K hW hl hfin
  have hn : (some r : Option (Int32)) ≠ none := Option.some_ne_none _
  have hx := K.1; have hb := K.2.1; have hown := K.2.2.2.1; have hts := K.2.2.2.2.1
  unfold fX6_bidTogether at h
  refine lv_iconst (v := (0 : Int32)) hx hb dX6_bidTogether_0 (by decide) ?_
  refine lv_istore_n (lv' := [(2, .int (0 : Int32)), (0, .ref (ad 0)), (1, .int x1)]) hx hb dX6_bidTogether_1 rfl hl (by decide) rfl (fun ls hl => ?_)
  refine lv_iconst (v := (0 : Int32)) hx hb dX6_bidTogether_2 (by decide) ?_
  refine lv_istore_n (lv' := [(3, .int (0 : Int32)), (2, .int (0 : Int32)), (0, .ref (ad 0)), (1, .int x1)]) hx hb dX6_bidTogether_3 rfl hl (by decide) rfl (fun ls hl => ?_)
  obtain ⟨r16, e17, h⟩ := bd_o h hn
  refine tX6_bidTogether_4 hok K FU x1 (0 : Int32) (0 : Int32) I J (some r16) e17 (Option.some_ne_none _) _ _ hW _ (lv_sub hl [2, 3, 1, 0] rfl) ?_
  · intro u18 q19 H locs hW ls hl
    replace q19 := Option.some.inj q19
    subst q19
    refine lv_iload_n hx hb dX6_bidTogether_34 rfl (lv_at hl 0 rfl) ?_
    obtain a1 := so1 h
    exact g_nmi a1 (hfin _ _ _ _ hW dX6_bidTogether_35)
