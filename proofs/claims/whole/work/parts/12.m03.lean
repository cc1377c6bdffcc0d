-- 12.m03: the reference: beginOne compareOf betweenOf partOf behindOne summed figure lawClause buyerClause sortClause body
theorem nm_X7_nameOf : gNm yX7_nameOf 0 := by decide +kernel
theorem nm_X7_settle : gNm yX7_settle 1 := by decide +kernel
theorem nm_X7_isWord : gNm yX7_isWord 1 := by decide +kernel
theorem nm_X7_isAskAhead : gNm yX7_isAskAhead 0 := by decide +kernel
theorem nm_X7_opened : gNm yX7_opened 1 := by decide +kernel
theorem nm_X7_isOf : gNm yX7_isOf 1 := by decide +kernel
noncomputable def fX7_beginOne   (I : gI) (J : gJ) : Option (Int32 × gI × gJ) :=
  lz (lz ((fX7_nameOf I J)) (fun (u5 : Int32) => lz (lz (lz (fun (u13 : Int32) => lz (fun (u17 : Int32) => bd (fX7_emit u13 u17 I) (fun (I21 : gI) => bd (fX7_nextToken I21 J) (pr (fun (I24 : gI) (J25 : gJ) => lz (wI I24 0 18 (1 : Int32)) (fun (I28 : gI) => bd (fX7_settle (7 : Int32) I28) (fun (I30 : gI) => some ((0 : Int32), I30, J25))))))) (fun j18 => gi ((I 0 9) = (1 : Int32))
 (j18 (I 0 10))
 (j18 u5))) (fun j14 => gi ((I 0 9) = (1 : Int32))
 (j14 (0 : Int32))
 (j14 (1 : Int32)))) (fun j10 => gi ((I 0 9) = (1 : Int32))
 (j10)
 (gi (u5 < 0)
 (gi ((I 0 9) = (40 : Int32))
 (bd (fX7_opened (40 : Int32) I J) (pr (fun (u84 : Int32) => pr (fun (I85 : gI) (J86 : gJ) => some (u84, I85, J86)))))
 (gi ((I 0 9) = (45 : Int32))
 (bd (fX7_opened (5 : Int32) I J) (pr (fun (u79 : Int32) => pr (fun (I80 : gI) (J81 : gJ) => some (u79, I80, J81)))))
 (lz ((fX7_w5 (119 : Int32) (111 : Int32) (114 : Int32) (116 : Int32) (104 : Int32))) (fun (u40 : Int64) => gi ((fX7_isWord u40 I J) = 0)
 (lz ((fX7_w5 (112 : Int32) (117 : Int32) (114 : Int32) (115 : Int32) (101 : Int32))) (fun (u45 : Int64) => gi ((fX7_isWord u45 I J) = 0)
 (gi ((fX7_isWord (fX7_w2 (105 : Int32) (102 : Int32)) I J) = 0)
 (gi ((fX7_isWord (fX7_w3 (110 : Int32) (111 : Int32) (116 : Int32)) I J) = 0)
 (some ((1 : Int32), I, J))
 (bd (fX7_isAskAhead I) (fun (u55 : Int32) => gi (u55 = 0)
 (some ((1 : Int32), I, J))
 (bd (fX7_opened (20 : Int32) I J) (pr (fun (u59 : Int32) => pr (fun (I60 : gI) (J61 : gJ) => some (u59, I60, J61))))))))
 (bd (fX7_opened (41 : Int32) I J) (pr (fun (u64 : Int32) => pr (fun (I65 : gI) (J66 : gJ) => some (u64, I65, J66))))))
 (bd (fX7_opened (4 : Int32) I J) (pr (fun (u69 : Int32) => pr (fun (I70 : gI) (J71 : gJ) => some (u69, I70, J71)))))))
 (bd (fX7_opened (2 : Int32) I J) (pr (fun (u74 : Int32) => pr (fun (I75 : gI) (J76 : gJ) => some (u74, I75, J76)))))))))
 (j10)))) (fun j7 => gi (u5 < 0)
 (j7)
 (gi ((fX7_isOf u5 I) = 0)
 (some ((5 : Int32), I, J))
 (j7))))) (fun j1 => gi ((I 0 9) = (1 : Int32))
 (gi ((I 0 10) ≤ (9999 : Int32))
 (j1)
 (some ((2 : Int32), I, J)))
 (j1))
set_option maxHeartbeats 4000000 in
set_option maxRecDepth 100000 in
theorem kX7_beginOne {l : Launch} {G : gG} {ad : Nat → Nat} (hok : gInj LM ad)     (I : gI) (J : gJ) (r : Int32) (I' : gI) (J' : gJ) (h : fX7_beginOne I J = some (r, I', J')) : gMi l yX7_beginOne cX7_beginOne 2 (some .int) 6 G LM ad [.ref (ad 0)] I J r True I' J' := by
  refine gMi_of (lst := [(0, .ref (ad 0))]) (by decide) hok (Nat.le_of_ble_eq_true rfl) rfl ?_
  intro p e s m args below meth c Q ls K hW hl hfin
  have hn : (some (r, I', J') : Option (Int32 × gI × gJ)) ≠ none := Option.some_ne_none _
  have hx := K.1; have hb := K.2.1; have hown := K.2.2.2.1; have hts := K.2.2.2.2.1
  unfold fX7_beginOne at h
  refine lv_aload_n hx hb dX7_beginOne_0 rfl (lv_at hl 0 rfl) ?_
  refine g_get K hW (t := 0) (ci := 6) (k := 9) (v := .int (I 0 9)) kLM_0 rfl rfl i_X7 (by decide) q_1086 rfl rfl dX7_beginOne_1 ?_
  refine lv_iconst (v := (1 : Int32)) hx hb dX7_beginOne_4 (by decide) ?_
  obtain ⟨j1, e2, h⟩ := lz_o h
  have hj3 : j1 = (some (r, I', J')) → ∀ (H : Heap) (locs : List Loc), gWd G LM ad (gA LM ad) s.heap I J H locs → ∀ (ls : Array Slot), lv_has ls 2 [(0, .ref (ad 0))] → W p l e (gRm 6) s m args below meth c H locs 0 0 Q (F0 m 20 ls []) := by
    intro h H locs hW ls hl
    replace h := jn0 e2 h
    refine lv_aload_n hx hb dX7_beginOne_20 rfl (lv_at hl 0 rfl) ?_
    refine g_callVi (rest := []) K hW hl (kX7_nameOf (l := l) (G := G) (ad := ad) hok I J (fX7_nameOf I J) rfl) kLM_0 rfl (gG_V q_1314 q_1316 q_75 q_139 q_1317) nm_X7_nameOf ⟨Nat.le_of_ble_eq_true rfl, Nat.le_of_ble_eq_true rfl⟩ rfl rfl (Nat.le_of_ble_eq_true rfl) ⟨Nat.zero_le _, Nat.zero_le _⟩ dX7_beginOne_21 (fun z4 H locs hW => ?_)
    obtain ⟨u5, e6, h⟩ := lz_o h
    refine g_nmi e6 ?_
    refine lv_istore_n (lv' := [(1, .int u5), (0, .ref (ad 0))]) hx hb dX7_beginOne_24 rfl hl (by decide) rfl (fun ls hl => ?_)
    refine lv_iload_n hx hb dX7_beginOne_25 rfl (lv_at hl 0 rfl) ?_
    obtain ⟨j7, e8, h⟩ := lz_o h
    have hj9 : j7 = (some (r, I', J')) → ∀ (H : Heap) (locs : List Loc), gWd G LM ad (gA LM ad) s.heap I J H locs → ∀ (ls : Array Slot), lv_has ls 2 [(0, .ref (ad 0)), (1, .int u5)] → W p l e (gRm 6) s m args below meth c H locs 0 0 Q (F0 m 39 ls []) := by
      intro h H locs hW ls hl
      replace h := jn0 e8 h
      refine lv_aload_n hx hb dX7_beginOne_39 rfl (lv_at hl 0 rfl) ?_
      refine g_get K hW (t := 0) (ci := 6) (k := 9) (v := .int (I 0 9)) kLM_0 rfl rfl i_X7 (by decide) q_1086 rfl rfl dX7_beginOne_40 ?_
      refine lv_iconst (v := (1 : Int32)) hx hb dX7_beginOne_43 (by decide) ?_
      obtain ⟨j10, e11, h⟩ := lz_o h
      have hj12 : j10 = (some (r, I', J')) → ∀ (H : Heap) (locs : List Loc), gWd G LM ad (gA LM ad) s.heap I J H locs → ∀ (ls : Array Slot), lv_has ls 2 [(0, .ref (ad 0)), (1, .int u5)] → W p l e (gRm 6) s m args below meth c H locs 0 0 Q (F0 m 51 ls []) := by
        intro h H locs hW ls hl
        replace h := jn0 e11 h
        refine lv_aload_n hx hb dX7_beginOne_51 rfl (lv_at hl 0 rfl) ?_
        refine lv_aload_n hx hb dX7_beginOne_52 rfl (lv_at hl 0 rfl) ?_
        refine g_get K hW (t := 0) (ci := 6) (k := 9) (v := .int (I 0 9)) kLM_0 rfl rfl i_X7 (by decide) q_1086 rfl rfl dX7_beginOne_53 ?_
        refine lv_iconst (v := (1 : Int32)) hx hb dX7_beginOne_56 (by decide) ?_
        obtain ⟨j14, e15, h⟩ := lz_o h
        have hj16 : ∀ (u13 : Int32), j14 u13 = (some (r, I', J')) → ∀ (H : Heap) (locs : List Loc), gWd G LM ad (gA LM ad) s.heap I J H locs → ∀ (ls : Array Slot), lv_has ls 2 [(0, .ref (ad 0)), (1, .int u5)] → W p l e (gRm 6) s m args below meth c H locs 0 0 Q (F0 m 65 ls [.int u13, .ref (ad 0)]) := by
          intro u13 h H locs hW ls hl
          replace h := jn1 e15 h
          refine lv_aload_n hx hb dX7_beginOne_65 rfl (lv_at hl 0 rfl) ?_
          refine g_get K hW (t := 0) (ci := 6) (k := 9) (v := .int (I 0 9)) kLM_0 rfl rfl i_X7 (by decide) q_1086 rfl rfl dX7_beginOne_66 ?_
          refine lv_iconst (v := (1 : Int32)) hx hb dX7_beginOne_69 (by decide) ?_
          obtain ⟨j18, e19, h⟩ := lz_o h
          have hj20 : ∀ (u17 : Int32), j18 u17 = (some (r, I', J')) → ∀ (H : Heap) (locs : List Loc), gWd G LM ad (gA LM ad) s.heap I J H locs → ∀ (ls : Array Slot), lv_has ls 2 [(0, .ref (ad 0))] → W p l e (gRm 6) s m args below meth c H locs 0 0 Q (F0 m 81 ls [.int u17, .int u13, .ref (ad 0)]) := by
            intro u17 h H locs hW ls hl
            replace h := jn1 e19 h
            obtain ⟨I21, e22, h⟩ := bd_o h hn
            refine g_callVv (rest := []) K hW hl (kX7_emit (l := l) (G := G) (ad := ad) hok u13 u17 I J I21 e22) kLM_0 rfl (gG_V q_1302 q_1304 q_72 q_139 q_1305) nm_X7_emit ⟨Nat.le_of_ble_eq_true rfl, Nat.le_of_ble_eq_true rfl⟩ rfl rfl (Nat.le_of_ble_eq_true rfl) ⟨Nat.zero_le _, Nat.zero_le _⟩ dX7_beginOne_81 (fun H locs hW => ?_)
            refine lv_aload_n hx hb dX7_beginOne_84 rfl (lv_at hl 0 rfl) ?_
            obtain ⟨⟨I24, J25⟩, e26, h⟩ := bd_o h hn
            replace h := pr_o h
            refine g_callVv (rest := []) K hW hl (kX7_nextToken (l := l) (G := G) (ad := ad) hok I21 J I24 J25 e26) kLM_0 rfl (gG_V q_1201 q_1203 q_54 q_139 q_1204) nm_X7_nextToken ⟨Nat.le_of_ble_eq_true rfl, Nat.le_of_ble_eq_true rfl⟩ rfl rfl (Nat.le_of_ble_eq_true rfl) ⟨Nat.zero_le _, Nat.zero_le _⟩ dX7_beginOne_85 (fun H locs hW => ?_)
            refine lv_aload_n hx hb dX7_beginOne_88 rfl (lv_at hl 0 rfl) ?_
            refine lv_iconst (v := (1 : Int32)) hx hb dX7_beginOne_89 (by decide) ?_
            refine g_putI K hW (ci := 6) (k := 18) kLM_0 rfl rfl i_X7 tyX7_ok nmX7 (by decide) q_1095 rfl rfl rfl rfl dX7_beginOne_90 (fun H locs hW => ?_)
            obtain ⟨I28, e29, h⟩ := lz_o h
            replace hW := gWd_nI e29 hW
            refine lv_aload_n hx hb dX7_beginOne_93 rfl (lv_at hl 0 rfl) ?_
            refine lv_bipush (v := (7 : Int32)) hx hb dX7_beginOne_94 (by decide) ?_
            obtain ⟨I30, e31, h⟩ := bd_o h hn
            refine g_callVv (rest := []) K hW hl (kX7_settle (l := l) (G := G) (ad := ad) hok (7 : Int32) I28 J25 I30 e31) kLM_0 rfl (gG_V q_1298 q_1300 q_71 q_139 q_1301) nm_X7_settle ⟨Nat.le_of_ble_eq_true rfl, Nat.le_of_ble_eq_true rfl⟩ rfl rfl (Nat.le_of_ble_eq_true rfl) ⟨Nat.zero_le _, Nat.zero_le _⟩ dX7_beginOne_96 (fun H locs hW => ?_)
            refine lv_iconst (v := (0 : Int32)) hx hb dX7_beginOne_99 (by decide) ?_
            obtain ⟨a1, a2, a3⟩ := so3 h
            replace hW := gWd_nI a2 hW
            replace hW := gWd_nJ a3 hW
            exact g_nmi a1 (hfin _ _ _ _ hW dX7_beginOne_100)
          refine lv_icmp_ne (tgt := 80) hx hb dX7_beginOne_70 (by decide) (fun c33 => ?_) (fun c33 => ?_)
          · replace h := gi_f h c33
            refine lv_iload_n hx hb dX7_beginOne_80 rfl (lv_at hl 1 rfl) ?_
            exact hj20 u5 h _ _ hW _ (lv_sub hl [0] rfl)
          · replace h := gi_t h c33
            refine lv_aload_n hx hb dX7_beginOne_73 rfl (lv_at hl 0 rfl) ?_
            refine g_get K hW (t := 0) (ci := 6) (k := 10) (v := .int (I 0 10)) kLM_0 rfl rfl i_X7 (by decide) q_1087 rfl rfl dX7_beginOne_74 ?_
            refine lv_goto (tgt := 81) hx hb dX7_beginOne_77 (by decide) ?_
            exact hj20 (I 0 10) h _ _ hW _ (lv_sub hl [0] rfl)
        refine lv_icmp_ne (tgt := 64) hx hb dX7_beginOne_57 (by decide) (fun c34 => ?_) (fun c34 => ?_)
        · replace h := gi_f h c34
          refine lv_iconst (v := (1 : Int32)) hx hb dX7_beginOne_64 (by decide) ?_
          exact hj16 (1 : Int32) h _ _ hW _ (lv_sub hl [0, 1] rfl)
        · replace h := gi_t h c34
          refine lv_iconst (v := (0 : Int32)) hx hb dX7_beginOne_60 (by decide) ?_
          refine lv_goto (tgt := 65) hx hb dX7_beginOne_61 (by decide) ?_
          exact hj16 (0 : Int32) h _ _ hW _ (lv_sub hl [0, 1] rfl)
      refine lv_icmp_eq (tgt := 51) hx hb dX7_beginOne_44 (by decide) (fun c35 => ?_) (fun c35 => ?_)
      · replace h := gi_t h c35
        exact hj12 h _ _ hW _ (lv_sub hl [0, 1] rfl)
      · replace h := gi_f h c35
        refine lv_iload_n hx hb dX7_beginOne_47 rfl (lv_at hl 1 rfl) ?_
        refine lv_if_lt (tgt := 101) hx hb dX7_beginOne_48 (by decide) (fun c36 => ?_) (fun c36 => ?_)
        · replace h := gi_t h c36
          refine lv_aload_n hx hb dX7_beginOne_101 rfl (lv_at hl 0 rfl) ?_
          refine g_get K hW (t := 0) (ci := 6) (k := 9) (v := .int (I 0 9)) kLM_0 rfl rfl i_X7 (by decide) q_1086 rfl rfl dX7_beginOne_102 ?_
          refine lv_bipush (v := (40 : Int32)) hx hb dX7_beginOne_105 (by decide) ?_
          refine lv_icmp_ne (tgt := 117) hx hb dX7_beginOne_107 (by decide) (fun c37 => ?_) (fun c37 => ?_)
          · replace h := gi_f h c37
            refine lv_aload_n hx hb dX7_beginOne_117 rfl (lv_at hl 0 rfl) ?_
            refine g_get K hW (t := 0) (ci := 6) (k := 9) (v := .int (I 0 9)) kLM_0 rfl rfl i_X7 (by decide) q_1086 rfl rfl dX7_beginOne_118 ?_
            refine lv_bipush (v := (45 : Int32)) hx hb dX7_beginOne_121 (by decide) ?_
            refine lv_icmp_ne (tgt := 132) hx hb dX7_beginOne_123 (by decide) (fun c38 => ?_) (fun c38 => ?_)
            · replace h := gi_f h c38
              refine lv_aload_n hx hb dX7_beginOne_132 rfl (lv_at hl 0 rfl) ?_
              refine lv_bipush (v := (119 : Int32)) hx hb dX7_beginOne_133 (by decide) ?_
              refine lv_bipush (v := (111 : Int32)) hx hb dX7_beginOne_135 (by decide) ?_
              refine lv_bipush (v := (114 : Int32)) hx hb dX7_beginOne_137 (by decide) ?_
              refine lv_bipush (v := (116 : Int32)) hx hb dX7_beginOne_139 (by decide) ?_
              refine lv_bipush (v := (104 : Int32)) hx hb dX7_beginOne_141 (by decide) ?_
              refine g_callSl (rest := [.ref (ad 0)]) K hW hl (kX7_w5 (l := l) (G := G) (ad := ad) hok (119 : Int32) (111 : Int32) (114 : Int32) (116 : Int32) (104 : Int32) I J (fX7_w5 (119 : Int32) (111 : Int32) (114 : Int32) (116 : Int32) (104 : Int32)) rfl) q_1241 q_1242 q_139 q_1243 nm_X7_w5 ⟨Nat.le_of_ble_eq_true rfl, Nat.le_of_ble_eq_true rfl⟩ rfl rfl (Nat.le_of_ble_eq_true rfl) ⟨Nat.zero_le _, Nat.zero_le _⟩ dX7_beginOne_143 (fun H locs hW => ?_)
              obtain ⟨u40, e41, h⟩ := lz_o h
              refine g_nml e41 ?_
              refine g_callVi (rest := []) K hW hl (kX7_isWord (l := l) (G := G) (ad := ad) hok u40 I J (fX7_isWord u40 I J) rfl) kLM_0 rfl (gG_V q_1237 q_1239 q_58 q_139 q_1240) nm_X7_isWord ⟨Nat.le_of_ble_eq_true rfl, Nat.le_of_ble_eq_true rfl⟩ rfl rfl (Nat.le_of_ble_eq_true rfl) ⟨Nat.zero_le _, Nat.zero_le _⟩ dX7_beginOne_146 (fun z42 H locs hW => ?_)
              refine lv_if_eq (tgt := 158) hx hb dX7_beginOne_149 (by decide) (fun c43 => ?_) (fun c43 => ?_)
              · replace h := gi_t h c43
                refine lv_aload_n hx hb dX7_beginOne_158 rfl (lv_at hl 0 rfl) ?_
                refine lv_bipush (v := (112 : Int32)) hx hb dX7_beginOne_159 (by decide) ?_
                refine lv_bipush (v := (117 : Int32)) hx hb dX7_beginOne_161 (by decide) ?_
                refine lv_bipush (v := (114 : Int32)) hx hb dX7_beginOne_163 (by decide) ?_
                refine lv_bipush (v := (115 : Int32)) hx hb dX7_beginOne_165 (by decide) ?_
                refine lv_bipush (v := (101 : Int32)) hx hb dX7_beginOne_167 (by decide) ?_
                refine g_callSl (rest := [.ref (ad 0)]) K hW hl (kX7_w5 (l := l) (G := G) (ad := ad) hok (112 : Int32) (117 : Int32) (114 : Int32) (115 : Int32) (101 : Int32) I J (fX7_w5 (112 : Int32) (117 : Int32) (114 : Int32) (115 : Int32) (101 : Int32)) rfl) q_1241 q_1242 q_139 q_1243 nm_X7_w5 ⟨Nat.le_of_ble_eq_true rfl, Nat.le_of_ble_eq_true rfl⟩ rfl rfl (Nat.le_of_ble_eq_true rfl) ⟨Nat.zero_le _, Nat.zero_le _⟩ dX7_beginOne_169 (fun H locs hW => ?_)
                obtain ⟨u45, e46, h⟩ := lz_o h
                refine g_nml e46 ?_
                refine g_callVi (rest := []) K hW hl (kX7_isWord (l := l) (G := G) (ad := ad) hok u45 I J (fX7_isWord u45 I J) rfl) kLM_0 rfl (gG_V q_1237 q_1239 q_58 q_139 q_1240) nm_X7_isWord ⟨Nat.le_of_ble_eq_true rfl, Nat.le_of_ble_eq_true rfl⟩ rfl rfl (Nat.le_of_ble_eq_true rfl) ⟨Nat.zero_le _, Nat.zero_le _⟩ dX7_beginOne_172 (fun z47 H locs hW => ?_)
                refine lv_if_eq (tgt := 184) hx hb dX7_beginOne_175 (by decide) (fun c48 => ?_) (fun c48 => ?_)
                · replace h := gi_t h c48
                  refine lv_aload_n hx hb dX7_beginOne_184 rfl (lv_at hl 0 rfl) ?_
                  refine lv_bipush (v := (105 : Int32)) hx hb dX7_beginOne_185 (by decide) ?_
                  refine lv_bipush (v := (102 : Int32)) hx hb dX7_beginOne_187 (by decide) ?_
                  refine g_callSl (rest := [.ref (ad 0)]) K hW hl (kX7_w2 (l := l) (G := G) (ad := ad) hok (105 : Int32) (102 : Int32) I J (fX7_w2 (105 : Int32) (102 : Int32)) rfl) q_1234 q_1235 q_139 q_1236 nm_X7_w2 ⟨Nat.le_of_ble_eq_true rfl, Nat.le_of_ble_eq_true rfl⟩ rfl rfl (Nat.le_of_ble_eq_true rfl) ⟨Nat.zero_le _, Nat.zero_le _⟩ dX7_beginOne_189 (fun H locs hW => ?_)
                  refine g_callVi (rest := []) K hW hl (kX7_isWord (l := l) (G := G) (ad := ad) hok (fX7_w2 (105 : Int32) (102 : Int32)) I J (fX7_isWord (fX7_w2 (105 : Int32) (102 : Int32)) I J) rfl) kLM_0 rfl (gG_V q_1237 q_1239 q_58 q_139 q_1240) nm_X7_isWord ⟨Nat.le_of_ble_eq_true rfl, Nat.le_of_ble_eq_true rfl⟩ rfl rfl (Nat.le_of_ble_eq_true rfl) ⟨Nat.zero_le _, Nat.zero_le _⟩ dX7_beginOne_192 (fun z50 H locs hW => ?_)
                  refine lv_if_eq (tgt := 205) hx hb dX7_beginOne_195 (by decide) (fun c51 => ?_) (fun c51 => ?_)
                  · replace h := gi_t h c51
                    refine lv_aload_n hx hb dX7_beginOne_205 rfl (lv_at hl 0 rfl) ?_
                    refine lv_bipush (v := (110 : Int32)) hx hb dX7_beginOne_206 (by decide) ?_
                    refine lv_bipush (v := (111 : Int32)) hx hb dX7_beginOne_208 (by decide) ?_
                    refine lv_bipush (v := (116 : Int32)) hx hb dX7_beginOne_210 (by decide) ?_
                    refine g_callSl (rest := [.ref (ad 0)]) K hW hl (kX7_w3 (l := l) (G := G) (ad := ad) hok (110 : Int32) (111 : Int32) (116 : Int32) I J (fX7_w3 (110 : Int32) (111 : Int32) (116 : Int32)) rfl) q_1231 q_1232 q_139 q_1233 nm_X7_w3 ⟨Nat.le_of_ble_eq_true rfl, Nat.le_of_ble_eq_true rfl⟩ rfl rfl (Nat.le_of_ble_eq_true rfl) ⟨Nat.zero_le _, Nat.zero_le _⟩ dX7_beginOne_212 (fun H locs hW => ?_)
                    refine g_callVi (rest := []) K hW hl (kX7_isWord (l := l) (G := G) (ad := ad) hok (fX7_w3 (110 : Int32) (111 : Int32) (116 : Int32)) I J (fX7_isWord (fX7_w3 (110 : Int32) (111 : Int32) (116 : Int32)) I J) rfl) kLM_0 rfl (gG_V q_1237 q_1239 q_58 q_139 q_1240) nm_X7_isWord ⟨Nat.le_of_ble_eq_true rfl, Nat.le_of_ble_eq_true rfl⟩ rfl rfl (Nat.le_of_ble_eq_true rfl) ⟨Nat.zero_le _, Nat.zero_le _⟩ dX7_beginOne_215 (fun z53 H locs hW => ?_)
                    refine lv_if_eq (tgt := 237) hx hb dX7_beginOne_218 (by decide) (fun c54 => ?_) (fun c54 => ?_)
                    · replace h := gi_t h c54
                      refine lv_iconst (v := (1 : Int32)) hx hb dX7_beginOne_237 (by decide) ?_
                      obtain ⟨a1, a2, a3⟩ := so3 h
                      replace hW := gWd_nI a2 hW
                      replace hW := gWd_nJ a3 hW
                      exact g_nmi a1 (hfin _ _ _ _ hW dX7_beginOne_238)
                    · replace h := gi_f h c54
                      refine lv_aload_n hx hb dX7_beginOne_221 rfl (lv_at hl 0 rfl) ?_
                      obtain ⟨u55, e56, h⟩ := bd_o h hn
                      refine g_callVi (rest := []) K hW hl (kX7_isAskAhead (l := l) (G := G) (ad := ad) hok I J u55 e56) kLM_0 rfl (gG_V q_1326 q_1328 q_78 q_139 q_1329) nm_X7_isAskAhead ⟨Nat.le_of_ble_eq_true rfl, Nat.le_of_ble_eq_true rfl⟩ rfl rfl (Nat.le_of_ble_eq_true rfl) ⟨Nat.zero_le _, Nat.zero_le _⟩ dX7_beginOne_222 (fun z57 H locs hW => ?_)
                      refine lv_if_eq (tgt := 237) hx hb dX7_beginOne_225 (by decide) (fun c58 => ?_) (fun c58 => ?_)
                      · replace h := gi_t h c58
                        refine lv_iconst (v := (1 : Int32)) hx hb dX7_beginOne_237 (by decide) ?_
                        obtain ⟨a1, a2, a3⟩ := so3 h
                        replace hW := gWd_nI a2 hW
                        replace hW := gWd_nJ a3 hW
                        exact g_nmi a1 (hfin _ _ _ _ hW dX7_beginOne_238)
                      · replace h := gi_f h c58
                        refine lv_aload_n hx hb dX7_beginOne_228 rfl (lv_at hl 0 rfl) ?_
                        refine lv_bipush (v := (20 : Int32)) hx hb dX7_beginOne_229 (by decide) ?_
                        obtain ⟨⟨u59, I60, J61⟩, e62, h⟩ := bd_o h hn
                        replace h := pr_o h
                        replace h := pr_o h
                        refine g_callVi (rest := []) K hW hl (kX7_opened (l := l) (G := G) (ad := ad) hok (20 : Int32) I J u59 I60 J61 e62) kLM_0 rfl (gG_V q_1322 q_1324 q_77 q_139 q_1325) nm_X7_opened ⟨Nat.le_of_ble_eq_true rfl, Nat.le_of_ble_eq_true rfl⟩ rfl rfl (Nat.le_of_ble_eq_true rfl) ⟨Nat.zero_le _, Nat.zero_le _⟩ dX7_beginOne_231 (fun z63 H locs hW => ?_)
                        refine lv_goto (tgt := 238) hx hb dX7_beginOne_234 (by decide) ?_
                        obtain ⟨a1, a2, a3⟩ := so3 h
                        replace hW := gWd_nI a2 hW
                        replace hW := gWd_nJ a3 hW
                        exact g_nmi a1 (hfin _ _ _ _ hW dX7_beginOne_238)
                  · replace h := gi_f h c51
                    refine lv_aload_n hx hb dX7_beginOne_198 rfl (lv_at hl 0 rfl) ?_
                    refine lv_bipush (v := (41 : Int32)) hx hb dX7_beginOne_199 (by decide) ?_
                    obtain ⟨⟨u64, I65, J66⟩, e67, h⟩ := bd_o h hn
                    replace h := pr_o h
                    replace h := pr_o h
                    refine g_callVi (rest := []) K hW hl (kX7_opened (l := l) (G := G) (ad := ad) hok (41 : Int32) I J u64 I65 J66 e67) kLM_0 rfl (gG_V q_1322 q_1324 q_77 q_139 q_1325) nm_X7_opened ⟨Nat.le_of_ble_eq_true rfl, Nat.le_of_ble_eq_true rfl⟩ rfl rfl (Nat.le_of_ble_eq_true rfl) ⟨Nat.zero_le _, Nat.zero_le _⟩ dX7_beginOne_201 (fun z68 H locs hW => ?_)
                    obtain ⟨a1, a2, a3⟩ := so3 h
                    replace hW := gWd_nI a2 hW
                    replace hW := gWd_nJ a3 hW
                    exact g_nmi a1 (hfin _ _ _ _ hW dX7_beginOne_204)
                · replace h := gi_f h c48
                  refine lv_aload_n hx hb dX7_beginOne_178 rfl (lv_at hl 0 rfl) ?_
                  refine lv_iconst (v := (4 : Int32)) hx hb dX7_beginOne_179 (by decide) ?_
                  obtain ⟨⟨u69, I70, J71⟩, e72, h⟩ := bd_o h hn
                  replace h := pr_o h
                  replace h := pr_o h
                  refine g_callVi (rest := []) K hW hl (kX7_opened (l := l) (G := G) (ad := ad) hok (4 : Int32) I J u69 I70 J71 e72) kLM_0 rfl (gG_V q_1322 q_1324 q_77 q_139 q_1325) nm_X7_opened ⟨Nat.le_of_ble_eq_true rfl, Nat.le_of_ble_eq_true rfl⟩ rfl rfl (Nat.le_of_ble_eq_true rfl) ⟨Nat.zero_le _, Nat.zero_le _⟩ dX7_beginOne_180 (fun z73 H locs hW => ?_)
                  obtain ⟨a1, a2, a3⟩ := so3 h
                  replace hW := gWd_nI a2 hW
                  replace hW := gWd_nJ a3 hW
                  exact g_nmi a1 (hfin _ _ _ _ hW dX7_beginOne_183)
              · replace h := gi_f h c43
                refine lv_aload_n hx hb dX7_beginOne_152 rfl (lv_at hl 0 rfl) ?_
                refine lv_iconst (v := (2 : Int32)) hx hb dX7_beginOne_153 (by decide) ?_
                obtain ⟨⟨u74, I75, J76⟩, e77, h⟩ := bd_o h hn
                replace h := pr_o h
                replace h := pr_o h
                refine g_callVi (rest := []) K hW hl (kX7_opened (l := l) (G := G) (ad := ad) hok (2 : Int32) I J u74 I75 J76 e77) kLM_0 rfl (gG_V q_1322 q_1324 q_77 q_139 q_1325) nm_X7_opened ⟨Nat.le_of_ble_eq_true rfl, Nat.le_of_ble_eq_true rfl⟩ rfl rfl (Nat.le_of_ble_eq_true rfl) ⟨Nat.zero_le _, Nat.zero_le _⟩ dX7_beginOne_154 (fun z78 H locs hW => ?_)
                obtain ⟨a1, a2, a3⟩ := so3 h
                replace hW := gWd_nI a2 hW
                replace hW := gWd_nJ a3 hW
                exact g_nmi a1 (hfin _ _ _ _ hW dX7_beginOne_157)
            · replace h := gi_t h c38
              refine lv_aload_n hx hb dX7_beginOne_126 rfl (lv_at hl 0 rfl) ?_
              refine lv_iconst (v := (5 : Int32)) hx hb dX7_beginOne_127 (by decide) ?_
              obtain ⟨⟨u79, I80, J81⟩, e82, h⟩ := bd_o h hn
              replace h := pr_o h
              replace h := pr_o h
              refine g_callVi (rest := []) K hW hl (kX7_opened (l := l) (G := G) (ad := ad) hok (5 : Int32) I J u79 I80 J81 e82) kLM_0 rfl (gG_V q_1322 q_1324 q_77 q_139 q_1325) nm_X7_opened ⟨Nat.le_of_ble_eq_true rfl, Nat.le_of_ble_eq_true rfl⟩ rfl rfl (Nat.le_of_ble_eq_true rfl) ⟨Nat.zero_le _, Nat.zero_le _⟩ dX7_beginOne_128 (fun z83 H locs hW => ?_)
              obtain ⟨a1, a2, a3⟩ := so3 h
              replace hW := gWd_nI a2 hW
              replace hW := gWd_nJ a3 hW
              exact g_nmi a1 (hfin _ _ _ _ hW dX7_beginOne_131)
          · replace h := gi_t h c37
            refine lv_aload_n hx hb dX7_beginOne_110 rfl (lv_at hl 0 rfl) ?_
            refine lv_bipush (v := (40 : Int32)) hx hb dX7_beginOne_111 (by decide) ?_
            obtain ⟨⟨u84, I85, J86⟩, e87, h⟩ := bd_o h hn
            replace h := pr_o h
            replace h := pr_o h
            refine g_callVi (rest := []) K hW hl (kX7_opened (l := l) (G := G) (ad := ad) hok (40 : Int32) I J u84 I85 J86 e87) kLM_0 rfl (gG_V q_1322 q_1324 q_77 q_139 q_1325) nm_X7_opened ⟨Nat.le_of_ble_eq_true rfl, Nat.le_of_ble_eq_true rfl⟩ rfl rfl (Nat.le_of_ble_eq_true rfl) ⟨Nat.zero_le _, Nat.zero_le _⟩ dX7_beginOne_113 (fun z88 H locs hW => ?_)
            obtain ⟨a1, a2, a3⟩ := so3 h
            replace hW := gWd_nI a2 hW
            replace hW := gWd_nJ a3 hW
            exact g_nmi a1 (hfin _ _ _ _ hW dX7_beginOne_116)
        · replace h := gi_f h c36
          exact hj12 h _ _ hW _ (lv_sub hl [0, 1] rfl)
    refine lv_if_lt (tgt := 39) hx hb dX7_beginOne_26 (by decide) (fun c89 => ?_) (fun c89 => ?_)
    · replace h := gi_t h c89
      exact hj9 h _ _ hW _ (lv_sub hl [1, 0] rfl)
    · replace h := gi_f h c89
      refine lv_aload_n hx hb dX7_beginOne_29 rfl (lv_at hl 1 rfl) ?_
      refine lv_iload_n hx hb dX7_beginOne_30 rfl (lv_at hl 0 rfl) ?_
      refine g_callVi (rest := []) K hW hl (kX7_isOf (l := l) (G := G) (ad := ad) hok u5 I J (fX7_isOf u5 I) rfl) kLM_0 rfl (gG_V q_1318 q_1320 q_76 q_139 q_1321) nm_X7_isOf ⟨Nat.le_of_ble_eq_true rfl, Nat.le_of_ble_eq_true rfl⟩ rfl rfl (Nat.le_of_ble_eq_true rfl) ⟨Nat.zero_le _, Nat.zero_le _⟩ dX7_beginOne_31 (fun z90 H locs hW => ?_)
      refine lv_if_ne (tgt := 39) hx hb dX7_beginOne_34 (by decide) (fun c91 => ?_) (fun c91 => ?_)
      · replace h := gi_f h c91
        exact hj9 h _ _ hW _ (lv_sub hl [1, 0] rfl)
      · replace h := gi_t h c91
        refine lv_iconst (v := (5 : Int32)) hx hb dX7_beginOne_37 (by decide) ?_
        obtain ⟨a1, a2, a3⟩ := so3 h
        replace hW := gWd_nI a2 hW
        replace hW := gWd_nJ a3 hW
        exact g_nmi a1 (hfin _ _ _ _ hW dX7_beginOne_38)
  refine lv_icmp_ne (tgt := 20) hx hb dX7_beginOne_5 (by decide) (fun c92 => ?_) (fun c92 => ?_)
  · replace h := gi_f h c92
    exact hj3 h _ _ hW _ (lv_sub hl [0] rfl)
  · replace h := gi_t h c92
    refine lv_aload_n hx hb dX7_beginOne_8 rfl (lv_at hl 0 rfl) ?_
    refine g_get K hW (t := 0) (ci := 6) (k := 10) (v := .int (I 0 10)) kLM_0 rfl rfl i_X7 (by decide) q_1087 rfl rfl dX7_beginOne_9 ?_
    refine lv_sipush (v := (9999 : Int32)) hx hb dX7_beginOne_12 (by decide) ?_
    refine lv_icmp_le (tgt := 20) hx hb dX7_beginOne_15 (by decide) (fun c93 => ?_) (fun c93 => ?_)
    · replace h := gi_t h c93
      exact hj3 h _ _ hW _ (lv_sub hl [0] rfl)
    · replace h := gi_f h c93
      refine lv_iconst (v := (2 : Int32)) hx hb dX7_beginOne_18 (by decide) ?_
      obtain ⟨a1, a2, a3⟩ := so3 h
      replace hW := gWd_nI a2 hW
      replace hW := gWd_nJ a3 hW
      exact g_nmi a1 (hfin _ _ _ _ hW dX7_beginOne_19)
noncomputable def fX7_compareOf   (I : gI) : Int32 :=
  gi ((I 0 9) = (60 : Int32))
 ((10 : Int32))
 (gi ((I 0 9) = (4 : Int32))
 ((11 : Int32))
 (gi ((I 0 9) = (62 : Int32))
 ((12 : Int32))
 (gi ((I 0 9) = (5 : Int32))
 ((13 : Int32))
 (gi ((I 0 9) = (61 : Int32))
 ((14 : Int32))
 (gi ((I 0 9) = (35 : Int32))
 ((15 : Int32))
 ((-1 : Int32)))))))
set_option maxHeartbeats 4000000 in
set_option maxRecDepth 100000 in
theorem kX7_compareOf {l : Launch} {G : gG} {ad : Nat → Nat} (hok : gInj LM ad)     (I : gI) (J : gJ) (r : Int32) (h : fX7_compareOf I = r) : gMi l yX7_compareOf cX7_compareOf 1 (some .int) 1 G LM ad [.ref (ad 0)] I J r True I J := by
  refine gMi_of (lst := [(0, .ref (ad 0))]) (by decide) hok (Nat.le_of_ble_eq_true rfl) rfl ?_
  intro p e s m args below meth c Q ls K hW hl hfin
  have hx := K.1; have hb := K.2.1; have hown := K.2.2.2.1; have hts := K.2.2.2.2.1
  unfold fX7_compareOf at h
  refine lv_aload_n hx hb dX7_compareOf_0 rfl (lv_at hl 0 rfl) ?_
  refine g_get K hW (t := 0) (ci := 6) (k := 9) (v := .int (I 0 9)) kLM_0 rfl rfl i_X7 (by decide) q_1086 rfl rfl dX7_compareOf_1 ?_
  refine lv_bipush (v := (60 : Int32)) hx hb dX7_compareOf_4 (by decide) ?_
  refine lv_icmp_ne (tgt := 14) hx hb dX7_compareOf_6 (by decide) (fun c1 => ?_) (fun c1 => ?_)
  · replace h := gi_f h c1
    refine lv_aload_n hx hb dX7_compareOf_14 rfl (lv_at hl 0 rfl) ?_
    refine g_get K hW (t := 0) (ci := 6) (k := 9) (v := .int (I 0 9)) kLM_0 rfl rfl i_X7 (by decide) q_1086 rfl rfl dX7_compareOf_15 ?_
    refine lv_iconst (v := (4 : Int32)) hx hb dX7_compareOf_18 (by decide) ?_
    refine lv_icmp_ne (tgt := 27) hx hb dX7_compareOf_19 (by decide) (fun c2 => ?_) (fun c2 => ?_)
    · replace h := gi_f h c2
      refine lv_aload_n hx hb dX7_compareOf_27 rfl (lv_at hl 0 rfl) ?_
      refine g_get K hW (t := 0) (ci := 6) (k := 9) (v := .int (I 0 9)) kLM_0 rfl rfl i_X7 (by decide) q_1086 rfl rfl dX7_compareOf_28 ?_
      refine lv_bipush (v := (62 : Int32)) hx hb dX7_compareOf_31 (by decide) ?_
      refine lv_icmp_ne (tgt := 41) hx hb dX7_compareOf_33 (by decide) (fun c3 => ?_) (fun c3 => ?_)
      · replace h := gi_f h c3
        refine lv_aload_n hx hb dX7_compareOf_41 rfl (lv_at hl 0 rfl) ?_
        refine g_get K hW (t := 0) (ci := 6) (k := 9) (v := .int (I 0 9)) kLM_0 rfl rfl i_X7 (by decide) q_1086 rfl rfl dX7_compareOf_42 ?_
        refine lv_iconst (v := (5 : Int32)) hx hb dX7_compareOf_45 (by decide) ?_
        refine lv_icmp_ne (tgt := 54) hx hb dX7_compareOf_46 (by decide) (fun c4 => ?_) (fun c4 => ?_)
        · replace h := gi_f h c4
          refine lv_aload_n hx hb dX7_compareOf_54 rfl (lv_at hl 0 rfl) ?_
          refine g_get K hW (t := 0) (ci := 6) (k := 9) (v := .int (I 0 9)) kLM_0 rfl rfl i_X7 (by decide) q_1086 rfl rfl dX7_compareOf_55 ?_
          refine lv_bipush (v := (61 : Int32)) hx hb dX7_compareOf_58 (by decide) ?_
          refine lv_icmp_ne (tgt := 68) hx hb dX7_compareOf_60 (by decide) (fun c5 => ?_) (fun c5 => ?_)
          · replace h := gi_f h c5
            refine lv_aload_n hx hb dX7_compareOf_68 rfl (lv_at hl 0 rfl) ?_
            refine g_get K hW (t := 0) (ci := 6) (k := 9) (v := .int (I 0 9)) kLM_0 rfl rfl i_X7 (by decide) q_1086 rfl rfl dX7_compareOf_69 ?_
            refine lv_bipush (v := (35 : Int32)) hx hb dX7_compareOf_72 (by decide) ?_
            refine lv_icmp_ne (tgt := 82) hx hb dX7_compareOf_74 (by decide) (fun c6 => ?_) (fun c6 => ?_)
            · replace h := gi_f h c6
              refine lv_iconst (v := (-1 : Int32)) hx hb dX7_compareOf_82 (by decide) ?_
              obtain a1 := h.symm
              exact g_nmi a1 (hfin _ _ _ _ hW dX7_compareOf_83)
            · replace h := gi_t h c6
              refine lv_bipush (v := (15 : Int32)) hx hb dX7_compareOf_77 (by decide) ?_
              refine lv_goto (tgt := 83) hx hb dX7_compareOf_79 (by decide) ?_
              obtain a1 := h.symm
              exact g_nmi a1 (hfin _ _ _ _ hW dX7_compareOf_83)
          · replace h := gi_t h c5
            refine lv_bipush (v := (14 : Int32)) hx hb dX7_compareOf_63 (by decide) ?_
            refine lv_goto (tgt := 83) hx hb dX7_compareOf_65 (by decide) ?_
            obtain a1 := h.symm
            exact g_nmi a1 (hfin _ _ _ _ hW dX7_compareOf_83)
        · replace h := gi_t h c4
          refine lv_bipush (v := (13 : Int32)) hx hb dX7_compareOf_49 (by decide) ?_
          refine lv_goto (tgt := 83) hx hb dX7_compareOf_51 (by decide) ?_
          obtain a1 := h.symm
          exact g_nmi a1 (hfin _ _ _ _ hW dX7_compareOf_83)
      · replace h := gi_t h c3
        refine lv_bipush (v := (12 : Int32)) hx hb dX7_compareOf_36 (by decide) ?_
        refine lv_goto (tgt := 83) hx hb dX7_compareOf_38 (by decide) ?_
        obtain a1 := h.symm
        exact g_nmi a1 (hfin _ _ _ _ hW dX7_compareOf_83)
    · replace h := gi_t h c2
      refine lv_bipush (v := (11 : Int32)) hx hb dX7_compareOf_22 (by decide) ?_
      refine lv_goto (tgt := 83) hx hb dX7_compareOf_24 (by decide) ?_
      obtain a1 := h.symm
      exact g_nmi a1 (hfin _ _ _ _ hW dX7_compareOf_83)
  · replace h := gi_t h c1
    refine lv_bipush (v := (10 : Int32)) hx hb dX7_compareOf_9 (by decide) ?_
    refine lv_goto (tgt := 83) hx hb dX7_compareOf_11 (by decide) ?_
    obtain a1 := h.symm
    exact g_nmi a1 (hfin _ _ _ _ hW dX7_compareOf_83)
theorem nm_X7_isCompared : gNm yX7_isCompared 0 := by decide +kernel
theorem nm_X7_compareOf : gNm yX7_compareOf 0 := by decide +kernel
noncomputable def fX7_betweenOf   (I : gI) (J : gJ) : Option (Int32) :=
  gi ((I 0 9) = (43 : Int32))
 (some (6 : Int32))
 (gi ((I 0 9) = (45 : Int32))
 (some (7 : Int32))
 (gi ((I 0 9) = (42 : Int32))
 (some (8 : Int32))
 (gi ((I 0 9) = (47 : Int32))
 (some (9 : Int32))
 (bd (fX7_openNow I) (fun (u5 : Int32) => gi (u5 = (41 : Int32))
 (bd (fX7_isCompared I) (fun (u9 : Int32) => gi (u9 = 0)
 (some (fX7_compareOf I))
 (gi ((fX7_isWord (fX7_w3 (97 : Int32) (110 : Int32) (100 : Int32)) I J) = 0)
 (gi ((fX7_isWord (fX7_w2 (111 : Int32) (114 : Int32)) I J) = 0)
 (some (-1 : Int32))
 (some (22 : Int32)))
 (some (21 : Int32)))))
 (some (-1 : Int32)))))))
set_option maxHeartbeats 4000000 in
set_option maxRecDepth 100000 in
theorem kX7_betweenOf {l : Launch} {G : gG} {ad : Nat → Nat} (hok : gInj LM ad)     (I : gI) (J : gJ) (r : Int32) (h : fX7_betweenOf I J = some r) : gMi l yX7_betweenOf cX7_betweenOf 1 (some .int) 3 G LM ad [.ref (ad 0)] I J r True I J := by
  refine gMi_of (lst := [(0, .ref (ad 0))]) (by decide) hok (Nat.le_of_ble_eq_true rfl) rfl ?_
  intro p e s m args below meth c Q ls K hW hl hfin
  have hn : (some r : Option (Int32)) ≠ none := Option.some_ne_none _
  have hx := K.1; have hb := K.2.1; have hown := K.2.2.2.1; have hts := K.2.2.2.2.1
  unfold fX7_betweenOf at h
  refine lv_aload_n hx hb dX7_betweenOf_0 rfl (lv_at hl 0 rfl) ?_
  refine g_get K hW (t := 0) (ci := 6) (k := 9) (v := .int (I 0 9)) kLM_0 rfl rfl i_X7 (by decide) q_1086 rfl rfl dX7_betweenOf_1 ?_
  refine lv_bipush (v := (43 : Int32)) hx hb dX7_betweenOf_4 (by decide) ?_
  refine lv_icmp_ne (tgt := 12) hx hb dX7_betweenOf_6 (by decide) (fun c1 => ?_) (fun c1 => ?_)
  · replace h := gi_f h c1
    refine lv_aload_n hx hb dX7_betweenOf_12 rfl (lv_at hl 0 rfl) ?_
    refine g_get K hW (t := 0) (ci := 6) (k := 9) (v := .int (I 0 9)) kLM_0 rfl rfl i_X7 (by decide) q_1086 rfl rfl dX7_betweenOf_13 ?_
    refine lv_bipush (v := (45 : Int32)) hx hb dX7_betweenOf_16 (by decide) ?_
    refine lv_icmp_ne (tgt := 24) hx hb dX7_betweenOf_18 (by decide) (fun c2 => ?_) (fun c2 => ?_)
    · replace h := gi_f h c2
      refine lv_aload_n hx hb dX7_betweenOf_24 rfl (lv_at hl 0 rfl) ?_
      refine g_get K hW (t := 0) (ci := 6) (k := 9) (v := .int (I 0 9)) kLM_0 rfl rfl i_X7 (by decide) q_1086 rfl rfl dX7_betweenOf_25 ?_
      refine lv_bipush (v := (42 : Int32)) hx hb dX7_betweenOf_28 (by decide) ?_
      refine lv_icmp_ne (tgt := 36) hx hb dX7_betweenOf_30 (by decide) (fun c3 => ?_) (fun c3 => ?_)
      · replace h := gi_f h c3
        refine lv_aload_n hx hb dX7_betweenOf_36 rfl (lv_at hl 0 rfl) ?_
        refine g_get K hW (t := 0) (ci := 6) (k := 9) (v := .int (I 0 9)) kLM_0 rfl rfl i_X7 (by decide) q_1086 rfl rfl dX7_betweenOf_37 ?_
        refine lv_bipush (v := (47 : Int32)) hx hb dX7_betweenOf_40 (by decide) ?_
        refine lv_icmp_ne (tgt := 48) hx hb dX7_betweenOf_42 (by decide) (fun c4 => ?_) (fun c4 => ?_)
        · replace h := gi_f h c4
          refine lv_aload_n hx hb dX7_betweenOf_48 rfl (lv_at hl 0 rfl) ?_
          obtain ⟨u5, e6, h⟩ := bd_o h hn
          refine g_callVi (rest := []) K hW hl (kX7_openNow (l := l) (G := G) (ad := ad) hok I J u5 e6) kLM_0 rfl (gG_V q_1279 q_1281 q_67 q_139 q_1282) nm_X7_openNow ⟨Nat.le_of_ble_eq_true rfl, Nat.le_of_ble_eq_true rfl⟩ rfl rfl (Nat.le_of_ble_eq_true rfl) ⟨Nat.zero_le _, Nat.zero_le _⟩ dX7_betweenOf_49 (fun z7 H locs hW => ?_)
          refine lv_bipush (v := (41 : Int32)) hx hb dX7_betweenOf_52 (by decide) ?_
          refine lv_icmp_eq (tgt := 59) hx hb dX7_betweenOf_54 (by decide) (fun c8 => ?_) (fun c8 => ?_)
          · replace h := gi_t h c8
            refine lv_aload_n hx hb dX7_betweenOf_59 rfl (lv_at hl 0 rfl) ?_
            obtain ⟨u9, e10, h⟩ := bd_o h hn
            refine g_callVi (rest := []) K hW hl (kX7_isCompared (l := l) (G := G) (ad := ad) hok I J u9 e10) kLM_0 rfl (gG_V q_1287 q_1289 q_69 q_139 q_1290) nm_X7_isCompared ⟨Nat.le_of_ble_eq_true rfl, Nat.le_of_ble_eq_true rfl⟩ rfl rfl (Nat.le_of_ble_eq_true rfl) ⟨Nat.zero_le _, Nat.zero_le _⟩ dX7_betweenOf_60 (fun z11 H locs hW => ?_)
            refine lv_if_ne (tgt := 71) hx hb dX7_betweenOf_63 (by decide) (fun c12 => ?_) (fun c12 => ?_)
            · replace h := gi_f h c12
              refine lv_aload_n hx hb dX7_betweenOf_71 rfl (lv_at hl 0 rfl) ?_
              refine lv_bipush (v := (97 : Int32)) hx hb dX7_betweenOf_72 (by decide) ?_
              refine lv_bipush (v := (110 : Int32)) hx hb dX7_betweenOf_74 (by decide) ?_
              refine lv_bipush (v := (100 : Int32)) hx hb dX7_betweenOf_76 (by decide) ?_
              refine g_callSl (rest := [.ref (ad 0)]) K hW hl (kX7_w3 (l := l) (G := G) (ad := ad) hok (97 : Int32) (110 : Int32) (100 : Int32) I J (fX7_w3 (97 : Int32) (110 : Int32) (100 : Int32)) rfl) q_1231 q_1232 q_139 q_1233 nm_X7_w3 ⟨Nat.le_of_ble_eq_true rfl, Nat.le_of_ble_eq_true rfl⟩ rfl rfl (Nat.le_of_ble_eq_true rfl) ⟨Nat.zero_le _, Nat.zero_le _⟩ dX7_betweenOf_78 (fun H locs hW => ?_)
              refine g_callVi (rest := []) K hW hl (kX7_isWord (l := l) (G := G) (ad := ad) hok (fX7_w3 (97 : Int32) (110 : Int32) (100 : Int32)) I J (fX7_isWord (fX7_w3 (97 : Int32) (110 : Int32) (100 : Int32)) I J) rfl) kLM_0 rfl (gG_V q_1237 q_1239 q_58 q_139 q_1240) nm_X7_isWord ⟨Nat.le_of_ble_eq_true rfl, Nat.le_of_ble_eq_true rfl⟩ rfl rfl (Nat.le_of_ble_eq_true rfl) ⟨Nat.zero_le _, Nat.zero_le _⟩ dX7_betweenOf_81 (fun z14 H locs hW => ?_)
              refine lv_if_eq (tgt := 92) hx hb dX7_betweenOf_84 (by decide) (fun c15 => ?_) (fun c15 => ?_)
              · replace h := gi_t h c15
                refine lv_aload_n hx hb dX7_betweenOf_92 rfl (lv_at hl 0 rfl) ?_
                refine lv_bipush (v := (111 : Int32)) hx hb dX7_betweenOf_93 (by decide) ?_
                refine lv_bipush (v := (114 : Int32)) hx hb dX7_betweenOf_95 (by decide) ?_
                refine g_callSl (rest := [.ref (ad 0)]) K hW hl (kX7_w2 (l := l) (G := G) (ad := ad) hok (111 : Int32) (114 : Int32) I J (fX7_w2 (111 : Int32) (114 : Int32)) rfl) q_1234 q_1235 q_139 q_1236 nm_X7_w2 ⟨Nat.le_of_ble_eq_true rfl, Nat.le_of_ble_eq_true rfl⟩ rfl rfl (Nat.le_of_ble_eq_true rfl) ⟨Nat.zero_le _, Nat.zero_le _⟩ dX7_betweenOf_97 (fun H locs hW => ?_)
                refine g_callVi (rest := []) K hW hl (kX7_isWord (l := l) (G := G) (ad := ad) hok (fX7_w2 (111 : Int32) (114 : Int32)) I J (fX7_isWord (fX7_w2 (111 : Int32) (114 : Int32)) I J) rfl) kLM_0 rfl (gG_V q_1237 q_1239 q_58 q_139 q_1240) nm_X7_isWord ⟨Nat.le_of_ble_eq_true rfl, Nat.le_of_ble_eq_true rfl⟩ rfl rfl (Nat.le_of_ble_eq_true rfl) ⟨Nat.zero_le _, Nat.zero_le _⟩ dX7_betweenOf_100 (fun z17 H locs hW => ?_)
                refine lv_if_eq (tgt := 111) hx hb dX7_betweenOf_103 (by decide) (fun c18 => ?_) (fun c18 => ?_)
                · replace h := gi_t h c18
                  refine lv_iconst (v := (-1 : Int32)) hx hb dX7_betweenOf_111 (by decide) ?_
                  obtain a1 := so1 h
                  exact g_nmi a1 (hfin _ _ _ _ hW dX7_betweenOf_112)
                · replace h := gi_f h c18
                  refine lv_bipush (v := (22 : Int32)) hx hb dX7_betweenOf_106 (by decide) ?_
                  refine lv_goto (tgt := 112) hx hb dX7_betweenOf_108 (by decide) ?_
                  obtain a1 := so1 h
                  exact g_nmi a1 (hfin _ _ _ _ hW dX7_betweenOf_112)
              · replace h := gi_f h c15
                refine lv_bipush (v := (21 : Int32)) hx hb dX7_betweenOf_87 (by decide) ?_
                refine lv_goto (tgt := 112) hx hb dX7_betweenOf_89 (by decide) ?_
                obtain a1 := so1 h
                exact g_nmi a1 (hfin _ _ _ _ hW dX7_betweenOf_112)
            · replace h := gi_t h c12
              refine lv_aload_n hx hb dX7_betweenOf_66 rfl (lv_at hl 0 rfl) ?_
              refine g_callVi (rest := []) K hW hl (kX7_compareOf (l := l) (G := G) (ad := ad) hok I J (fX7_compareOf I) rfl) kLM_0 rfl (gG_V q_1294 q_1296 q_70 q_139 q_1297) nm_X7_compareOf ⟨Nat.le_of_ble_eq_true rfl, Nat.le_of_ble_eq_true rfl⟩ rfl rfl (Nat.le_of_ble_eq_true rfl) ⟨Nat.zero_le _, Nat.zero_le _⟩ dX7_betweenOf_67 (fun z19 H locs hW => ?_)
              obtain a1 := so1 h
              exact g_nmi a1 (hfin _ _ _ _ hW dX7_betweenOf_70)
          · replace h := gi_f h c8
            refine lv_iconst (v := (-1 : Int32)) hx hb dX7_betweenOf_57 (by decide) ?_
            obtain a1 := so1 h
            exact g_nmi a1 (hfin _ _ _ _ hW dX7_betweenOf_58)
        · replace h := gi_t h c4
          refine lv_bipush (v := (9 : Int32)) hx hb dX7_betweenOf_45 (by decide) ?_
          obtain a1 := so1 h
          exact g_nmi a1 (hfin _ _ _ _ hW dX7_betweenOf_47)
      · replace h := gi_t h c3
        refine lv_bipush (v := (8 : Int32)) hx hb dX7_betweenOf_33 (by decide) ?_
        obtain a1 := so1 h
        exact g_nmi a1 (hfin _ _ _ _ hW dX7_betweenOf_35)
    · replace h := gi_t h c2
      refine lv_bipush (v := (7 : Int32)) hx hb dX7_betweenOf_21 (by decide) ?_
      obtain a1 := so1 h
      exact g_nmi a1 (hfin _ _ _ _ hW dX7_betweenOf_23)
  · replace h := gi_t h c1
    refine lv_bipush (v := (6 : Int32)) hx hb dX7_betweenOf_9 (by decide) ?_
    obtain a1 := so1 h
    exact g_nmi a1 (hfin _ _ _ _ hW dX7_betweenOf_11)
noncomputable def fX7_partOf  (x1 : Int32) (I : gI) (J : gJ) : Option (Int32) :=
  gi (x1 = (40 : Int32))
 (gi ((I 0 9) = (41 : Int32))
 (some (0 : Int32))
 (some (-1 : Int32)))
 (gi (x1 = (41 : Int32))
 (lz ((fX7_isWord (fX7_w4 (116 : Int32) (104 : Int32) (101 : Int32) (110 : Int32)) I J)) (fun (u6 : Int32) => gi (u6 = 0)
 (some (-1 : Int32))
 (bd (fX7_isCompared I) (fun (u9 : Int32) => gi (u9 = 0)
 (some (-1 : Int32))
 (some (42 : Int32))))))
 (gi (x1 = (42 : Int32))
 (lz ((fX7_isWord (fX7_w4 (101 : Int32) (108 : Int32) (115 : Int32) (101 : Int32)) I J)) (fun (u16 : Int32) => gi (u16 = 0)
 (some (-1 : Int32))
 (some (43 : Int32))))
 (gi (x1 = (43 : Int32))
 (gi ((fX7_isWord (fX7_w3 (101 : Int32) (110 : Int32) (100 : Int32)) I J) = 0)
 (some (-1 : Int32))
 (some (0 : Int32)))
 (some (-1 : Int32)))))
set_option maxHeartbeats 4000000 in
set_option maxRecDepth 100000 in
theorem kX7_partOf {l : Launch} {G : gG} {ad : Nat → Nat} (hok : gInj LM ad)    (x1 : Int32) (I : gI) (J : gJ) (r : Int32) (h : fX7_partOf x1 I J = some r) : gMi l yX7_partOf cX7_partOf 2 (some .int) 4 G LM ad [.ref (ad 0), .int x1] I J r True I J := by
  refine gMi_of (lst := [(0, .ref (ad 0)), (1, .int x1)]) (by decide) hok (Nat.le_of_ble_eq_true rfl) rfl ?_
  intro p e s m args below meth c Q ls K hW hl hfin
  have hn : (some r : Option (Int32)) ≠ none := Option.some_ne_none _
  have hx := K.1; have hb := K.2.1; have hown := K.2.2.2.1; have hts := K.2.2.2.2.1
  unfold fX7_partOf at h
  refine lv_iload_n hx hb dX7_partOf_0 rfl (lv_at hl 1 rfl) ?_
  rcases Classical.em (x1 = (40 : Int32)) with c1 | c1
  · replace h := gi_t h c1
    refine g_tabIn (k := (40 : Int32)) (tgt := 32) (off := 31) hx hb c1 dX7_partOf_1 (by decide) (by decide) (by decide) (by decide) ?_
    refine lv_aload_n hx hb dX7_partOf_32 rfl (lv_at hl 0 rfl) ?_
    refine g_get K hW (t := 0) (ci := 6) (k := 9) (v := .int (I 0 9)) kLM_0 rfl rfl i_X7 (by decide) q_1086 rfl rfl dX7_partOf_33 ?_
    refine lv_bipush (v := (41 : Int32)) hx hb dX7_partOf_36 (by decide) ?_
    refine lv_icmp_ne (tgt := 45) hx hb dX7_partOf_38 (by decide) (fun c2 => ?_) (fun c2 => ?_)
    · replace h := gi_f h c2
      refine lv_iconst (v := (-1 : Int32)) hx hb dX7_partOf_45 (by decide) ?_
      obtain a1 := so1 h
      exact g_nmi a1 (hfin _ _ _ _ hW dX7_partOf_46)
    · replace h := gi_t h c2
      refine lv_iconst (v := (0 : Int32)) hx hb dX7_partOf_41 (by decide) ?_
      refine lv_goto (tgt := 46) hx hb dX7_partOf_42 (by decide) ?_
      obtain a1 := so1 h
      exact g_nmi a1 (hfin _ _ _ _ hW dX7_partOf_46)
  · replace h := gi_f h c1
    rcases Classical.em (x1 = (41 : Int32)) with c3 | c3
    · replace h := gi_t h c3
      refine g_tabIn (k := (41 : Int32)) (tgt := 47) (off := 46) hx hb c3 dX7_partOf_1 (by decide) (by decide) (by decide) (by decide) ?_
      refine lv_aload_n hx hb dX7_partOf_47 rfl (lv_at hl 0 rfl) ?_
      refine lv_bipush (v := (116 : Int32)) hx hb dX7_partOf_48 (by decide) ?_
      refine lv_bipush (v := (104 : Int32)) hx hb dX7_partOf_50 (by decide) ?_
      refine lv_bipush (v := (101 : Int32)) hx hb dX7_partOf_52 (by decide) ?_
      refine lv_bipush (v := (110 : Int32)) hx hb dX7_partOf_54 (by decide) ?_
      refine g_callSl (rest := [.ref (ad 0)]) K hW hl (kX7_w4 (l := l) (G := G) (ad := ad) hok (116 : Int32) (104 : Int32) (101 : Int32) (110 : Int32) I J (fX7_w4 (116 : Int32) (104 : Int32) (101 : Int32) (110 : Int32)) rfl) q_1228 q_1229 q_139 q_1230 nm_X7_w4 ⟨Nat.le_of_ble_eq_true rfl, Nat.le_of_ble_eq_true rfl⟩ rfl rfl (Nat.le_of_ble_eq_true rfl) ⟨Nat.zero_le _, Nat.zero_le _⟩ dX7_partOf_56 (fun H locs hW => ?_)
      refine g_callVi (rest := []) K hW hl (kX7_isWord (l := l) (G := G) (ad := ad) hok (fX7_w4 (116 : Int32) (104 : Int32) (101 : Int32) (110 : Int32)) I J (fX7_isWord (fX7_w4 (116 : Int32) (104 : Int32) (101 : Int32) (110 : Int32)) I J) rfl) kLM_0 rfl (gG_V q_1237 q_1239 q_58 q_139 q_1240) nm_X7_isWord ⟨Nat.le_of_ble_eq_true rfl, Nat.le_of_ble_eq_true rfl⟩ rfl rfl (Nat.le_of_ble_eq_true rfl) ⟨Nat.zero_le _, Nat.zero_le _⟩ dX7_partOf_59 (fun z5 H locs hW => ?_)
      obtain ⟨u6, e7, h⟩ := lz_o h
      refine g_nmi e7 ?_
      refine lv_if_eq (tgt := 77) hx hb dX7_partOf_62 (by decide) (fun c8 => ?_) (fun c8 => ?_)
      · replace h := gi_t h c8
        refine lv_iconst (v := (-1 : Int32)) hx hb dX7_partOf_77 (by decide) ?_
        obtain a1 := so1 h
        exact g_nmi a1 (hfin _ _ _ _ hW dX7_partOf_78)
      · replace h := gi_f h c8
        refine lv_aload_n hx hb dX7_partOf_65 rfl (lv_at hl 0 rfl) ?_
        obtain ⟨u9, e10, h⟩ := bd_o h hn
        refine g_callVi (rest := []) K hW hl (kX7_isCompared (l := l) (G := G) (ad := ad) hok I J u9 e10) kLM_0 rfl (gG_V q_1287 q_1289 q_69 q_139 q_1290) nm_X7_isCompared ⟨Nat.le_of_ble_eq_true rfl, Nat.le_of_ble_eq_true rfl⟩ rfl rfl (Nat.le_of_ble_eq_true rfl) ⟨Nat.zero_le _, Nat.zero_le _⟩ dX7_partOf_66 (fun z11 H locs hW => ?_)
        refine lv_if_eq (tgt := 77) hx hb dX7_partOf_69 (by decide) (fun c12 => ?_) (fun c12 => ?_)
        · replace h := gi_t h c12
          refine lv_iconst (v := (-1 : Int32)) hx hb dX7_partOf_77 (by decide) ?_
          obtain a1 := so1 h
          exact g_nmi a1 (hfin _ _ _ _ hW dX7_partOf_78)
        · replace h := gi_f h c12
          refine lv_bipush (v := (42 : Int32)) hx hb dX7_partOf_72 (by decide) ?_
          refine lv_goto (tgt := 78) hx hb dX7_partOf_74 (by decide) ?_
          obtain a1 := so1 h
          exact g_nmi a1 (hfin _ _ _ _ hW dX7_partOf_78)
    · replace h := gi_f h c3
      rcases Classical.em (x1 = (42 : Int32)) with c13 | c13
      · replace h := gi_t h c13
        refine g_tabIn (k := (42 : Int32)) (tgt := 79) (off := 78) hx hb c13 dX7_partOf_1 (by decide) (by decide) (by decide) (by decide) ?_
        refine lv_aload_n hx hb dX7_partOf_79 rfl (lv_at hl 0 rfl) ?_
        refine lv_bipush (v := (101 : Int32)) hx hb dX7_partOf_80 (by decide) ?_
        refine lv_bipush (v := (108 : Int32)) hx hb dX7_partOf_82 (by decide) ?_
        refine lv_bipush (v := (115 : Int32)) hx hb dX7_partOf_84 (by decide) ?_
        refine lv_bipush (v := (101 : Int32)) hx hb dX7_partOf_86 (by decide) ?_
        refine g_callSl (rest := [.ref (ad 0)]) K hW hl (kX7_w4 (l := l) (G := G) (ad := ad) hok (101 : Int32) (108 : Int32) (115 : Int32) (101 : Int32) I J (fX7_w4 (101 : Int32) (108 : Int32) (115 : Int32) (101 : Int32)) rfl) q_1228 q_1229 q_139 q_1230 nm_X7_w4 ⟨Nat.le_of_ble_eq_true rfl, Nat.le_of_ble_eq_true rfl⟩ rfl rfl (Nat.le_of_ble_eq_true rfl) ⟨Nat.zero_le _, Nat.zero_le _⟩ dX7_partOf_88 (fun H locs hW => ?_)
        refine g_callVi (rest := []) K hW hl (kX7_isWord (l := l) (G := G) (ad := ad) hok (fX7_w4 (101 : Int32) (108 : Int32) (115 : Int32) (101 : Int32)) I J (fX7_isWord (fX7_w4 (101 : Int32) (108 : Int32) (115 : Int32) (101 : Int32)) I J) rfl) kLM_0 rfl (gG_V q_1237 q_1239 q_58 q_139 q_1240) nm_X7_isWord ⟨Nat.le_of_ble_eq_true rfl, Nat.le_of_ble_eq_true rfl⟩ rfl rfl (Nat.le_of_ble_eq_true rfl) ⟨Nat.zero_le _, Nat.zero_le _⟩ dX7_partOf_91 (fun z15 H locs hW => ?_)
        obtain ⟨u16, e17, h⟩ := lz_o h
        refine g_nmi e17 ?_
        refine lv_if_eq (tgt := 102) hx hb dX7_partOf_94 (by decide) (fun c18 => ?_) (fun c18 => ?_)
        · replace h := gi_t h c18
          refine lv_iconst (v := (-1 : Int32)) hx hb dX7_partOf_102 (by decide) ?_
          obtain a1 := so1 h
          exact g_nmi a1 (hfin _ _ _ _ hW dX7_partOf_103)
        · replace h := gi_f h c18
          refine lv_bipush (v := (43 : Int32)) hx hb dX7_partOf_97 (by decide) ?_
          refine lv_goto (tgt := 103) hx hb dX7_partOf_99 (by decide) ?_
          obtain a1 := so1 h
          exact g_nmi a1 (hfin _ _ _ _ hW dX7_partOf_103)
      · replace h := gi_f h c13
        rcases Classical.em (x1 = (43 : Int32)) with c19 | c19
        · replace h := gi_t h c19
          refine g_tabIn (k := (43 : Int32)) (tgt := 104) (off := 103) hx hb c19 dX7_partOf_1 (by decide) (by decide) (by decide) (by decide) ?_
          refine lv_aload_n hx hb dX7_partOf_104 rfl (lv_at hl 0 rfl) ?_
          refine lv_bipush (v := (101 : Int32)) hx hb dX7_partOf_105 (by decide) ?_
          refine lv_bipush (v := (110 : Int32)) hx hb dX7_partOf_107 (by decide) ?_
          refine lv_bipush (v := (100 : Int32)) hx hb dX7_partOf_109 (by decide) ?_
          refine g_callSl (rest := [.ref (ad 0)]) K hW hl (kX7_w3 (l := l) (G := G) (ad := ad) hok (101 : Int32) (110 : Int32) (100 : Int32) I J (fX7_w3 (101 : Int32) (110 : Int32) (100 : Int32)) rfl) q_1231 q_1232 q_139 q_1233 nm_X7_w3 ⟨Nat.le_of_ble_eq_true rfl, Nat.le_of_ble_eq_true rfl⟩ rfl rfl (Nat.le_of_ble_eq_true rfl) ⟨Nat.zero_le _, Nat.zero_le _⟩ dX7_partOf_111 (fun H locs hW => ?_)
          refine g_callVi (rest := []) K hW hl (kX7_isWord (l := l) (G := G) (ad := ad) hok (fX7_w3 (101 : Int32) (110 : Int32) (100 : Int32)) I J (fX7_isWord (fX7_w3 (101 : Int32) (110 : Int32) (100 : Int32)) I J) rfl) kLM_0 rfl (gG_V q_1237 q_1239 q_58 q_139 q_1240) nm_X7_isWord ⟨Nat.le_of_ble_eq_true rfl, Nat.le_of_ble_eq_true rfl⟩ rfl rfl (Nat.le_of_ble_eq_true rfl) ⟨Nat.zero_le _, Nat.zero_le _⟩ dX7_partOf_114 (fun z21 H locs hW => ?_)
          refine lv_if_eq (tgt := 124) hx hb dX7_partOf_117 (by decide) (fun c22 => ?_) (fun c22 => ?_)
          · replace h := gi_t h c22
            refine lv_iconst (v := (-1 : Int32)) hx hb dX7_partOf_124 (by decide) ?_
            obtain a1 := so1 h
            exact g_nmi a1 (hfin _ _ _ _ hW dX7_partOf_125)
          · replace h := gi_f h c22
            refine lv_iconst (v := (0 : Int32)) hx hb dX7_partOf_120 (by decide) ?_
            refine lv_goto (tgt := 125) hx hb dX7_partOf_121 (by decide) ?_
            obtain a1 := so1 h
            exact g_nmi a1 (hfin _ _ _ _ hW dX7_partOf_125)
        · replace h := gi_f h c19
          refine lv_tableOut (tgt := 126) hx hb dX7_partOf_1 (by have := lv_neT (a := 40) c1 (by decide); have := lv_neT (a := 41) c3 (by decide); have := lv_neT (a := 42) c13 (by decide); have := lv_neT (a := 43) c19 (by decide); omega) (by decide) ?_
          refine lv_iconst (v := (-1 : Int32)) hx hb dX7_partOf_126 (by decide) ?_
          obtain a1 := so1 h
          exact g_nmi a1 (hfin _ _ _ _ hW dX7_partOf_127)
theorem nm_X7_betweenOf : gNm yX7_betweenOf 0 := by decide +kernel
theorem nm_X7_partOf : gNm yX7_partOf 1 := by decide +kernel
noncomputable def fX7_behindOne   (I : gI) (J : gJ) : Option (Int32 × gI × gJ) :=
  bd (fX7_betweenOf I J) (fun (u1 : Int32) => gi (u1 < 0)
 (bd (fX7_openNow I) (fun (u5 : Int32) => bd (fX7_partOf u5 I J) (fun (u8 : Int32) => gi (0 ≤ u8)
 (bd (fX7_settle (1 : Int32) I) (fun (I12 : gI) => bd (fX7_nextToken I12 J) (pr (fun (I15 : gI) (J16 : gJ) => gi (u8 ≤ 0)
 (lz (wI I15 0 17 ((I15 0 17) - (1 : Int32))) (fun (I20 : gI) => lz (wI I20 0 16 ((I20 0 16) - (1 : Int32))) (fun (I22 : gI) => lz (fun (I24 : gI) => bd (fX7_settle (7 : Int32) I24) (fun (I28 : gI) => some ((1 : Int32), I28, J16))) (fun j25 => gi (u5 = (43 : Int32))
 (bd (fX7_emit (3 : Int32) (0 : Int32) I22) (fun (I32 : gI) => j25 I32))
 (j25 I22)))))
 (bd (fX7_openAt I15) (fun (u35 : Int32) => gd (vp_in u35 160) (lz (wI I15 5 (u35).toNatClampNeg u8) (fun (I40 : gI) => lz (wI I40 0 18 (0 : Int32)) (fun (I41 : gI) => some ((1 : Int32), I41, J16))))))))))
 (some ((0 : Int32), I, J)))))
 (lz (fun (u44 : Int32) => bd (fX7_settle u44 I) (fun (I48 : gI) => gd (vp_in (I48 0 16) 160) (lz (wI I48 5 ((I48 0 16)).toNatClampNeg u1) (fun (I53 : gI) => lz (wI I53 0 16 ((I53 0 16) + (1 : Int32))) (fun (I54 : gI) => lz (wI I54 0 18 (0 : Int32)) (fun (I56 : gI) => bd (fX7_nextToken I56 J) (pr (fun (I58 : gI) (J59 : gJ) => some ((1 : Int32), I58, J59))))))))) (fun j45 => gi ((fX7_rank u1) = (4 : Int32))
 (j45 (5 : Int32))
 (j45 (fX7_rank u1)))))
set_option maxHeartbeats 4000000 in
set_option maxRecDepth 100000 in
theorem kX7_behindOne {l : Launch} {G : gG} {ad : Nat → Nat} (hok : gInj LM ad)     (I : gI) (J : gJ) (r : Int32) (I' : gI) (J' : gJ) (h : fX7_behindOne I J = some (r, I', J')) : gMi l yX7_behindOne cX7_behindOne 4 (some .boolean) 5 G LM ad [.ref (ad 0)] I J r (r = 0 ∨ r = 1) I' J' := by
  refine gMz_of (lst := [(0, .ref (ad 0))]) (by decide) hok (Nat.le_of_ble_eq_true rfl) rfl ?_
  intro p e s m args below meth c Q ls K hW hl hfin
  have hn : (some (r, I', J') : Option (Int32 × gI × gJ)) ≠ none := Option.some_ne_none _
  have hx := K.1; have hb := K.2.1; have hown := K.2.2.2.1; have hts := K.2.2.2.2.1
  unfold fX7_behindOne at h
  refine lv_aload_n hx hb dX7_behindOne_0 rfl (lv_at hl 0 rfl) ?_
  obtain ⟨u1, e2, h⟩ := bd_o h hn
  refine g_callVi (rest := []) K hW hl (kX7_betweenOf (l := l) (G := G) (ad := ad) hok I J u1 e2) kLM_0 rfl (gG_V q_1275 q_1277 q_66 q_139 q_1278) nm_X7_betweenOf ⟨Nat.le_of_ble_eq_true rfl, Nat.le_of_ble_eq_true rfl⟩ rfl rfl (Nat.le_of_ble_eq_true rfl) ⟨Nat.zero_le _, Nat.zero_le _⟩ dX7_behindOne_1 (fun z3 H locs hW => ?_)
  refine lv_istore_n (lv' := [(1, .int u1), (0, .ref (ad 0))]) hx hb dX7_behindOne_4 rfl hl (by decide) rfl (fun ls hl => ?_)
  refine lv_iload_n hx hb dX7_behindOne_5 rfl (lv_at hl 0 rfl) ?_
  refine lv_if_lt (tgt := 60) hx hb dX7_behindOne_6 (by decide) (fun c4 => ?_) (fun c4 => ?_)
  · replace h := gi_t h c4
    refine lv_aload_n hx hb dX7_behindOne_60 rfl (lv_at hl 1 rfl) ?_
    obtain ⟨u5, e6, h⟩ := bd_o h hn
    refine g_callVi (rest := []) K hW hl (kX7_openNow (l := l) (G := G) (ad := ad) hok I J u5 e6) kLM_0 rfl (gG_V q_1279 q_1281 q_67 q_139 q_1282) nm_X7_openNow ⟨Nat.le_of_ble_eq_true rfl, Nat.le_of_ble_eq_true rfl⟩ rfl rfl (Nat.le_of_ble_eq_true rfl) ⟨Nat.zero_le _, Nat.zero_le _⟩ dX7_behindOne_61 (fun z7 H locs hW => ?_)
    refine lv_istore_n (lv' := [(2, .int u5), (1, .int u1), (0, .ref (ad 0))]) hx hb dX7_behindOne_64 rfl hl (by decide) rfl (fun ls hl => ?_)
    refine lv_aload_n hx hb dX7_behindOne_65 rfl (lv_at hl 2 rfl) ?_
    refine lv_iload_n hx hb dX7_behindOne_66 rfl (lv_at hl 0 rfl) ?_
    obtain ⟨u8, e9, h⟩ := bd_o h hn
    refine g_callVi (rest := []) K hW hl (kX7_partOf (l := l) (G := G) (ad := ad) hok u5 I J u8 e9) kLM_0 rfl (gG_V q_1306 q_1308 q_73 q_139 q_1309) nm_X7_partOf ⟨Nat.le_of_ble_eq_true rfl, Nat.le_of_ble_eq_true rfl⟩ rfl rfl (Nat.le_of_ble_eq_true rfl) ⟨Nat.zero_le _, Nat.zero_le _⟩ dX7_behindOne_67 (fun z10 H locs hW => ?_)
    refine lv_istore_n (lv' := [(3, .int u8), (2, .int u5), (1, .int u1), (0, .ref (ad 0))]) hx hb dX7_behindOne_70 rfl hl (by decide) rfl (fun ls hl => ?_)
    refine lv_iload_n hx hb dX7_behindOne_71 rfl (lv_at hl 0 rfl) ?_
    refine lv_if_ge (tgt := 77) hx hb dX7_behindOne_72 (by decide) (fun c11 => ?_) (fun c11 => ?_)
    · replace h := gi_t h c11
      refine lv_aload_n hx hb dX7_behindOne_77 rfl (lv_at hl 3 rfl) ?_
      refine lv_iconst (v := (1 : Int32)) hx hb dX7_behindOne_78 (by decide) ?_
      obtain ⟨I12, e13, h⟩ := bd_o h hn
      refine g_callVv (rest := []) K hW hl (kX7_settle (l := l) (G := G) (ad := ad) hok (1 : Int32) I J I12 e13) kLM_0 rfl (gG_V q_1298 q_1300 q_71 q_139 q_1301) nm_X7_settle ⟨Nat.le_of_ble_eq_true rfl, Nat.le_of_ble_eq_true rfl⟩ rfl rfl (Nat.le_of_ble_eq_true rfl) ⟨Nat.zero_le _, Nat.zero_le _⟩ dX7_behindOne_79 (fun H locs hW => ?_)
      refine lv_aload_n hx hb dX7_behindOne_82 rfl (lv_at hl 3 rfl) ?_
      obtain ⟨⟨I15, J16⟩, e17, h⟩ := bd_o h hn
      replace h := pr_o h
      refine g_callVv (rest := []) K hW hl (kX7_nextToken (l := l) (G := G) (ad := ad) hok I12 J I15 J16 e17) kLM_0 rfl (gG_V q_1201 q_1203 q_54 q_139 q_1204) nm_X7_nextToken ⟨Nat.le_of_ble_eq_true rfl, Nat.le_of_ble_eq_true rfl⟩ rfl rfl (Nat.le_of_ble_eq_true rfl) ⟨Nat.zero_le _, Nat.zero_le _⟩ dX7_behindOne_83 (fun H locs hW => ?_)
      refine lv_iload_n hx hb dX7_behindOne_86 rfl (lv_at hl 0 rfl) ?_
      refine lv_if_le (tgt := 107) hx hb dX7_behindOne_87 (by decide) (fun c19 => ?_) (fun c19 => ?_)
      · replace h := gi_t h c19
        refine lv_aload_n hx hb dX7_behindOne_107 rfl (lv_at hl 3 rfl) ?_
        refine lv_dup hx hb dX7_behindOne_108 rfl ?_
        refine g_get K hW (t := 0) (ci := 6) (k := 17) (v := .int (I15 0 17)) kLM_0 rfl rfl i_X7 (by decide) q_1094 rfl rfl dX7_behindOne_109 ?_
        refine lv_iconst (v := (1 : Int32)) hx hb dX7_behindOne_112 (by decide) ?_
        refine lv_isub hx hb dX7_behindOne_113 ?_
        refine g_putI K hW (ci := 6) (k := 17) kLM_0 rfl rfl i_X7 tyX7_ok nmX7 (by decide) q_1094 rfl rfl rfl rfl dX7_behindOne_114 (fun H locs hW => ?_)
        obtain ⟨I20, e21, h⟩ := lz_o h
        replace hW := gWd_nI e21 hW
        refine lv_aload_n hx hb dX7_behindOne_117 rfl (lv_at hl 3 rfl) ?_
        refine lv_dup hx hb dX7_behindOne_118 rfl ?_
        refine g_get K hW (t := 0) (ci := 6) (k := 16) (v := .int (I20 0 16)) kLM_0 rfl rfl i_X7 (by decide) q_1093 rfl rfl dX7_behindOne_119 ?_
        refine lv_iconst (v := (1 : Int32)) hx hb dX7_behindOne_122 (by decide) ?_
        refine lv_isub hx hb dX7_behindOne_123 ?_
        refine g_putI K hW (ci := 6) (k := 16) kLM_0 rfl rfl i_X7 tyX7_ok nmX7 (by decide) q_1093 rfl rfl rfl rfl dX7_behindOne_124 (fun H locs hW => ?_)
        obtain ⟨I22, e23, h⟩ := lz_o h
        replace hW := gWd_nI e23 hW
        refine lv_iload_n hx hb dX7_behindOne_127 rfl (lv_at hl 1 rfl) ?_
        refine lv_bipush (v := (43 : Int32)) hx hb dX7_behindOne_128 (by decide) ?_
        obtain ⟨j25, e26, h⟩ := lz_o h
        have hj27 : ∀ (I24 : gI), j25 I24 = (some (r, I', J')) → ∀ (H : Heap) (locs : List Loc), gWd G LM ad (gA LM ad) s.heap I24 J16 H locs → ∀ (ls : Array Slot), lv_has ls 4 [(0, .ref (ad 0))] → W p l e (gRm 5) s m args below meth c H locs 0 0 Q (F0 m 139 ls []) := by
          intro I24 h H locs hW ls hl
          replace h := jn1 e26 h
          refine lv_aload_n hx hb dX7_behindOne_139 rfl (lv_at hl 0 rfl) ?_
          refine lv_bipush (v := (7 : Int32)) hx hb dX7_behindOne_140 (by decide) ?_
          obtain ⟨I28, e29, h⟩ := bd_o h hn
          refine g_callVv (rest := []) K hW hl (kX7_settle (l := l) (G := G) (ad := ad) hok (7 : Int32) I24 J16 I28 e29) kLM_0 rfl (gG_V q_1298 q_1300 q_71 q_139 q_1301) nm_X7_settle ⟨Nat.le_of_ble_eq_true rfl, Nat.le_of_ble_eq_true rfl⟩ rfl rfl (Nat.le_of_ble_eq_true rfl) ⟨Nat.zero_le _, Nat.zero_le _⟩ dX7_behindOne_142 (fun H locs hW => ?_)
          refine lv_iconst (v := (1 : Int32)) hx hb dX7_behindOne_145 (by decide) ?_
          obtain ⟨a1, a2, a3⟩ := so3 h
          replace hW := gWd_nI a2 hW
          replace hW := gWd_nJ a3 hW
          exact g_nmi a1 (hfin _ _ _ _ (a1 ▸ (Or.inr rfl)) hW dX7_behindOne_146)
        refine lv_icmp_ne (tgt := 139) hx hb dX7_behindOne_130 (by decide) (fun c31 => ?_) (fun c31 => ?_)
        · replace h := gi_f h c31
          exact hj27 I22 h _ _ hW _ (lv_sub hl [3] rfl)
        · replace h := gi_t h c31
          refine lv_aload_n hx hb dX7_behindOne_133 rfl (lv_at hl 3 rfl) ?_
          refine lv_iconst (v := (3 : Int32)) hx hb dX7_behindOne_134 (by decide) ?_
          refine lv_iconst (v := (0 : Int32)) hx hb dX7_behindOne_135 (by decide) ?_
          obtain ⟨I32, e33, h⟩ := bd_o h hn
          refine g_callVv (rest := []) K hW hl (kX7_emit (l := l) (G := G) (ad := ad) hok (3 : Int32) (0 : Int32) I22 J16 I32 e33) kLM_0 rfl (gG_V q_1302 q_1304 q_72 q_139 q_1305) nm_X7_emit ⟨Nat.le_of_ble_eq_true rfl, Nat.le_of_ble_eq_true rfl⟩ rfl rfl (Nat.le_of_ble_eq_true rfl) ⟨Nat.zero_le _, Nat.zero_le _⟩ dX7_behindOne_136 (fun H locs hW => ?_)
          exact hj27 I32 h _ _ hW _ (lv_sub hl [3] rfl)
      · replace h := gi_f h c19
        refine lv_aload_n hx hb dX7_behindOne_90 rfl (lv_at hl 3 rfl) ?_
        refine g_get K hW (t := 2) (ci := 6) (k := 15) (v := .ref (ad 5)) kLM_0 rfl rfl i_X7 (by decide) q_1092 rfl (gfv2 rLM_0_15) dX7_behindOne_91 ?_
        refine lv_aload_n hx hb dX7_behindOne_94 rfl (lv_at hl 3 rfl) ?_
        obtain ⟨u35, e36, h⟩ := bd_o h hn
        refine g_callVi (rest := [.ref (ad 5)]) K hW hl (kX7_openAt (l := l) (G := G) (ad := ad) hok I15 J16 u35 e36) kLM_0 rfl (gG_V q_1283 q_1285 q_68 q_139 q_1286) nm_X7_openAt ⟨Nat.le_of_ble_eq_true rfl, Nat.le_of_ble_eq_true rfl⟩ rfl rfl (Nat.le_of_ble_eq_true rfl) ⟨Nat.zero_le _, Nat.zero_le _⟩ dX7_behindOne_95 (fun z37 H locs hW => ?_)
        refine lv_iload_n hx hb dX7_behindOne_98 rfl (lv_at hl 0 rfl) ?_
        obtain ⟨g38, h⟩ := gd_o h hn
        refine g_iast K hW kLM_5 g38 rfl dX7_behindOne_99 (fun H locs hW => ?_)
        obtain ⟨I40, e39, h⟩ := lz_o h
        replace hW := gWd_nI e39 hW
        refine lv_aload_n hx hb dX7_behindOne_100 rfl (lv_at hl 3 rfl) ?_
        refine lv_iconst (v := (0 : Int32)) hx hb dX7_behindOne_101 (by decide) ?_
        refine g_putI K hW (ci := 6) (k := 18) kLM_0 rfl rfl i_X7 tyX7_ok nmX7 (by decide) q_1095 rfl rfl rfl rfl dX7_behindOne_102 (fun H locs hW => ?_)
        obtain ⟨I41, e42, h⟩ := lz_o h
        replace hW := gWd_nI e42 hW
        refine lv_iconst (v := (1 : Int32)) hx hb dX7_behindOne_105 (by decide) ?_
        obtain ⟨a1, a2, a3⟩ := so3 h
        replace hW := gWd_nI a2 hW
        replace hW := gWd_nJ a3 hW
        exact g_nmi a1 (hfin _ _ _ _ (a1 ▸ (Or.inr rfl)) hW dX7_behindOne_106)
    · replace h := gi_f h c11
      refine lv_iconst (v := (0 : Int32)) hx hb dX7_behindOne_75 (by decide) ?_
      obtain ⟨a1, a2, a3⟩ := so3 h
      replace hW := gWd_nI a2 hW
      replace hW := gWd_nJ a3 hW
      exact g_nmi a1 (hfin _ _ _ _ (a1 ▸ (Or.inl rfl)) hW dX7_behindOne_76)
  · replace h := gi_f h c4
    refine lv_aload_n hx hb dX7_behindOne_9 rfl (lv_at hl 1 rfl) ?_
    refine lv_iload_n hx hb dX7_behindOne_10 rfl (lv_at hl 0 rfl) ?_
    refine g_callSi (rest := [.ref (ad 0)]) K hW hl (kX7_rank (l := l) (G := G) (ad := ad) hok u1 I J (fX7_rank u1) rfl) q_1291 q_1292 q_139 q_1293 nm_X7_rank ⟨Nat.le_of_ble_eq_true rfl, Nat.le_of_ble_eq_true rfl⟩ rfl rfl (Nat.le_of_ble_eq_true rfl) ⟨Nat.zero_le _, Nat.zero_le _⟩ dX7_behindOne_11 (fun z43 H locs hW => ?_)
    refine lv_iconst (v := (4 : Int32)) hx hb dX7_behindOne_14 (by decide) ?_
    obtain ⟨j45, e46, h⟩ := lz_o h
    have hj47 : ∀ (u44 : Int32), j45 u44 = (some (r, I', J')) → ∀ (H : Heap) (locs : List Loc), gWd G LM ad (gA LM ad) s.heap I J H locs → ∀ (ls : Array Slot), lv_has ls 4 [(0, .ref (ad 0)), (1, .int u1)] → W p l e (gRm 5) s m args below meth c H locs 0 0 Q (F0 m 26 ls [.int u44, .ref (ad 0)]) := by
      intro u44 h H locs hW ls hl
      replace h := jn1 e46 h
      obtain ⟨I48, e49, h⟩ := bd_o h hn
      refine g_callVv (rest := []) K hW hl (kX7_settle (l := l) (G := G) (ad := ad) hok u44 I J I48 e49) kLM_0 rfl (gG_V q_1298 q_1300 q_71 q_139 q_1301) nm_X7_settle ⟨Nat.le_of_ble_eq_true rfl, Nat.le_of_ble_eq_true rfl⟩ rfl rfl (Nat.le_of_ble_eq_true rfl) ⟨Nat.zero_le _, Nat.zero_le _⟩ dX7_behindOne_26 (fun H locs hW => ?_)
      refine lv_aload_n hx hb dX7_behindOne_29 rfl (lv_at hl 0 rfl) ?_
      refine g_get K hW (t := 2) (ci := 6) (k := 15) (v := .ref (ad 5)) kLM_0 rfl rfl i_X7 (by decide) q_1092 rfl (gfv2 rLM_0_15) dX7_behindOne_30 ?_
      refine lv_aload_n hx hb dX7_behindOne_33 rfl (lv_at hl 0 rfl) ?_
      refine g_get K hW (t := 0) (ci := 6) (k := 16) (v := .int (I48 0 16)) kLM_0 rfl rfl i_X7 (by decide) q_1093 rfl rfl dX7_behindOne_34 ?_
      refine lv_iload_n hx hb dX7_behindOne_37 rfl (lv_at hl 1 rfl) ?_
      obtain ⟨g51, h⟩ := gd_o h hn
      refine g_iast K hW kLM_5 g51 rfl dX7_behindOne_38 (fun H locs hW => ?_)
      obtain ⟨I53, e52, h⟩ := lz_o h
      replace hW := gWd_nI e52 hW
      refine lv_aload_n hx hb dX7_behindOne_39 rfl (lv_at hl 0 rfl) ?_
      refine lv_dup hx hb dX7_behindOne_40 rfl ?_
      refine g_get K hW (t := 0) (ci := 6) (k := 16) (v := .int (I53 0 16)) kLM_0 rfl rfl i_X7 (by decide) q_1093 rfl rfl dX7_behindOne_41 ?_
      refine lv_iconst (v := (1 : Int32)) hx hb dX7_behindOne_44 (by decide) ?_
      refine lv_iadd hx hb dX7_behindOne_45 ?_
      refine g_putI K hW (ci := 6) (k := 16) kLM_0 rfl rfl i_X7 tyX7_ok nmX7 (by decide) q_1093 rfl rfl rfl rfl dX7_behindOne_46 (fun H locs hW => ?_)
      obtain ⟨I54, e55, h⟩ := lz_o h
      replace hW := gWd_nI e55 hW
      refine lv_aload_n hx hb dX7_behindOne_49 rfl (lv_at hl 0 rfl) ?_
      refine lv_iconst (v := (0 : Int32)) hx hb dX7_behindOne_50 (by decide) ?_
      refine g_putI K hW (ci := 6) (k := 18) kLM_0 rfl rfl i_X7 tyX7_ok nmX7 (by decide) q_1095 rfl rfl rfl rfl dX7_behindOne_51 (fun H locs hW => ?_)
      obtain ⟨I56, e57, h⟩ := lz_o h
      replace hW := gWd_nI e57 hW
      refine lv_aload_n hx hb dX7_behindOne_54 rfl (lv_at hl 0 rfl) ?_
      obtain ⟨⟨I58, J59⟩, e60, h⟩ := bd_o h hn
      replace h := pr_o h
      refine g_callVv (rest := []) K hW hl (kX7_nextToken (l := l) (G := G) (ad := ad) hok I56 J I58 J59 e60) kLM_0 rfl (gG_V q_1201 q_1203 q_54 q_139 q_1204) nm_X7_nextToken ⟨Nat.le_of_ble_eq_true rfl, Nat.le_of_ble_eq_true rfl⟩ rfl rfl (Nat.le_of_ble_eq_true rfl) ⟨Nat.zero_le _, Nat.zero_le _⟩ dX7_behindOne_55 (fun H locs hW => ?_)
      refine lv_iconst (v := (1 : Int32)) hx hb dX7_behindOne_58 (by decide) ?_
      obtain ⟨a1, a2, a3⟩ := so3 h
      replace hW := gWd_nI a2 hW
      replace hW := gWd_nJ a3 hW
      exact g_nmi a1 (hfin _ _ _ _ (a1 ▸ (Or.inr rfl)) hW dX7_behindOne_59)
    refine lv_icmp_ne (tgt := 22) hx hb dX7_behindOne_15 (by decide) (fun c62 => ?_) (fun c62 => ?_)
    · replace h := gi_f h c62
      refine lv_iload_n hx hb dX7_behindOne_22 rfl (lv_at hl 0 rfl) ?_
      refine g_callSi (rest := [.ref (ad 0)]) K hW hl (kX7_rank (l := l) (G := G) (ad := ad) hok u1 I J (fX7_rank u1) rfl) q_1291 q_1292 q_139 q_1293 nm_X7_rank ⟨Nat.le_of_ble_eq_true rfl, Nat.le_of_ble_eq_true rfl⟩ rfl rfl (Nat.le_of_ble_eq_true rfl) ⟨Nat.zero_le _, Nat.zero_le _⟩ dX7_behindOne_23 (fun z63 H locs hW => ?_)
      exact hj47 (fX7_rank u1) h _ _ hW _ (lv_sub hl [1, 0] rfl)
    · replace h := gi_t h c62
      refine lv_iconst (v := (5 : Int32)) hx hb dX7_behindOne_18 (by decide) ?_
      refine lv_goto (tgt := 26) hx hb dX7_behindOne_19 (by decide) ?_
      exact hj47 (5 : Int32) h _ _ hW _ (lv_sub hl [1, 0] rfl)
theorem nm_X7_beginOne : gNm yX7_beginOne 0 := by decide +kernel
theorem nm_X7_behindOne : gNm yX7_behindOne 0 := by decide +kernel
noncomputable def fX7_summed_15b  (rec : gI → gJ → Option ((gI × gJ) ⊕ (Int32 × gI × gJ))) (I : gI) (J : gJ) : Option ((gI × gJ) ⊕ (Int32 × gI × gJ)) :=
  gi ((I 0 18) = 0)
 (bd (fX7_beginOne I J) (pr (fun (u13 : Int32) => pr (fun (I14 : gI) (J15 : gJ) => gi (u13 = 0)
 (rec I14 J15)
 (some (Sum.inr (u13, I14, J15)))))))
 (bd (fX7_behindOne I J) (pr (fun (u19 : Int32) => pr (fun (I20 : gI) (J21 : gJ) => gi (u19 = 0)
 (some (Sum.inl (I20, J21)))
 (rec I20 J21)))))
noncomputable def fX7_summed_15  : Nat → gI → gJ → Option ((gI × gJ) ⊕ (Int32 × gI × gJ))
  | 0 => fun _ _ => none
  | n + 1 => fX7_summed_15b  (fX7_summed_15  n)
set_option maxHeartbeats 4000000 in
set_option maxRecDepth 100000 in
theorem tX7_summed_15 {l : Launch} {G : gG} {ad : Nat → Nat} {p : Program} {e : Env} {s : State} {m : MethodId} {args : Array Value} {below : List Frame} {meth : Method} {c : Code} {Q : State → Prop} (hok : gInj LM ad) (K : gCx G (gA LM ad) p s m args c cX7_summed 2 RX7)  : ∀ (n : Nat) (I : gI) (J : gJ) (out : Option ((gI × gJ) ⊕ (Int32 × gI × gJ))), fX7_summed_15  n I J = out → out ≠ none → ∀ (H : Heap) (locs : List Loc), gWd G LM ad (gA LM ad) s.heap I J H locs → ∀ (ls : Array Slot), lv_has ls 2 [(0, .ref (ad 0))] → (∀ (I7 : gI) (J8 : gJ), some (Sum.inl (I7, J8)) = out → ∀ (H : Heap) (locs : List Loc), gWd G LM ad (gA LM ad) s.heap I7 J8 H locs → ∀ (ls : Array Slot), lv_has ls 2 [(0, .ref (ad 0))] → W p l e (gRm 7) s m args below meth c H locs 0 0 Q (F0 m 32 ls [])) → (∀ (y9 : Int32) (I10 : gI) (J11 : gJ), some (Sum.inr (y9, I10, J11)) = out → ∀ (H : Heap) (locs : List Loc), gWd G LM ad (gA LM ad) s.heap I10 J11 H locs → ∀ (ls : Array Slot), lv_has ls 2 [(1, .int y9)] → W p l e (gRm 7) s m args below meth c H locs 0 0 Q (F0 m 57 ls [])) → W p l e (gRm 7) s m args below meth c H locs 0 0 Q (F0 m 15 ls []) := by
  have hx := K.1; have hb := K.2.1; have hown := K.2.2.2.1; have hts := K.2.2.2.2.1
  intro n
  induction n with
  | zero => intro I J out h hn; exact absurd h.symm hn
  | succ n ih =>
    intro I J out h hn H locs hW ls hl hx1 hx2
    replace h : fX7_summed_15b  (fX7_summed_15  n) I J = out := h
    unfold fX7_summed_15b at h
    refine lv_aload_n hx hb dX7_summed_15 rfl (lv_at hl 0 rfl) ?_
    refine g_get K hW (t := 0) (ci := 6) (k := 18) (v := .int (I 0 18)) kLM_0 rfl rfl i_X7 (by decide) q_1095 rfl rfl dX7_summed_16 ?_
    refine lv_if_eq (tgt := 48) hx hb dX7_summed_19 (by decide) (fun c12 => ?_) (fun c12 => ?_)
    · replace h := gi_t h c12
      refine lv_aload_n hx hb dX7_summed_48 rfl (lv_at hl 0 rfl) ?_
      obtain ⟨⟨u13, I14, J15⟩, e16, h⟩ := bd_o h hn
      replace h := pr_o h
      replace h := pr_o h
      refine g_callVi (rest := []) K hW hl (kX7_beginOne (l := l) (G := G) (ad := ad) hok I J u13 I14 J15 e16) kLM_0 rfl (gG_V q_1310 q_1312 q_74 q_139 q_1313) nm_X7_beginOne ⟨Nat.le_of_ble_eq_true rfl, Nat.le_of_ble_eq_true rfl⟩ rfl rfl (Nat.le_of_ble_eq_true rfl) ⟨Nat.zero_le _, Nat.zero_le _⟩ dX7_summed_49 (fun z17 H locs hW => ?_)
      refine lv_istore_n (lv' := [(1, .int u13), (0, .ref (ad 0))]) hx hb dX7_summed_52 rfl hl (by decide) rfl (fun ls hl => ?_)
      refine lv_iload_n hx hb dX7_summed_53 rfl (lv_at hl 0 rfl) ?_
      refine lv_if_eq (tgt := 59) hx hb dX7_summed_54 (by decide) (fun c18 => ?_) (fun c18 => ?_)
      · replace h := gi_t h c18
        refine lv_goto (tgt := 15) hx hb dX7_summed_59 (by decide) ?_
        exact ih I14 J15 _ h hn _ _ hW _ (lv_sub hl [1] rfl) hx1 hx2
      · replace h := gi_f h c18
        exact hx2 u13 I14 J15 h _ _ hW _ (lv_sub hl [0] rfl)
    · replace h := gi_f h c12
      refine lv_aload_n hx hb dX7_summed_22 rfl (lv_at hl 0 rfl) ?_
      obtain ⟨⟨u19, I20, J21⟩, e22, h⟩ := bd_o h hn
      replace h := pr_o h
      replace h := pr_o h
      refine g_callVi (rest := []) K hW hl (kX7_behindOne (l := l) (G := G) (ad := ad) hok I J u19 I20 J21 e22) kLM_0 rfl (gG_V q_1271 q_1273 q_65 q_139 q_1274) nm_X7_behindOne ⟨Nat.le_of_ble_eq_true rfl, Nat.le_of_ble_eq_true rfl⟩ rfl rfl (Nat.le_of_ble_eq_true rfl) ⟨Nat.zero_le _, Nat.zero_le _⟩ dX7_summed_23 (fun z23 H locs hW => ?_)
      refine lv_if_eq (tgt := 32) hx hb dX7_summed_26 (by decide) (fun c24 => ?_) (fun c24 => ?_)
      · replace h := gi_t h c24
        exact hx1 I20 J21 h _ _ hW _ (lv_sub hl [0] rfl)
      · replace h := gi_f h c24
        refine lv_goto (tgt := 15) hx hb dX7_summed_29 (by decide) ?_
        exact ih I20 J21 _ h hn _ _ hW _ (lv_sub hl [0] rfl) hx1 hx2
noncomputable def fX7_summed   (I : gI) (J : gJ) : Option (Int32 × gI × gJ) :=
  lz (wI I 0 16 (0 : Int32)) (fun (I1 : gI) => lz (wI I1 0 17 (0 : Int32)) (fun (I3 : gI) => lz (wI I3 0 18 (0 : Int32)) (fun (I5 : gI) => bd (fX7_summed_15 FU I5 J) (sm (pr (fun (I27 : gI) (J28 : gJ) => bd (fX7_openNow I27) (fun (u30 : Int32) => gi (u30 < 0)
 (bd (fX7_settle (1 : Int32) I27) (fun (I34 : gI) => some ((0 : Int32), I34, J28)))
 (some ((1 : Int32), I27, J28))))) (pr (fun (u37 : Int32) => (pr (fun (I38 : gI) (J39 : gJ) => some (u37, I38, J39)))))))))
set_option maxHeartbeats 4000000 in
set_option maxRecDepth 100000 in
theorem kX7_summed {l : Launch} {G : gG} {ad : Nat → Nat} (hok : gInj LM ad)     (I : gI) (J : gJ) (r : Int32) (I' : gI) (J' : gJ) (h : fX7_summed I J = some (r, I', J')) : gMi l yX7_summed cX7_summed 2 (some .int) 7 G LM ad [.ref (ad 0)] I J r True I' J' := by
  refine gMi_of (lst := [(0, .ref (ad 0))]) (by decide) hok (Nat.le_of_ble_eq_true rfl) rfl ?_
  intro p e s m args below meth c Q ls K hW hl hfin
  have hn : (some (r, I', J') : Option (Int32 × gI × gJ)) ≠ none := Option.some_ne_none _
  have hx := K.1; have hb := K.2.1; have hown := K.2.2.2.1; have hts := K.2.2.2.2.1
  unfold fX7_summed at h
  refine lv_aload_n hx hb dX7_summed_0 rfl (lv_at hl 0 rfl) ?_
  refine lv_iconst (v := (0 : Int32)) hx hb dX7_summed_1 (by decide) ?_
  refine g_putI K hW (ci := 6) (k := 16) kLM_0 rfl rfl i_X7 tyX7_ok nmX7 (by decide) q_1093 rfl rfl rfl rfl dX7_summed_2 (fun H locs hW => ?_)
  obtain ⟨I1, e2, h⟩ := lz_o h
  replace hW := gWd_nI e2 hW
  refine lv_aload_n hx hb dX7_summed_5 rfl (lv_at hl 0 rfl) ?_
  refine lv_iconst (v := (0 : Int32)) hx hb dX7_summed_6 (by decide) ?_
  refine g_putI K hW (ci := 6) (k := 17) kLM_0 rfl rfl i_X7 tyX7_ok nmX7 (by decide) q_1094 rfl rfl rfl rfl dX7_summed_7 (fun H locs hW => ?_)
  obtain ⟨I3, e4, h⟩ := lz_o h
  replace hW := gWd_nI e4 hW
  refine lv_aload_n hx hb dX7_summed_10 rfl (lv_at hl 0 rfl) ?_
  refine lv_iconst (v := (0 : Int32)) hx hb dX7_summed_11 (by decide) ?_
  refine g_putI K hW (ci := 6) (k := 18) kLM_0 rfl rfl i_X7 tyX7_ok nmX7 (by decide) q_1095 rfl rfl rfl rfl dX7_summed_12 (fun H locs hW => ?_)
  obtain ⟨I5, e6, h⟩ := lz_o h
  replace hW := gWd_nI e6 hW
  obtain ⟨r25, e26, h⟩ := bd_o h hn
  refine tX7_summed_15 hok K FU I5 J (some r25) e26 (Option.some_ne_none _) _ _ hW _ (lv_sub hl [0] rfl) ?_ ?_
  · intro I27 J28 q29 H locs hW ls hl
    replace q29 := Option.some.inj q29
    subst q29
    replace h := sm_l h
    replace h := pr_o h
    refine lv_aload_n hx hb dX7_summed_32 rfl (lv_at hl 0 rfl) ?_
    obtain ⟨u30, e31, h⟩ := bd_o h hn
    refine g_callVi (rest := []) K hW hl (kX7_openNow (l := l) (G := G) (ad := ad) hok I27 J28 u30 e31) kLM_0 rfl (gG_V q_1279 q_1281 q_67 q_139 q_1282) nm_X7_openNow ⟨Nat.le_of_ble_eq_true rfl, Nat.le_of_ble_eq_true rfl⟩ rfl rfl (Nat.le_of_ble_eq_true rfl) ⟨Nat.zero_le _, Nat.zero_le _⟩ dX7_summed_33 (fun z32 H locs hW => ?_)
    refine lv_if_lt (tgt := 41) hx hb dX7_summed_36 (by decide) (fun c33 => ?_) (fun c33 => ?_)
    · replace h := gi_t h c33
      refine lv_aload_n hx hb dX7_summed_41 rfl (lv_at hl 0 rfl) ?_
      refine lv_iconst (v := (1 : Int32)) hx hb dX7_summed_42 (by decide) ?_
      obtain ⟨I34, e35, h⟩ := bd_o h hn
      refine g_callVv (rest := []) K hW hl (kX7_settle (l := l) (G := G) (ad := ad) hok (1 : Int32) I27 J28 I34 e35) kLM_0 rfl (gG_V q_1298 q_1300 q_71 q_139 q_1301) nm_X7_settle ⟨Nat.le_of_ble_eq_true rfl, Nat.le_of_ble_eq_true rfl⟩ rfl rfl (Nat.le_of_ble_eq_true rfl) ⟨Nat.zero_le _, Nat.zero_le _⟩ dX7_summed_43 (fun H locs hW => ?_)
      refine lv_iconst (v := (0 : Int32)) hx hb dX7_summed_46 (by decide) ?_
      obtain ⟨a1, a2, a3⟩ := so3 h
      replace hW := gWd_nI a2 hW
      replace hW := gWd_nJ a3 hW
      exact g_nmi a1 (hfin _ _ _ _ hW dX7_summed_47)
    · replace h := gi_f h c33
      refine lv_iconst (v := (1 : Int32)) hx hb dX7_summed_39 (by decide) ?_
      obtain ⟨a1, a2, a3⟩ := so3 h
      replace hW := gWd_nI a2 hW
      replace hW := gWd_nJ a3 hW
      exact g_nmi a1 (hfin _ _ _ _ hW dX7_summed_40)
  · intro u37 I38 J39 q40 H locs hW ls hl
    replace q40 := Option.some.inj q40
    subst q40
    replace h := sm_r h
    replace h := pr_o h
    replace h := pr_o h
    refine lv_iload_n hx hb dX7_summed_57 rfl (lv_at hl 0 rfl) ?_
    obtain ⟨a1, a2, a3⟩ := so3 h
    replace hW := gWd_nI a2 hW
    replace hW := gWd_nJ a3 hW
    exact g_nmi a1 (hfin _ _ _ _ hW dX7_summed_58)
noncomputable def fX7_figure  (x1 : Int32) (x2 : Int32) (x3 : Int32) (I : gI) (J : gJ) : Option (Int32 × gI × gJ) :=
  gi ((I 0 9) = (1 : Int32))
 (gi ((fX7_isIn (I 0 10) x2 x3) = 0)
 (some ((2 : Int32), I, J))
 (gd (vp_in x1 2724) (lz (wI I 3 (x1).toNatClampNeg (I 0 10)) (fun (I6 : gI) => bd (fX7_nextToken I6 J) (pr (fun (I7 : gI) (J8 : gJ) => some ((0 : Int32), I7, J8)))))))
 (some ((1 : Int32), I, J))
set_option maxHeartbeats 4000000 in
set_option maxRecDepth 100000 in
theorem kX7_figure {l : Launch} {G : gG} {ad : Nat → Nat} (hok : gInj LM ad)    (x1 : Int32) (x2 : Int32) (x3 : Int32) (I : gI) (J : gJ) (r : Int32) (I' : gI) (J' : gJ) (h : fX7_figure x1 x2 x3 I J = some (r, I', J')) : gMi l yX7_figure cX7_figure 4 (some .int) 3 G LM ad [.ref (ad 0), .int x1, .int x2, .int x3] I J r True I' J' := by
  refine gMi_of (lst := [(0, .ref (ad 0)), (1, .int x1), (2, .int x2), (3, .int x3)]) (by decide) hok (Nat.le_of_ble_eq_true rfl) rfl ?_
  intro p e s m args below meth c Q ls K hW hl hfin
  have hn : (some (r, I', J') : Option (Int32 × gI × gJ)) ≠ none := Option.some_ne_none _
  have hx := K.1; have hb := K.2.1; have hown := K.2.2.2.1; have hts := K.2.2.2.2.1
  unfold fX7_figure at h
  refine lv_aload_n hx hb dX7_figure_0 rfl (lv_at hl 0 rfl) ?_
  refine g_get K hW (t := 0) (ci := 6) (k := 9) (v := .int (I 0 9)) kLM_0 rfl rfl i_X7 (by decide) q_1086 rfl rfl dX7_figure_1 ?_
  refine lv_iconst (v := (1 : Int32)) hx hb dX7_figure_4 (by decide) ?_
  refine lv_icmp_eq (tgt := 10) hx hb dX7_figure_5 (by decide) (fun c1 => ?_) (fun c1 => ?_)
  · replace h := gi_t h c1
    refine lv_aload_n hx hb dX7_figure_10 rfl (lv_at hl 0 rfl) ?_
    refine g_get K hW (t := 0) (ci := 6) (k := 10) (v := .int (I 0 10)) kLM_0 rfl rfl i_X7 (by decide) q_1087 rfl rfl dX7_figure_11 ?_
    refine lv_iload_n hx hb dX7_figure_14 rfl (lv_at hl 2 rfl) ?_
    refine lv_iload_n hx hb dX7_figure_15 rfl (lv_at hl 3 rfl) ?_
    refine g_callSi (rest := []) K hW hl (kX7_isIn (l := l) (G := G) (ad := ad) hok (I 0 10) x2 x3 I J (fX7_isIn (I 0 10) x2 x3) rfl) q_1171 q_1172 q_139 q_1173 nm_X7_isIn ⟨Nat.le_of_ble_eq_true rfl, Nat.le_of_ble_eq_true rfl⟩ rfl rfl (Nat.le_of_ble_eq_true rfl) ⟨Nat.zero_le _, Nat.zero_le _⟩ dX7_figure_16 (fun z2 H locs hW => ?_)
    refine lv_if_ne (tgt := 24) hx hb dX7_figure_19 (by decide) (fun c3 => ?_) (fun c3 => ?_)
    · replace h := gi_f h c3
      refine lv_aload_n hx hb dX7_figure_24 rfl (lv_at hl 0 rfl) ?_
      refine g_get K hW (t := 2) (ci := 6) (k := 2) (v := .ref (ad 3)) kLM_0 rfl rfl i_X7 (by decide) q_1079 rfl (gfv2 rLM_0_2) dX7_figure_25 ?_
      refine lv_iload_n hx hb dX7_figure_28 rfl (lv_at hl 1 rfl) ?_
      refine lv_aload_n hx hb dX7_figure_29 rfl (lv_at hl 0 rfl) ?_
      refine g_get K hW (t := 0) (ci := 6) (k := 10) (v := .int (I 0 10)) kLM_0 rfl rfl i_X7 (by decide) q_1087 rfl rfl dX7_figure_30 ?_
      obtain ⟨g4, h⟩ := gd_o h hn
      refine g_iast K hW kLM_3 g4 rfl dX7_figure_33 (fun H locs hW => ?_)
      obtain ⟨I6, e5, h⟩ := lz_o h
      replace hW := gWd_nI e5 hW
      refine lv_aload_n hx hb dX7_figure_34 rfl (lv_at hl 0 rfl) ?_
      obtain ⟨⟨I7, J8⟩, e9, h⟩ := bd_o h hn
      replace h := pr_o h
      refine g_callVv (rest := []) K hW hl (kX7_nextToken (l := l) (G := G) (ad := ad) hok I6 J I7 J8 e9) kLM_0 rfl (gG_V q_1201 q_1203 q_54 q_139 q_1204) nm_X7_nextToken ⟨Nat.le_of_ble_eq_true rfl, Nat.le_of_ble_eq_true rfl⟩ rfl rfl (Nat.le_of_ble_eq_true rfl) ⟨Nat.zero_le _, Nat.zero_le _⟩ dX7_figure_35 (fun H locs hW => ?_)
      refine lv_iconst (v := (0 : Int32)) hx hb dX7_figure_38 (by decide) ?_
      obtain ⟨a1, a2, a3⟩ := so3 h
      replace hW := gWd_nI a2 hW
      replace hW := gWd_nJ a3 hW
      exact g_nmi a1 (hfin _ _ _ _ hW dX7_figure_39)
    · replace h := gi_t h c3
      refine lv_iconst (v := (2 : Int32)) hx hb dX7_figure_22 (by decide) ?_
      obtain ⟨a1, a2, a3⟩ := so3 h
      replace hW := gWd_nI a2 hW
      replace hW := gWd_nJ a3 hW
      exact g_nmi a1 (hfin _ _ _ _ hW dX7_figure_23)
  · replace h := gi_f h c1
    refine lv_iconst (v := (1 : Int32)) hx hb dX7_figure_8 (by decide) ?_
    obtain ⟨a1, a2, a3⟩ := so3 h
    replace hW := gWd_nI a2 hW
    replace hW := gWd_nJ a3 hW
    exact g_nmi a1 (hfin _ _ _ _ hW dX7_figure_9)
theorem nm_X7_summed : gNm yX7_summed 0 := by decide +kernel
noncomputable def fX7_lawClause  (x1 : Int32) (I : gI) (J : gJ) : Option (Int32 × gI × gJ) :=
  gd (vp_in (x1 + (1 : Int32)) 2724) (lz (wI I 3 ((x1 + (1 : Int32))).toNatClampNeg (I 0 13)) (fun (I3 : gI) => bd (fX7_summed I3 J) (pr (fun (u4 : Int32) => pr (fun (I5 : gI) (J6 : gJ) => gd (vp_in (x1 + (2 : Int32)) 2724) (lz (wI I5 3 ((x1 + (2 : Int32))).toNatClampNeg (I5 0 13)) (fun (I11 : gI) => some (u4, I11, J6))))))))
set_option maxHeartbeats 4000000 in
set_option maxRecDepth 100000 in
theorem kX7_lawClause {l : Launch} {G : gG} {ad : Nat → Nat} (hok : gInj LM ad)    (x1 : Int32) (I : gI) (J : gJ) (r : Int32) (I' : gI) (J' : gJ) (h : fX7_lawClause x1 I J = some (r, I', J')) : gMi l yX7_lawClause cX7_lawClause 3 (some .int) 8 G LM ad [.ref (ad 0), .int x1] I J r True I' J' := by
  refine gMi_of (lst := [(0, .ref (ad 0)), (1, .int x1)]) (by decide) hok (Nat.le_of_ble_eq_true rfl) rfl ?_
  intro p e s m args below meth c Q ls K hW hl hfin
  have hn : (some (r, I', J') : Option (Int32 × gI × gJ)) ≠ none := Option.some_ne_none _
  have hx := K.1; have hb := K.2.1; have hown := K.2.2.2.1; have hts := K.2.2.2.2.1
  unfold fX7_lawClause at h
  refine lv_aload_n hx hb dX7_lawClause_0 rfl (lv_at hl 0 rfl) ?_
  refine g_get K hW (t := 2) (ci := 6) (k := 2) (v := .ref (ad 3)) kLM_0 rfl rfl i_X7 (by decide) q_1079 rfl (gfv2 rLM_0_2) dX7_lawClause_1 ?_
  refine lv_iload_n hx hb dX7_lawClause_4 rfl (lv_at hl 1 rfl) ?_
  refine lv_iconst (v := (1 : Int32)) hx hb dX7_lawClause_5 (by decide) ?_
  refine lv_iadd hx hb dX7_lawClause_6 ?_
  refine lv_aload_n hx hb dX7_lawClause_7 rfl (lv_at hl 0 rfl) ?_
  refine g_get K hW (t := 0) (ci := 6) (k := 13) (v := .int (I 0 13)) kLM_0 rfl rfl i_X7 (by decide) q_1090 rfl rfl dX7_lawClause_8 ?_
  obtain ⟨g1, h⟩ := gd_o h hn
  refine g_iast K hW kLM_3 g1 rfl dX7_lawClause_11 (fun H locs hW => ?_)
  obtain ⟨I3, e2, h⟩ := lz_o h
  replace hW := gWd_nI e2 hW
  refine lv_aload_n hx hb dX7_lawClause_12 rfl (lv_at hl 0 rfl) ?_
  obtain ⟨⟨u4, I5, J6⟩, e7, h⟩ := bd_o h hn
  replace h := pr_o h
  replace h := pr_o h
  refine g_callVi (rest := []) K hW hl (kX7_summed (l := l) (G := G) (ad := ad) hok I3 J u4 I5 J6 e7) kLM_0 rfl (gG_V q_1267 q_1269 q_64 q_139 q_1270) nm_X7_summed ⟨Nat.le_of_ble_eq_true rfl, Nat.le_of_ble_eq_true rfl⟩ rfl rfl (Nat.le_of_ble_eq_true rfl) ⟨Nat.zero_le _, Nat.zero_le _⟩ dX7_lawClause_13 (fun z8 H locs hW => ?_)
  refine lv_istore_n (lv' := [(2, .int u4), (0, .ref (ad 0)), (1, .int x1)]) hx hb dX7_lawClause_16 rfl hl (by decide) rfl (fun ls hl => ?_)
  refine lv_aload_n hx hb dX7_lawClause_17 rfl (lv_at hl 1 rfl) ?_
  refine g_get K hW (t := 2) (ci := 6) (k := 2) (v := .ref (ad 3)) kLM_0 rfl rfl i_X7 (by decide) q_1079 rfl (gfv2 rLM_0_2) dX7_lawClause_18 ?_
  refine lv_iload_n hx hb dX7_lawClause_21 rfl (lv_at hl 2 rfl) ?_
  refine lv_iconst (v := (2 : Int32)) hx hb dX7_lawClause_22 (by decide) ?_
  refine lv_iadd hx hb dX7_lawClause_23 ?_
  refine lv_aload_n hx hb dX7_lawClause_24 rfl (lv_at hl 1 rfl) ?_
  refine g_get K hW (t := 0) (ci := 6) (k := 13) (v := .int (I5 0 13)) kLM_0 rfl rfl i_X7 (by decide) q_1090 rfl rfl dX7_lawClause_25 ?_
  obtain ⟨g9, h⟩ := gd_o h hn
  refine g_iast K hW kLM_3 g9 rfl dX7_lawClause_28 (fun H locs hW => ?_)
  obtain ⟨I11, e10, h⟩ := lz_o h
  replace hW := gWd_nI e10 hW
  refine lv_iload_n hx hb dX7_lawClause_29 rfl (lv_at hl 0 rfl) ?_
  obtain ⟨a1, a2, a3⟩ := so3 h
  replace hW := gWd_nI a2 hW
  replace hW := gWd_nJ a3 hW
  exact g_nmi a1 (hfin _ _ _ _ hW dX7_lawClause_30)
theorem nm_X7_figure : gNm yX7_figure 3 := by decide +kernel
noncomputable def fX7_buyerClause  (x1 : Int32) (I : gI) (J : gJ) : Option (Int32 × gI × gJ) :=
  bd (fX7_figure (x1 + (1 : Int32)) (0 : Int32) (11 : Int32) I J) (pr (fun (u1 : Int32) => pr (fun (I2 : gI) (J3 : gJ) => gi (u1 = 0)
 (gi ((fX7_isWord (fX7_w2 (116 : Int32) (111 : Int32)) I2 J3) = 0)
 (some ((1 : Int32), I2, J3))
 (bd (fX7_nextToken I2 J3) (pr (fun (I10 : gI) (J11 : gJ) => gd (vp_in (x1 + (1 : Int32)) 2724) (bd (fX7_figure (x1 + (2 : Int32)) (I10 3 ((x1 + (1 : Int32))).toNatClampNeg) (11 : Int32) I10 J11) (pr (fun (u15 : Int32) => pr (fun (I16 : gI) (J17 : gJ) => some (u15, I16, J17)))))))))
 (some (u1, I2, J3)))))
set_option maxHeartbeats 4000000 in
set_option maxRecDepth 100000 in
theorem kX7_buyerClause {l : Launch} {G : gG} {ad : Nat → Nat} (hok : gInj LM ad)    (x1 : Int32) (I : gI) (J : gJ) (r : Int32) (I' : gI) (J' : gJ) (h : fX7_buyerClause x1 I J = some (r, I', J')) : gMi l yX7_buyerClause cX7_buyerClause 3 (some .int) 4 G LM ad [.ref (ad 0), .int x1] I J r True I' J' := by
  refine gMi_of (lst := [(0, .ref (ad 0)), (1, .int x1)]) (by decide) hok (Nat.le_of_ble_eq_true rfl) rfl ?_
  intro p e s m args below meth c Q ls K hW hl hfin
  have hn : (some (r, I', J') : Option (Int32 × gI × gJ)) ≠ none := Option.some_ne_none _
  have hx := K.1; have hb := K.2.1; have hown := K.2.2.2.1; have hts := K.2.2.2.2.1
  unfold fX7_buyerClause at h
  refine lv_aload_n hx hb dX7_buyerClause_0 rfl (lv_at hl 0 rfl) ?_
  refine lv_iload_n hx hb dX7_buyerClause_1 rfl (lv_at hl 1 rfl) ?_
  refine lv_iconst (v := (1 : Int32)) hx hb dX7_buyerClause_2 (by decide) ?_
  refine lv_iadd hx hb dX7_buyerClause_3 ?_
  refine lv_iconst (v := (0 : Int32)) hx hb dX7_buyerClause_4 (by decide) ?_
  refine lv_bipush (v := (11 : Int32)) hx hb dX7_buyerClause_5 (by decide) ?_
  obtain ⟨⟨u1, I2, J3⟩, e4, h⟩ := bd_o h hn
  replace h := pr_o h
  replace h := pr_o h
  refine g_callVi (rest := []) K hW hl (kX7_figure (l := l) (G := G) (ad := ad) hok (x1 + (1 : Int32)) (0 : Int32) (11 : Int32) I J u1 I2 J3 e4) kLM_0 rfl (gG_V q_1255 q_1257 q_61 q_139 q_1258) nm_X7_figure ⟨Nat.le_of_ble_eq_true rfl, Nat.le_of_ble_eq_true rfl⟩ rfl rfl (Nat.le_of_ble_eq_true rfl) ⟨Nat.zero_le _, Nat.zero_le _⟩ dX7_buyerClause_7 (fun z5 H locs hW => ?_)
  refine lv_istore_n (lv' := [(2, .int u1), (0, .ref (ad 0)), (1, .int x1)]) hx hb dX7_buyerClause_10 rfl hl (by decide) rfl (fun ls hl => ?_)
  refine lv_iload_n hx hb dX7_buyerClause_11 rfl (lv_at hl 0 rfl) ?_
  refine lv_if_eq (tgt := 17) hx hb dX7_buyerClause_12 (by decide) (fun c6 => ?_) (fun c6 => ?_)
  · replace h := gi_t h c6
    refine lv_aload_n hx hb dX7_buyerClause_17 rfl (lv_at hl 1 rfl) ?_
    refine lv_bipush (v := (116 : Int32)) hx hb dX7_buyerClause_18 (by decide) ?_
    refine lv_bipush (v := (111 : Int32)) hx hb dX7_buyerClause_20 (by decide) ?_
    refine g_callSl (rest := [.ref (ad 0)]) K hW hl (kX7_w2 (l := l) (G := G) (ad := ad) hok (116 : Int32) (111 : Int32) I2 J3 (fX7_w2 (116 : Int32) (111 : Int32)) rfl) q_1234 q_1235 q_139 q_1236 nm_X7_w2 ⟨Nat.le_of_ble_eq_true rfl, Nat.le_of_ble_eq_true rfl⟩ rfl rfl (Nat.le_of_ble_eq_true rfl) ⟨Nat.zero_le _, Nat.zero_le _⟩ dX7_buyerClause_22 (fun H locs hW => ?_)
    refine g_callVi (rest := []) K hW hl (kX7_isWord (l := l) (G := G) (ad := ad) hok (fX7_w2 (116 : Int32) (111 : Int32)) I2 J3 (fX7_isWord (fX7_w2 (116 : Int32) (111 : Int32)) I2 J3) rfl) kLM_0 rfl (gG_V q_1237 q_1239 q_58 q_139 q_1240) nm_X7_isWord ⟨Nat.le_of_ble_eq_true rfl, Nat.le_of_ble_eq_true rfl⟩ rfl rfl (Nat.le_of_ble_eq_true rfl) ⟨Nat.zero_le _, Nat.zero_le _⟩ dX7_buyerClause_25 (fun z8 H locs hW => ?_)
    refine lv_if_ne (tgt := 33) hx hb dX7_buyerClause_28 (by decide) (fun c9 => ?_) (fun c9 => ?_)
    · replace h := gi_f h c9
      refine lv_aload_n hx hb dX7_buyerClause_33 rfl (lv_at hl 1 rfl) ?_
      obtain ⟨⟨I10, J11⟩, e12, h⟩ := bd_o h hn
      replace h := pr_o h
      refine g_callVv (rest := []) K hW hl (kX7_nextToken (l := l) (G := G) (ad := ad) hok I2 J3 I10 J11 e12) kLM_0 rfl (gG_V q_1201 q_1203 q_54 q_139 q_1204) nm_X7_nextToken ⟨Nat.le_of_ble_eq_true rfl, Nat.le_of_ble_eq_true rfl⟩ rfl rfl (Nat.le_of_ble_eq_true rfl) ⟨Nat.zero_le _, Nat.zero_le _⟩ dX7_buyerClause_34 (fun H locs hW => ?_)
      refine lv_aload_n hx hb dX7_buyerClause_37 rfl (lv_at hl 1 rfl) ?_
      refine lv_iload_n hx hb dX7_buyerClause_38 rfl (lv_at hl 2 rfl) ?_
      refine lv_iconst (v := (2 : Int32)) hx hb dX7_buyerClause_39 (by decide) ?_
      refine lv_iadd hx hb dX7_buyerClause_40 ?_
      refine lv_aload_n hx hb dX7_buyerClause_41 rfl (lv_at hl 1 rfl) ?_
      refine g_get K hW (t := 2) (ci := 6) (k := 2) (v := .ref (ad 3)) kLM_0 rfl rfl i_X7 (by decide) q_1079 rfl (gfv2 rLM_0_2) dX7_buyerClause_42 ?_
      refine lv_iload_n hx hb dX7_buyerClause_45 rfl (lv_at hl 2 rfl) ?_
      refine lv_iconst (v := (1 : Int32)) hx hb dX7_buyerClause_46 (by decide) ?_
      refine lv_iadd hx hb dX7_buyerClause_47 ?_
      obtain ⟨g14, h⟩ := gd_o h hn
      refine g_iald K hW kLM_3 g14 rfl dX7_buyerClause_48 ?_
      refine lv_bipush (v := (11 : Int32)) hx hb dX7_buyerClause_49 (by decide) ?_
      obtain ⟨⟨u15, I16, J17⟩, e18, h⟩ := bd_o h hn
      replace h := pr_o h
      replace h := pr_o h
      refine g_callVi (rest := []) K hW hl (kX7_figure (l := l) (G := G) (ad := ad) hok (x1 + (2 : Int32)) (I10 3 ((x1 + (1 : Int32))).toNatClampNeg) (11 : Int32) I10 J11 u15 I16 J17 e18) kLM_0 rfl (gG_V q_1255 q_1257 q_61 q_139 q_1258) nm_X7_figure ⟨Nat.le_of_ble_eq_true rfl, Nat.le_of_ble_eq_true rfl⟩ rfl rfl (Nat.le_of_ble_eq_true rfl) ⟨Nat.zero_le _, Nat.zero_le _⟩ dX7_buyerClause_51 (fun z19 H locs hW => ?_)
      obtain ⟨a1, a2, a3⟩ := so3 h
      replace hW := gWd_nI a2 hW
      replace hW := gWd_nJ a3 hW
      exact g_nmi a1 (hfin _ _ _ _ hW dX7_buyerClause_54)
    · replace h := gi_t h c9
      refine lv_iconst (v := (1 : Int32)) hx hb dX7_buyerClause_31 (by decide) ?_
      obtain ⟨a1, a2, a3⟩ := so3 h
      replace hW := gWd_nI a2 hW
      replace hW := gWd_nJ a3 hW
      exact g_nmi a1 (hfin _ _ _ _ hW dX7_buyerClause_32)
  · replace h := gi_f h c6
    refine lv_iload_n hx hb dX7_buyerClause_15 rfl (lv_at hl 0 rfl) ?_
    obtain ⟨a1, a2, a3⟩ := so3 h
    replace hW := gWd_nI a2 hW
    replace hW := gWd_nJ a3 hW
    exact g_nmi a1 (hfin _ _ _ _ hW dX7_buyerClause_16)
noncomputable def fX7_sortClause  (x1 : Int32) (I : gI) (J : gJ) : Option (Int32 × gI × gJ) :=
  bd (fX7_figure (x1 + (1 : Int32)) (0 : Int32) (4 : Int32) I J) (pr (fun (u1 : Int32) => pr (fun (I2 : gI) (J3 : gJ) => gi (u1 = 0)
 (gi ((fX7_isWord (fX7_w2 (98 : Int32) (121 : Int32)) I2 J3) = 0)
 (some ((1 : Int32), I2, J3))
 (bd (fX7_nextToken I2 J3) (pr (fun (I10 : gI) (J11 : gJ) => bd (fX7_figure (x1 + (2 : Int32)) (0 : Int32) (9 : Int32) I10 J11) (pr (fun (u14 : Int32) => pr (fun (I15 : gI) (J16 : gJ) => some (u14, I15, J16))))))))
 (some (u1, I2, J3)))))
set_option maxHeartbeats 4000000 in
set_option maxRecDepth 100000 in
theorem kX7_sortClause {l : Launch} {G : gG} {ad : Nat → Nat} (hok : gInj LM ad)    (x1 : Int32) (I : gI) (J : gJ) (r : Int32) (I' : gI) (J' : gJ) (h : fX7_sortClause x1 I J = some (r, I', J')) : gMi l yX7_sortClause cX7_sortClause 3 (some .int) 4 G LM ad [.ref (ad 0), .int x1] I J r True I' J' := by
  refine gMi_of (lst := [(0, .ref (ad 0)), (1, .int x1)]) (by decide) hok (Nat.le_of_ble_eq_true rfl) rfl ?_
  intro p e s m args below meth c Q ls K hW hl hfin
  have hn : (some (r, I', J') : Option (Int32 × gI × gJ)) ≠ none := Option.some_ne_none _
  have hx := K.1; have hb := K.2.1; have hown := K.2.2.2.1; have hts := K.2.2.2.2.1
  unfold fX7_sortClause at h
  refine lv_aload_n hx hb dX7_sortClause_0 rfl (lv_at hl 0 rfl) ?_
  refine lv_iload_n hx hb dX7_sortClause_1 rfl (lv_at hl 1 rfl) ?_
  refine lv_iconst (v := (1 : Int32)) hx hb dX7_sortClause_2 (by decide) ?_
  refine lv_iadd hx hb dX7_sortClause_3 ?_
  refine lv_iconst (v := (0 : Int32)) hx hb dX7_sortClause_4 (by decide) ?_
  refine lv_iconst (v := (4 : Int32)) hx hb dX7_sortClause_5 (by decide) ?_
  obtain ⟨⟨u1, I2, J3⟩, e4, h⟩ := bd_o h hn
  replace h := pr_o h
  replace h := pr_o h
  refine g_callVi (rest := []) K hW hl (kX7_figure (l := l) (G := G) (ad := ad) hok (x1 + (1 : Int32)) (0 : Int32) (4 : Int32) I J u1 I2 J3 e4) kLM_0 rfl (gG_V q_1255 q_1257 q_61 q_139 q_1258) nm_X7_figure ⟨Nat.le_of_ble_eq_true rfl, Nat.le_of_ble_eq_true rfl⟩ rfl rfl (Nat.le_of_ble_eq_true rfl) ⟨Nat.zero_le _, Nat.zero_le _⟩ dX7_sortClause_6 (fun z5 H locs hW => ?_)
  refine lv_istore_n (lv' := [(2, .int u1), (0, .ref (ad 0)), (1, .int x1)]) hx hb dX7_sortClause_9 rfl hl (by decide) rfl (fun ls hl => ?_)
  refine lv_iload_n hx hb dX7_sortClause_10 rfl (lv_at hl 0 rfl) ?_
  refine lv_if_eq (tgt := 16) hx hb dX7_sortClause_11 (by decide) (fun c6 => ?_) (fun c6 => ?_)
  · replace h := gi_t h c6
    refine lv_aload_n hx hb dX7_sortClause_16 rfl (lv_at hl 1 rfl) ?_
    refine lv_bipush (v := (98 : Int32)) hx hb dX7_sortClause_17 (by decide) ?_
    refine lv_bipush (v := (121 : Int32)) hx hb dX7_sortClause_19 (by decide) ?_
    refine g_callSl (rest := [.ref (ad 0)]) K hW hl (kX7_w2 (l := l) (G := G) (ad := ad) hok (98 : Int32) (121 : Int32) I2 J3 (fX7_w2 (98 : Int32) (121 : Int32)) rfl) q_1234 q_1235 q_139 q_1236 nm_X7_w2 ⟨Nat.le_of_ble_eq_true rfl, Nat.le_of_ble_eq_true rfl⟩ rfl rfl (Nat.le_of_ble_eq_true rfl) ⟨Nat.zero_le _, Nat.zero_le _⟩ dX7_sortClause_21 (fun H locs hW => ?_)
    refine g_callVi (rest := []) K hW hl (kX7_isWord (l := l) (G := G) (ad := ad) hok (fX7_w2 (98 : Int32) (121 : Int32)) I2 J3 (fX7_isWord (fX7_w2 (98 : Int32) (121 : Int32)) I2 J3) rfl) kLM_0 rfl (gG_V q_1237 q_1239 q_58 q_139 q_1240) nm_X7_isWord ⟨Nat.le_of_ble_eq_true rfl, Nat.le_of_ble_eq_true rfl⟩ rfl rfl (Nat.le_of_ble_eq_true rfl) ⟨Nat.zero_le _, Nat.zero_le _⟩ dX7_sortClause_24 (fun z8 H locs hW => ?_)
    refine lv_if_ne (tgt := 32) hx hb dX7_sortClause_27 (by decide) (fun c9 => ?_) (fun c9 => ?_)
    · replace h := gi_f h c9
      refine lv_aload_n hx hb dX7_sortClause_32 rfl (lv_at hl 1 rfl) ?_
      obtain ⟨⟨I10, J11⟩, e12, h⟩ := bd_o h hn
      replace h := pr_o h
      refine g_callVv (rest := []) K hW hl (kX7_nextToken (l := l) (G := G) (ad := ad) hok I2 J3 I10 J11 e12) kLM_0 rfl (gG_V q_1201 q_1203 q_54 q_139 q_1204) nm_X7_nextToken ⟨Nat.le_of_ble_eq_true rfl, Nat.le_of_ble_eq_true rfl⟩ rfl rfl (Nat.le_of_ble_eq_true rfl) ⟨Nat.zero_le _, Nat.zero_le _⟩ dX7_sortClause_33 (fun H locs hW => ?_)
      refine lv_aload_n hx hb dX7_sortClause_36 rfl (lv_at hl 1 rfl) ?_
      refine lv_iload_n hx hb dX7_sortClause_37 rfl (lv_at hl 2 rfl) ?_
      refine lv_iconst (v := (2 : Int32)) hx hb dX7_sortClause_38 (by decide) ?_
      refine lv_iadd hx hb dX7_sortClause_39 ?_
      refine lv_iconst (v := (0 : Int32)) hx hb dX7_sortClause_40 (by decide) ?_
      refine lv_bipush (v := (9 : Int32)) hx hb dX7_sortClause_41 (by decide) ?_
      obtain ⟨⟨u14, I15, J16⟩, e17, h⟩ := bd_o h hn
      replace h := pr_o h
      replace h := pr_o h
      refine g_callVi (rest := []) K hW hl (kX7_figure (l := l) (G := G) (ad := ad) hok (x1 + (2 : Int32)) (0 : Int32) (9 : Int32) I10 J11 u14 I15 J16 e17) kLM_0 rfl (gG_V q_1255 q_1257 q_61 q_139 q_1258) nm_X7_figure ⟨Nat.le_of_ble_eq_true rfl, Nat.le_of_ble_eq_true rfl⟩ rfl rfl (Nat.le_of_ble_eq_true rfl) ⟨Nat.zero_le _, Nat.zero_le _⟩ dX7_sortClause_43 (fun z18 H locs hW => ?_)
      obtain ⟨a1, a2, a3⟩ := so3 h
      replace hW := gWd_nI a2 hW
      replace hW := gWd_nJ a3 hW
      exact g_nmi a1 (hfin _ _ _ _ hW dX7_sortClause_46)
    · replace h := gi_t h c9
      refine lv_iconst (v := (1 : Int32)) hx hb dX7_sortClause_30 (by decide) ?_
      obtain ⟨a1, a2, a3⟩ := so3 h
      replace hW := gWd_nI a2 hW
      replace hW := gWd_nJ a3 hW
      exact g_nmi a1 (hfin _ _ _ _ hW dX7_sortClause_31)
  · replace h := gi_f h c6
    refine lv_iload_n hx hb dX7_sortClause_14 rfl (lv_at hl 0 rfl) ?_
    obtain ⟨a1, a2, a3⟩ := so3 h
    replace hW := gWd_nI a2 hW
    replace hW := gWd_nJ a3 hW
    exact g_nmi a1 (hfin _ _ _ _ hW dX7_sortClause_15)
theorem nm_X7_buyerClause : gNm yX7_buyerClause 1 := by decide +kernel
theorem nm_X7_sortClause : gNm yX7_sortClause 1 := by decide +kernel
theorem nm_X7_lawClause : gNm yX7_lawClause 1 := by decide +kernel
noncomputable def fX7_body  (x1 : Int32) (x2 : Int32) (I : gI) (J : gJ) : Option (Int32 × gI × gJ) :=
  gi (x1 = (2 : Int32))
 (bd (fX7_buyerClause x2 I J) (pr (fun (u2 : Int32) => pr (fun (I3 : gI) (J4 : gJ) => some (u2, I3, J4)))))
 (gi (x1 = (3 : Int32))
 (bd (fX7_sortClause x2 I J) (pr (fun (u8 : Int32) => pr (fun (I9 : gI) (J10 : gJ) => some (u8, I9, J10)))))
 (gi (x1 = (4 : Int32))
 (bd (fX7_figure (x2 + (1 : Int32)) (0 : Int32) (5 : Int32) I J) (pr (fun (u14 : Int32) => pr (fun (I15 : gI) (J16 : gJ) => some (u14, I15, J16)))))
 (gi (x1 = (5 : Int32))
 (bd (fX7_figure (x2 + (1 : Int32)) (0 : Int32) (11 : Int32) I J) (pr (fun (u20 : Int32) => pr (fun (I21 : gI) (J22 : gJ) => some (u20, I21, J22)))))
 (gi (x1 = (6 : Int32))
 (bd (fX7_figure (x2 + (1 : Int32)) (0 : Int32) (5 : Int32) I J) (pr (fun (u26 : Int32) => pr (fun (I27 : gI) (J28 : gJ) => some (u26, I27, J28)))))
 (gi (x1 = (7 : Int32))
 (bd (fX7_figure (x2 + (1 : Int32)) (1 : Int32) (60 : Int32) I J) (pr (fun (u32 : Int32) => pr (fun (I33 : gI) (J34 : gJ) => some (u32, I33, J34)))))
 (bd (fX7_lawClause x2 I J) (pr (fun (u37 : Int32) => pr (fun (I38 : gI) (J39 : gJ) => some (u37, I38, J39))))))))))
set_option maxHeartbeats 4000000 in
set_option maxRecDepth 100000 in
theorem kX7_body {l : Launch} {G : gG} {ad : Nat → Nat} (hok : gInj LM ad)    (x1 : Int32) (x2 : Int32) (I : gI) (J : gJ) (r : Int32) (I' : gI) (J' : gJ) (h : fX7_body x1 x2 I J = some (r, I', J')) : gMi l yX7_body cX7_body 3 (some .int) 9 G LM ad [.ref (ad 0), .int x1, .int x2] I J r True I' J' := by
  refine gMi_of (lst := [(0, .ref (ad 0)), (1, .int x1), (2, .int x2)]) (by decide) hok (Nat.le_of_ble_eq_true rfl) rfl ?_
  intro p e s m args below meth c Q ls K hW hl hfin
  have hn : (some (r, I', J') : Option (Int32 × gI × gJ)) ≠ none := Option.some_ne_none _
  have hx := K.1; have hb := K.2.1; have hown := K.2.2.2.1; have hts := K.2.2.2.2.1
  unfold fX7_body at h
  refine lv_iload_n hx hb dX7_body_0 rfl (lv_at hl 1 rfl) ?_
  rcases Classical.em (x1 = (2 : Int32)) with c1 | c1
  · replace h := gi_t h c1
    refine g_tabIn (k := (2 : Int32)) (tgt := 40) (off := 39) hx hb c1 dX7_body_1 (by decide) (by decide) (by decide) (by decide) ?_
    refine lv_aload_n hx hb dX7_body_40 rfl (lv_at hl 0 rfl) ?_
    refine lv_iload_n hx hb dX7_body_41 rfl (lv_at hl 2 rfl) ?_
    obtain ⟨⟨u2, I3, J4⟩, e5, h⟩ := bd_o h hn
    replace h := pr_o h
    replace h := pr_o h
    refine g_callVi (rest := []) K hW hl (kX7_buyerClause (l := l) (G := G) (ad := ad) hok x2 I J u2 I3 J4 e5) kLM_0 rfl (gG_V q_1251 q_1253 q_60 q_139 q_1254) nm_X7_buyerClause ⟨Nat.le_of_ble_eq_true rfl, Nat.le_of_ble_eq_true rfl⟩ rfl rfl (Nat.le_of_ble_eq_true rfl) ⟨Nat.zero_le _, Nat.zero_le _⟩ dX7_body_42 (fun z6 H locs hW => ?_)
    obtain ⟨a1, a2, a3⟩ := so3 h
    replace hW := gWd_nI a2 hW
    replace hW := gWd_nJ a3 hW
    exact g_nmi a1 (hfin _ _ _ _ hW dX7_body_45)
  · replace h := gi_f h c1
    rcases Classical.em (x1 = (3 : Int32)) with c7 | c7
    · replace h := gi_t h c7
      refine g_tabIn (k := (3 : Int32)) (tgt := 46) (off := 45) hx hb c7 dX7_body_1 (by decide) (by decide) (by decide) (by decide) ?_
      refine lv_aload_n hx hb dX7_body_46 rfl (lv_at hl 0 rfl) ?_
      refine lv_iload_n hx hb dX7_body_47 rfl (lv_at hl 2 rfl) ?_
      obtain ⟨⟨u8, I9, J10⟩, e11, h⟩ := bd_o h hn
      replace h := pr_o h
      replace h := pr_o h
      refine g_callVi (rest := []) K hW hl (kX7_sortClause (l := l) (G := G) (ad := ad) hok x2 I J u8 I9 J10 e11) kLM_0 rfl (gG_V q_1259 q_1261 q_62 q_139 q_1262) nm_X7_sortClause ⟨Nat.le_of_ble_eq_true rfl, Nat.le_of_ble_eq_true rfl⟩ rfl rfl (Nat.le_of_ble_eq_true rfl) ⟨Nat.zero_le _, Nat.zero_le _⟩ dX7_body_48 (fun z12 H locs hW => ?_)
      obtain ⟨a1, a2, a3⟩ := so3 h
      replace hW := gWd_nI a2 hW
      replace hW := gWd_nJ a3 hW
      exact g_nmi a1 (hfin _ _ _ _ hW dX7_body_51)
    · replace h := gi_f h c7
      rcases Classical.em (x1 = (4 : Int32)) with c13 | c13
      · replace h := gi_t h c13
        refine g_tabIn (k := (4 : Int32)) (tgt := 52) (off := 51) hx hb c13 dX7_body_1 (by decide) (by decide) (by decide) (by decide) ?_
        refine lv_aload_n hx hb dX7_body_52 rfl (lv_at hl 0 rfl) ?_
        refine lv_iload_n hx hb dX7_body_53 rfl (lv_at hl 2 rfl) ?_
        refine lv_iconst (v := (1 : Int32)) hx hb dX7_body_54 (by decide) ?_
        refine lv_iadd hx hb dX7_body_55 ?_
        refine lv_iconst (v := (0 : Int32)) hx hb dX7_body_56 (by decide) ?_
        refine lv_iconst (v := (5 : Int32)) hx hb dX7_body_57 (by decide) ?_
        obtain ⟨⟨u14, I15, J16⟩, e17, h⟩ := bd_o h hn
        replace h := pr_o h
        replace h := pr_o h
        refine g_callVi (rest := []) K hW hl (kX7_figure (l := l) (G := G) (ad := ad) hok (x2 + (1 : Int32)) (0 : Int32) (5 : Int32) I J u14 I15 J16 e17) kLM_0 rfl (gG_V q_1255 q_1257 q_61 q_139 q_1258) nm_X7_figure ⟨Nat.le_of_ble_eq_true rfl, Nat.le_of_ble_eq_true rfl⟩ rfl rfl (Nat.le_of_ble_eq_true rfl) ⟨Nat.zero_le _, Nat.zero_le _⟩ dX7_body_58 (fun z18 H locs hW => ?_)
        obtain ⟨a1, a2, a3⟩ := so3 h
        replace hW := gWd_nI a2 hW
        replace hW := gWd_nJ a3 hW
        exact g_nmi a1 (hfin _ _ _ _ hW dX7_body_61)
      · replace h := gi_f h c13
        rcases Classical.em (x1 = (5 : Int32)) with c19 | c19
        · replace h := gi_t h c19
          refine g_tabIn (k := (5 : Int32)) (tgt := 62) (off := 61) hx hb c19 dX7_body_1 (by decide) (by decide) (by decide) (by decide) ?_
          refine lv_aload_n hx hb dX7_body_62 rfl (lv_at hl 0 rfl) ?_
          refine lv_iload_n hx hb dX7_body_63 rfl (lv_at hl 2 rfl) ?_
          refine lv_iconst (v := (1 : Int32)) hx hb dX7_body_64 (by decide) ?_
          refine lv_iadd hx hb dX7_body_65 ?_
          refine lv_iconst (v := (0 : Int32)) hx hb dX7_body_66 (by decide) ?_
          refine lv_bipush (v := (11 : Int32)) hx hb dX7_body_67 (by decide) ?_
          obtain ⟨⟨u20, I21, J22⟩, e23, h⟩ := bd_o h hn
          replace h := pr_o h
          replace h := pr_o h
          refine g_callVi (rest := []) K hW hl (kX7_figure (l := l) (G := G) (ad := ad) hok (x2 + (1 : Int32)) (0 : Int32) (11 : Int32) I J u20 I21 J22 e23) kLM_0 rfl (gG_V q_1255 q_1257 q_61 q_139 q_1258) nm_X7_figure ⟨Nat.le_of_ble_eq_true rfl, Nat.le_of_ble_eq_true rfl⟩ rfl rfl (Nat.le_of_ble_eq_true rfl) ⟨Nat.zero_le _, Nat.zero_le _⟩ dX7_body_69 (fun z24 H locs hW => ?_)
          obtain ⟨a1, a2, a3⟩ := so3 h
          replace hW := gWd_nI a2 hW
          replace hW := gWd_nJ a3 hW
          exact g_nmi a1 (hfin _ _ _ _ hW dX7_body_72)
        · replace h := gi_f h c19
          rcases Classical.em (x1 = (6 : Int32)) with c25 | c25
          · replace h := gi_t h c25
            refine g_tabIn (k := (6 : Int32)) (tgt := 73) (off := 72) hx hb c25 dX7_body_1 (by decide) (by decide) (by decide) (by decide) ?_
            refine lv_aload_n hx hb dX7_body_73 rfl (lv_at hl 0 rfl) ?_
            refine lv_iload_n hx hb dX7_body_74 rfl (lv_at hl 2 rfl) ?_
            refine lv_iconst (v := (1 : Int32)) hx hb dX7_body_75 (by decide) ?_
            refine lv_iadd hx hb dX7_body_76 ?_
            refine lv_iconst (v := (0 : Int32)) hx hb dX7_body_77 (by decide) ?_
            refine lv_iconst (v := (5 : Int32)) hx hb dX7_body_78 (by decide) ?_
            obtain ⟨⟨u26, I27, J28⟩, e29, h⟩ := bd_o h hn
            replace h := pr_o h
            replace h := pr_o h
            refine g_callVi (rest := []) K hW hl (kX7_figure (l := l) (G := G) (ad := ad) hok (x2 + (1 : Int32)) (0 : Int32) (5 : Int32) I J u26 I27 J28 e29) kLM_0 rfl (gG_V q_1255 q_1257 q_61 q_139 q_1258) nm_X7_figure ⟨Nat.le_of_ble_eq_true rfl, Nat.le_of_ble_eq_true rfl⟩ rfl rfl (Nat.le_of_ble_eq_true rfl) ⟨Nat.zero_le _, Nat.zero_le _⟩ dX7_body_79 (fun z30 H locs hW => ?_)
            obtain ⟨a1, a2, a3⟩ := so3 h
            replace hW := gWd_nI a2 hW
            replace hW := gWd_nJ a3 hW
            exact g_nmi a1 (hfin _ _ _ _ hW dX7_body_82)
          · replace h := gi_f h c25
            rcases Classical.em (x1 = (7 : Int32)) with c31 | c31
            · replace h := gi_t h c31
              refine g_tabIn (k := (7 : Int32)) (tgt := 83) (off := 82) hx hb c31 dX7_body_1 (by decide) (by decide) (by decide) (by decide) ?_
              refine lv_aload_n hx hb dX7_body_83 rfl (lv_at hl 0 rfl) ?_
              refine lv_iload_n hx hb dX7_body_84 rfl (lv_at hl 2 rfl) ?_
              refine lv_iconst (v := (1 : Int32)) hx hb dX7_body_85 (by decide) ?_
              refine lv_iadd hx hb dX7_body_86 ?_
              refine lv_iconst (v := (1 : Int32)) hx hb dX7_body_87 (by decide) ?_
              refine lv_bipush (v := (60 : Int32)) hx hb dX7_body_88 (by decide) ?_
              obtain ⟨⟨u32, I33, J34⟩, e35, h⟩ := bd_o h hn
              replace h := pr_o h
              replace h := pr_o h
              refine g_callVi (rest := []) K hW hl (kX7_figure (l := l) (G := G) (ad := ad) hok (x2 + (1 : Int32)) (1 : Int32) (60 : Int32) I J u32 I33 J34 e35) kLM_0 rfl (gG_V q_1255 q_1257 q_61 q_139 q_1258) nm_X7_figure ⟨Nat.le_of_ble_eq_true rfl, Nat.le_of_ble_eq_true rfl⟩ rfl rfl (Nat.le_of_ble_eq_true rfl) ⟨Nat.zero_le _, Nat.zero_le _⟩ dX7_body_90 (fun z36 H locs hW => ?_)
              obtain ⟨a1, a2, a3⟩ := so3 h
              replace hW := gWd_nI a2 hW
              replace hW := gWd_nJ a3 hW
              exact g_nmi a1 (hfin _ _ _ _ hW dX7_body_93)
            · replace h := gi_f h c31
              refine lv_tableOut (tgt := 94) hx hb dX7_body_1 (by have := lv_neT (a := 2) c1 (by decide); have := lv_neT (a := 3) c7 (by decide); have := lv_neT (a := 4) c13 (by decide); have := lv_neT (a := 5) c19 (by decide); have := lv_neT (a := 6) c25 (by decide); have := lv_neT (a := 7) c31 (by decide); omega) (by decide) ?_
              refine lv_aload_n hx hb dX7_body_94 rfl (lv_at hl 0 rfl) ?_
              refine lv_iload_n hx hb dX7_body_95 rfl (lv_at hl 2 rfl) ?_
              obtain ⟨⟨u37, I38, J39⟩, e40, h⟩ := bd_o h hn
              replace h := pr_o h
              replace h := pr_o h
              refine g_callVi (rest := []) K hW hl (kX7_lawClause (l := l) (G := G) (ad := ad) hok x2 I J u37 I38 J39 e40) kLM_0 rfl (gG_V q_1263 q_1265 q_63 q_139 q_1266) nm_X7_lawClause ⟨Nat.le_of_ble_eq_true rfl, Nat.le_of_ble_eq_true rfl⟩ rfl rfl (Nat.le_of_ble_eq_true rfl) ⟨Nat.zero_le _, Nat.zero_le _⟩ dX7_body_96 (fun z41 H locs hW => ?_)
              obtain ⟨a1, a2, a3⟩ := so3 h
              replace hW := gWd_nI a2 hW
              replace hW := gWd_nJ a3 hW
              exact g_nmi a1 (hfin _ _ _ _ hW dX7_body_99)
