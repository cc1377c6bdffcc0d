-- 12.m04: the reference: sortOf clause readText text fault by clip two isAsked ofOne joined
noncomputable def fX7_sortOf   (I : gI) (J : gJ) : Int32 :=
  lz ((fX7_isWord (fX7_w4 (98 : Int32) (105 : Int32) (100 : Int32) (115 : Int32)) I J)) (fun (u3 : Int32) => gi (u3 = 0)
 (lz ((fX7_w5 (101 : Int32) (97 : Int32) (114 : Int32) (110 : Int32) (115 : Int32))) (fun (u7 : Int64) => gi ((fX7_isWord u7 I J) = 0)
 (lz ((fX7_w5 (98 : Int32) (117 : Int32) (121 : Int32) (101 : Int32) (114 : Int32))) (fun (u12 : Int64) => gi ((fX7_isWord u12 I J) = 0)
 (lz ((fX7_isWord (fX7_w4 (115 : Int32) (111 : Int32) (114 : Int32) (116 : Int32)) I J)) (fun (u18 : Int32) => gi (u18 = 0)
 (lz ((fX7_isWord (fX7_w4 (115 : Int32) (101 : Int32) (108 : Int32) (108 : Int32)) I J)) (fun (u23 : Int32) => gi (u23 = 0)
 (lz ((fX7_isWord (fX7_w4 (103 : Int32) (105 : Int32) (118 : Int32) (101 : Int32)) I J)) (fun (u28 : Int32) => gi (u28 = 0)
 (lz ((fX7_isWord (fX7_w4 (116 : Int32) (117 : Int32) (114 : Int32) (110 : Int32)) I J)) (fun (u33 : Int32) => gi (u33 = 0)
 (gi ((fX7_isWord (fX7_w3 (100 : Int32) (97 : Int32) (121 : Int32)) I J) = 0)
 ((-1 : Int32))
 ((7 : Int32)))
 ((6 : Int32))))
 ((5 : Int32))))
 ((4 : Int32))))
 ((3 : Int32))))
 ((2 : Int32))))
 ((1 : Int32))))
 ((0 : Int32)))
set_option maxHeartbeats 4000000 in
set_option maxRecDepth 100000 in
theorem kX7_sortOf {l : Launch} {G : gG} {ad : Nat → Nat} (hok : gInj LM ad)     (I : gI) (J : gJ) (r : Int32) (h : fX7_sortOf I J = r) : gMi l yX7_sortOf cX7_sortOf 1 (some .int) 5 G LM ad [.ref (ad 0)] I J r True I J := by
  refine gMi_of (lst := [(0, .ref (ad 0))]) (by decide) hok (Nat.le_of_ble_eq_true rfl) rfl ?_
  intro p e s m args below meth c Q ls K hW hl hfin
  have hx := K.1; have hb := K.2.1; have hown := K.2.2.2.1; have hts := K.2.2.2.2.1
  unfold fX7_sortOf at h
  refine lv_aload_n hx hb dX7_sortOf_0 rfl (lv_at hl 0 rfl) ?_
  refine lv_bipush (v := (98 : Int32)) hx hb dX7_sortOf_1 (by decide) ?_
  refine lv_bipush (v := (105 : Int32)) hx hb dX7_sortOf_3 (by decide) ?_
  refine lv_bipush (v := (100 : Int32)) hx hb dX7_sortOf_5 (by decide) ?_
  refine lv_bipush (v := (115 : Int32)) hx hb dX7_sortOf_7 (by decide) ?_
  refine g_callSl (rest := [.ref (ad 0)]) K hW hl (kX7_w4 (l := l) (G := G) (ad := ad) hok (98 : Int32) (105 : Int32) (100 : Int32) (115 : Int32) I J (fX7_w4 (98 : Int32) (105 : Int32) (100 : Int32) (115 : Int32)) rfl) q_1228 q_1229 q_139 q_1230 nm_X7_w4 ⟨Nat.le_of_ble_eq_true rfl, Nat.le_of_ble_eq_true rfl⟩ rfl rfl (Nat.le_of_ble_eq_true rfl) ⟨Nat.zero_le _, Nat.zero_le _⟩ dX7_sortOf_9 (fun H locs hW => ?_)
  refine g_callVi (rest := []) K hW hl (kX7_isWord (l := l) (G := G) (ad := ad) hok (fX7_w4 (98 : Int32) (105 : Int32) (100 : Int32) (115 : Int32)) I J (fX7_isWord (fX7_w4 (98 : Int32) (105 : Int32) (100 : Int32) (115 : Int32)) I J) rfl) kLM_0 rfl (gG_V q_1237 q_1239 q_58 q_139 q_1240) nm_X7_isWord ⟨Nat.le_of_ble_eq_true rfl, Nat.le_of_ble_eq_true rfl⟩ rfl rfl (Nat.le_of_ble_eq_true rfl) ⟨Nat.zero_le _, Nat.zero_le _⟩ dX7_sortOf_12 (fun z2 H locs hW => ?_)
  obtain ⟨u3, e4, h⟩ := lz_o h
  refine g_nmi e4 ?_
  refine lv_if_eq (tgt := 20) hx hb dX7_sortOf_15 (by decide) (fun c5 => ?_) (fun c5 => ?_)
  · replace h := gi_t h c5
    refine lv_aload_n hx hb dX7_sortOf_20 rfl (lv_at hl 0 rfl) ?_
    refine lv_bipush (v := (101 : Int32)) hx hb dX7_sortOf_21 (by decide) ?_
    refine lv_bipush (v := (97 : Int32)) hx hb dX7_sortOf_23 (by decide) ?_
    refine lv_bipush (v := (114 : Int32)) hx hb dX7_sortOf_25 (by decide) ?_
    refine lv_bipush (v := (110 : Int32)) hx hb dX7_sortOf_27 (by decide) ?_
    refine lv_bipush (v := (115 : Int32)) hx hb dX7_sortOf_29 (by decide) ?_
    refine g_callSl (rest := [.ref (ad 0)]) K hW hl (kX7_w5 (l := l) (G := G) (ad := ad) hok (101 : Int32) (97 : Int32) (114 : Int32) (110 : Int32) (115 : Int32) I J (fX7_w5 (101 : Int32) (97 : Int32) (114 : Int32) (110 : Int32) (115 : Int32)) rfl) q_1241 q_1242 q_139 q_1243 nm_X7_w5 ⟨Nat.le_of_ble_eq_true rfl, Nat.le_of_ble_eq_true rfl⟩ rfl rfl (Nat.le_of_ble_eq_true rfl) ⟨Nat.zero_le _, Nat.zero_le _⟩ dX7_sortOf_31 (fun H locs hW => ?_)
    obtain ⟨u7, e8, h⟩ := lz_o h
    refine g_nml e8 ?_
    refine g_callVi (rest := []) K hW hl (kX7_isWord (l := l) (G := G) (ad := ad) hok u7 I J (fX7_isWord u7 I J) rfl) kLM_0 rfl (gG_V q_1237 q_1239 q_58 q_139 q_1240) nm_X7_isWord ⟨Nat.le_of_ble_eq_true rfl, Nat.le_of_ble_eq_true rfl⟩ rfl rfl (Nat.le_of_ble_eq_true rfl) ⟨Nat.zero_le _, Nat.zero_le _⟩ dX7_sortOf_34 (fun z9 H locs hW => ?_)
    refine lv_if_eq (tgt := 42) hx hb dX7_sortOf_37 (by decide) (fun c10 => ?_) (fun c10 => ?_)
    · replace h := gi_t h c10
      refine lv_aload_n hx hb dX7_sortOf_42 rfl (lv_at hl 0 rfl) ?_
      refine lv_bipush (v := (98 : Int32)) hx hb dX7_sortOf_43 (by decide) ?_
      refine lv_bipush (v := (117 : Int32)) hx hb dX7_sortOf_45 (by decide) ?_
      refine lv_bipush (v := (121 : Int32)) hx hb dX7_sortOf_47 (by decide) ?_
      refine lv_bipush (v := (101 : Int32)) hx hb dX7_sortOf_49 (by decide) ?_
      refine lv_bipush (v := (114 : Int32)) hx hb dX7_sortOf_51 (by decide) ?_
      refine g_callSl (rest := [.ref (ad 0)]) K hW hl (kX7_w5 (l := l) (G := G) (ad := ad) hok (98 : Int32) (117 : Int32) (121 : Int32) (101 : Int32) (114 : Int32) I J (fX7_w5 (98 : Int32) (117 : Int32) (121 : Int32) (101 : Int32) (114 : Int32)) rfl) q_1241 q_1242 q_139 q_1243 nm_X7_w5 ⟨Nat.le_of_ble_eq_true rfl, Nat.le_of_ble_eq_true rfl⟩ rfl rfl (Nat.le_of_ble_eq_true rfl) ⟨Nat.zero_le _, Nat.zero_le _⟩ dX7_sortOf_53 (fun H locs hW => ?_)
      obtain ⟨u12, e13, h⟩ := lz_o h
      refine g_nml e13 ?_
      refine g_callVi (rest := []) K hW hl (kX7_isWord (l := l) (G := G) (ad := ad) hok u12 I J (fX7_isWord u12 I J) rfl) kLM_0 rfl (gG_V q_1237 q_1239 q_58 q_139 q_1240) nm_X7_isWord ⟨Nat.le_of_ble_eq_true rfl, Nat.le_of_ble_eq_true rfl⟩ rfl rfl (Nat.le_of_ble_eq_true rfl) ⟨Nat.zero_le _, Nat.zero_le _⟩ dX7_sortOf_56 (fun z14 H locs hW => ?_)
      refine lv_if_eq (tgt := 64) hx hb dX7_sortOf_59 (by decide) (fun c15 => ?_) (fun c15 => ?_)
      · replace h := gi_t h c15
        refine lv_aload_n hx hb dX7_sortOf_64 rfl (lv_at hl 0 rfl) ?_
        refine lv_bipush (v := (115 : Int32)) hx hb dX7_sortOf_65 (by decide) ?_
        refine lv_bipush (v := (111 : Int32)) hx hb dX7_sortOf_67 (by decide) ?_
        refine lv_bipush (v := (114 : Int32)) hx hb dX7_sortOf_69 (by decide) ?_
        refine lv_bipush (v := (116 : Int32)) hx hb dX7_sortOf_71 (by decide) ?_
        refine g_callSl (rest := [.ref (ad 0)]) K hW hl (kX7_w4 (l := l) (G := G) (ad := ad) hok (115 : Int32) (111 : Int32) (114 : Int32) (116 : Int32) I J (fX7_w4 (115 : Int32) (111 : Int32) (114 : Int32) (116 : Int32)) rfl) q_1228 q_1229 q_139 q_1230 nm_X7_w4 ⟨Nat.le_of_ble_eq_true rfl, Nat.le_of_ble_eq_true rfl⟩ rfl rfl (Nat.le_of_ble_eq_true rfl) ⟨Nat.zero_le _, Nat.zero_le _⟩ dX7_sortOf_73 (fun H locs hW => ?_)
        refine g_callVi (rest := []) K hW hl (kX7_isWord (l := l) (G := G) (ad := ad) hok (fX7_w4 (115 : Int32) (111 : Int32) (114 : Int32) (116 : Int32)) I J (fX7_isWord (fX7_w4 (115 : Int32) (111 : Int32) (114 : Int32) (116 : Int32)) I J) rfl) kLM_0 rfl (gG_V q_1237 q_1239 q_58 q_139 q_1240) nm_X7_isWord ⟨Nat.le_of_ble_eq_true rfl, Nat.le_of_ble_eq_true rfl⟩ rfl rfl (Nat.le_of_ble_eq_true rfl) ⟨Nat.zero_le _, Nat.zero_le _⟩ dX7_sortOf_76 (fun z17 H locs hW => ?_)
        obtain ⟨u18, e19, h⟩ := lz_o h
        refine g_nmi e19 ?_
        refine lv_if_eq (tgt := 84) hx hb dX7_sortOf_79 (by decide) (fun c20 => ?_) (fun c20 => ?_)
        · replace h := gi_t h c20
          refine lv_aload_n hx hb dX7_sortOf_84 rfl (lv_at hl 0 rfl) ?_
          refine lv_bipush (v := (115 : Int32)) hx hb dX7_sortOf_85 (by decide) ?_
          refine lv_bipush (v := (101 : Int32)) hx hb dX7_sortOf_87 (by decide) ?_
          refine lv_bipush (v := (108 : Int32)) hx hb dX7_sortOf_89 (by decide) ?_
          refine lv_bipush (v := (108 : Int32)) hx hb dX7_sortOf_91 (by decide) ?_
          refine g_callSl (rest := [.ref (ad 0)]) K hW hl (kX7_w4 (l := l) (G := G) (ad := ad) hok (115 : Int32) (101 : Int32) (108 : Int32) (108 : Int32) I J (fX7_w4 (115 : Int32) (101 : Int32) (108 : Int32) (108 : Int32)) rfl) q_1228 q_1229 q_139 q_1230 nm_X7_w4 ⟨Nat.le_of_ble_eq_true rfl, Nat.le_of_ble_eq_true rfl⟩ rfl rfl (Nat.le_of_ble_eq_true rfl) ⟨Nat.zero_le _, Nat.zero_le _⟩ dX7_sortOf_93 (fun H locs hW => ?_)
          refine g_callVi (rest := []) K hW hl (kX7_isWord (l := l) (G := G) (ad := ad) hok (fX7_w4 (115 : Int32) (101 : Int32) (108 : Int32) (108 : Int32)) I J (fX7_isWord (fX7_w4 (115 : Int32) (101 : Int32) (108 : Int32) (108 : Int32)) I J) rfl) kLM_0 rfl (gG_V q_1237 q_1239 q_58 q_139 q_1240) nm_X7_isWord ⟨Nat.le_of_ble_eq_true rfl, Nat.le_of_ble_eq_true rfl⟩ rfl rfl (Nat.le_of_ble_eq_true rfl) ⟨Nat.zero_le _, Nat.zero_le _⟩ dX7_sortOf_96 (fun z22 H locs hW => ?_)
          obtain ⟨u23, e24, h⟩ := lz_o h
          refine g_nmi e24 ?_
          refine lv_if_eq (tgt := 104) hx hb dX7_sortOf_99 (by decide) (fun c25 => ?_) (fun c25 => ?_)
          · replace h := gi_t h c25
            refine lv_aload_n hx hb dX7_sortOf_104 rfl (lv_at hl 0 rfl) ?_
            refine lv_bipush (v := (103 : Int32)) hx hb dX7_sortOf_105 (by decide) ?_
            refine lv_bipush (v := (105 : Int32)) hx hb dX7_sortOf_107 (by decide) ?_
            refine lv_bipush (v := (118 : Int32)) hx hb dX7_sortOf_109 (by decide) ?_
            refine lv_bipush (v := (101 : Int32)) hx hb dX7_sortOf_111 (by decide) ?_
            refine g_callSl (rest := [.ref (ad 0)]) K hW hl (kX7_w4 (l := l) (G := G) (ad := ad) hok (103 : Int32) (105 : Int32) (118 : Int32) (101 : Int32) I J (fX7_w4 (103 : Int32) (105 : Int32) (118 : Int32) (101 : Int32)) rfl) q_1228 q_1229 q_139 q_1230 nm_X7_w4 ⟨Nat.le_of_ble_eq_true rfl, Nat.le_of_ble_eq_true rfl⟩ rfl rfl (Nat.le_of_ble_eq_true rfl) ⟨Nat.zero_le _, Nat.zero_le _⟩ dX7_sortOf_113 (fun H locs hW => ?_)
            refine g_callVi (rest := []) K hW hl (kX7_isWord (l := l) (G := G) (ad := ad) hok (fX7_w4 (103 : Int32) (105 : Int32) (118 : Int32) (101 : Int32)) I J (fX7_isWord (fX7_w4 (103 : Int32) (105 : Int32) (118 : Int32) (101 : Int32)) I J) rfl) kLM_0 rfl (gG_V q_1237 q_1239 q_58 q_139 q_1240) nm_X7_isWord ⟨Nat.le_of_ble_eq_true rfl, Nat.le_of_ble_eq_true rfl⟩ rfl rfl (Nat.le_of_ble_eq_true rfl) ⟨Nat.zero_le _, Nat.zero_le _⟩ dX7_sortOf_116 (fun z27 H locs hW => ?_)
            obtain ⟨u28, e29, h⟩ := lz_o h
            refine g_nmi e29 ?_
            refine lv_if_eq (tgt := 124) hx hb dX7_sortOf_119 (by decide) (fun c30 => ?_) (fun c30 => ?_)
            · replace h := gi_t h c30
              refine lv_aload_n hx hb dX7_sortOf_124 rfl (lv_at hl 0 rfl) ?_
              refine lv_bipush (v := (116 : Int32)) hx hb dX7_sortOf_125 (by decide) ?_
              refine lv_bipush (v := (117 : Int32)) hx hb dX7_sortOf_127 (by decide) ?_
              refine lv_bipush (v := (114 : Int32)) hx hb dX7_sortOf_129 (by decide) ?_
              refine lv_bipush (v := (110 : Int32)) hx hb dX7_sortOf_131 (by decide) ?_
              refine g_callSl (rest := [.ref (ad 0)]) K hW hl (kX7_w4 (l := l) (G := G) (ad := ad) hok (116 : Int32) (117 : Int32) (114 : Int32) (110 : Int32) I J (fX7_w4 (116 : Int32) (117 : Int32) (114 : Int32) (110 : Int32)) rfl) q_1228 q_1229 q_139 q_1230 nm_X7_w4 ⟨Nat.le_of_ble_eq_true rfl, Nat.le_of_ble_eq_true rfl⟩ rfl rfl (Nat.le_of_ble_eq_true rfl) ⟨Nat.zero_le _, Nat.zero_le _⟩ dX7_sortOf_133 (fun H locs hW => ?_)
              refine g_callVi (rest := []) K hW hl (kX7_isWord (l := l) (G := G) (ad := ad) hok (fX7_w4 (116 : Int32) (117 : Int32) (114 : Int32) (110 : Int32)) I J (fX7_isWord (fX7_w4 (116 : Int32) (117 : Int32) (114 : Int32) (110 : Int32)) I J) rfl) kLM_0 rfl (gG_V q_1237 q_1239 q_58 q_139 q_1240) nm_X7_isWord ⟨Nat.le_of_ble_eq_true rfl, Nat.le_of_ble_eq_true rfl⟩ rfl rfl (Nat.le_of_ble_eq_true rfl) ⟨Nat.zero_le _, Nat.zero_le _⟩ dX7_sortOf_136 (fun z32 H locs hW => ?_)
              obtain ⟨u33, e34, h⟩ := lz_o h
              refine g_nmi e34 ?_
              refine lv_if_eq (tgt := 147) hx hb dX7_sortOf_139 (by decide) (fun c35 => ?_) (fun c35 => ?_)
              · replace h := gi_t h c35
                refine lv_aload_n hx hb dX7_sortOf_147 rfl (lv_at hl 0 rfl) ?_
                refine lv_bipush (v := (100 : Int32)) hx hb dX7_sortOf_148 (by decide) ?_
                refine lv_bipush (v := (97 : Int32)) hx hb dX7_sortOf_150 (by decide) ?_
                refine lv_bipush (v := (121 : Int32)) hx hb dX7_sortOf_152 (by decide) ?_
                refine g_callSl (rest := [.ref (ad 0)]) K hW hl (kX7_w3 (l := l) (G := G) (ad := ad) hok (100 : Int32) (97 : Int32) (121 : Int32) I J (fX7_w3 (100 : Int32) (97 : Int32) (121 : Int32)) rfl) q_1231 q_1232 q_139 q_1233 nm_X7_w3 ⟨Nat.le_of_ble_eq_true rfl, Nat.le_of_ble_eq_true rfl⟩ rfl rfl (Nat.le_of_ble_eq_true rfl) ⟨Nat.zero_le _, Nat.zero_le _⟩ dX7_sortOf_154 (fun H locs hW => ?_)
                refine g_callVi (rest := []) K hW hl (kX7_isWord (l := l) (G := G) (ad := ad) hok (fX7_w3 (100 : Int32) (97 : Int32) (121 : Int32)) I J (fX7_isWord (fX7_w3 (100 : Int32) (97 : Int32) (121 : Int32)) I J) rfl) kLM_0 rfl (gG_V q_1237 q_1239 q_58 q_139 q_1240) nm_X7_isWord ⟨Nat.le_of_ble_eq_true rfl, Nat.le_of_ble_eq_true rfl⟩ rfl rfl (Nat.le_of_ble_eq_true rfl) ⟨Nat.zero_le _, Nat.zero_le _⟩ dX7_sortOf_157 (fun z37 H locs hW => ?_)
                refine lv_if_eq (tgt := 168) hx hb dX7_sortOf_160 (by decide) (fun c38 => ?_) (fun c38 => ?_)
                · replace h := gi_t h c38
                  refine lv_iconst (v := (-1 : Int32)) hx hb dX7_sortOf_168 (by decide) ?_
                  obtain a1 := h.symm
                  exact g_nmi a1 (hfin _ _ _ _ hW dX7_sortOf_169)
                · replace h := gi_f h c38
                  refine lv_bipush (v := (7 : Int32)) hx hb dX7_sortOf_163 (by decide) ?_
                  refine lv_goto (tgt := 169) hx hb dX7_sortOf_165 (by decide) ?_
                  obtain a1 := h.symm
                  exact g_nmi a1 (hfin _ _ _ _ hW dX7_sortOf_169)
              · replace h := gi_f h c35
                refine lv_bipush (v := (6 : Int32)) hx hb dX7_sortOf_142 (by decide) ?_
                refine lv_goto (tgt := 169) hx hb dX7_sortOf_144 (by decide) ?_
                obtain a1 := h.symm
                exact g_nmi a1 (hfin _ _ _ _ hW dX7_sortOf_169)
            · replace h := gi_f h c30
              refine lv_iconst (v := (5 : Int32)) hx hb dX7_sortOf_122 (by decide) ?_
              obtain a1 := h.symm
              exact g_nmi a1 (hfin _ _ _ _ hW dX7_sortOf_123)
          · replace h := gi_f h c25
            refine lv_iconst (v := (4 : Int32)) hx hb dX7_sortOf_102 (by decide) ?_
            obtain a1 := h.symm
            exact g_nmi a1 (hfin _ _ _ _ hW dX7_sortOf_103)
        · replace h := gi_f h c20
          refine lv_iconst (v := (3 : Int32)) hx hb dX7_sortOf_82 (by decide) ?_
          obtain a1 := h.symm
          exact g_nmi a1 (hfin _ _ _ _ hW dX7_sortOf_83)
      · replace h := gi_f h c15
        refine lv_iconst (v := (2 : Int32)) hx hb dX7_sortOf_62 (by decide) ?_
        obtain a1 := h.symm
        exact g_nmi a1 (hfin _ _ _ _ hW dX7_sortOf_63)
    · replace h := gi_f h c10
      refine lv_iconst (v := (1 : Int32)) hx hb dX7_sortOf_40 (by decide) ?_
      obtain a1 := h.symm
      exact g_nmi a1 (hfin _ _ _ _ hW dX7_sortOf_41)
  · replace h := gi_f h c5
    refine lv_iconst (v := (0 : Int32)) hx hb dX7_sortOf_18 (by decide) ?_
    obtain a1 := h.symm
    exact g_nmi a1 (hfin _ _ _ _ hW dX7_sortOf_19)
theorem nm_X7_sortOf : gNm yX7_sortOf 0 := by decide +kernel
theorem nm_X7_body : gNm yX7_body 2 := by decide +kernel
noncomputable def fX7_clause   (I : gI) (J : gJ) : Option (Int32 × gI × gJ) :=
  lz ((fX7_sortOf I J)) (fun (u2 : Int32) => gi (0 ≤ u2)
 (lz (gd (vp_in (I 0 12) 2724) (lz ((I 3 ((I 0 12)).toNatClampNeg)) (fun (u9 : Int32) => gi (u9 = (24 : Int32))
 (some ((6 : Int32), I, J))
 (lz (fun (I12 : gI) => lz (wI I12 0 14 u2) (fun (I16 : gI) => bd (fX7_nextToken I16 J) (pr (fun (I18 : gI) (J19 : gJ) => lz ((((I18 0 12) + (1 : Int32)) + ((3 : Int32) * u9))) (fun (u22 : Int32) => gd (vp_in u22 2724) (lz (wI I18 3 (u22).toNatClampNeg u2) (fun (I26 : gI) => bd (fX7_body u2 u22 I26 J19) (pr (fun (u27 : Int32) => pr (fun (I28 : gI) (J29 : gJ) => gi (u27 = 0)
 (lz ((I28 0 12)) (fun (u33 : Int32) => gd (vp_in u33 2724) (lz (wI I28 3 (u33).toNatClampNeg ((I28 3 (u33).toNatClampNeg) + (1 : Int32))) (fun (I37 : gI) => gi ((I37 0 9) = (59 : Int32))
 (bd (fX7_nextToken I37 J29) (pr (fun (I39 : gI) (J40 : gJ) => some ((0 : Int32), I39, J40))))
 (some ((1 : Int32), I37, J29))))))
 (some (u27, I28, J29)))))))))))) (fun j13 => gi ((1 : Int32) < u2)
 (j13 I)
 (lz (wI I 0 19 ((I 0 19) ||| (jshl (1 : Int32) u2))) (fun (I44 : gI) => j13 I44))))))) (fun j5 => gi ((1 : Int32) < u2)
 (j5)
 (gi ((fX7_has (I 0 19) u2) = 0)
 (j5)
 (some ((4 : Int32), I, J)))))
 (some ((1 : Int32), I, J)))
set_option maxHeartbeats 4000000 in
set_option maxRecDepth 100000 in
theorem kX7_clause {l : Launch} {G : gG} {ad : Nat → Nat} (hok : gInj LM ad)     (I : gI) (J : gJ) (r : Int32) (I' : gI) (J' : gJ) (h : fX7_clause I J = some (r, I', J')) : gMi l yX7_clause cX7_clause 5 (some .int) 10 G LM ad [.ref (ad 0)] I J r True I' J' := by
  refine gMi_of (lst := [(0, .ref (ad 0))]) (by decide) hok (Nat.le_of_ble_eq_true rfl) rfl ?_
  intro p e s m args below meth c Q ls K hW hl hfin
  have hn : (some (r, I', J') : Option (Int32 × gI × gJ)) ≠ none := Option.some_ne_none _
  have hx := K.1; have hb := K.2.1; have hown := K.2.2.2.1; have hts := K.2.2.2.2.1
  unfold fX7_clause at h
  refine lv_aload_n hx hb dX7_clause_0 rfl (lv_at hl 0 rfl) ?_
  refine g_callVi (rest := []) K hW hl (kX7_sortOf (l := l) (G := G) (ad := ad) hok I J (fX7_sortOf I J) rfl) kLM_0 rfl (gG_V q_1224 q_1226 q_57 q_139 q_1227) nm_X7_sortOf ⟨Nat.le_of_ble_eq_true rfl, Nat.le_of_ble_eq_true rfl⟩ rfl rfl (Nat.le_of_ble_eq_true rfl) ⟨Nat.zero_le _, Nat.zero_le _⟩ dX7_clause_1 (fun z1 H locs hW => ?_)
  obtain ⟨u2, e3, h⟩ := lz_o h
  refine g_nmi e3 ?_
  refine lv_istore_n (lv' := [(1, .int u2), (0, .ref (ad 0))]) hx hb dX7_clause_4 rfl hl (by decide) rfl (fun ls hl => ?_)
  refine lv_iload_n hx hb dX7_clause_5 rfl (lv_at hl 0 rfl) ?_
  refine lv_if_ge (tgt := 11) hx hb dX7_clause_6 (by decide) (fun c4 => ?_) (fun c4 => ?_)
  · replace h := gi_t h c4
    refine lv_iload_n hx hb dX7_clause_11 rfl (lv_at hl 0 rfl) ?_
    refine lv_iconst (v := (1 : Int32)) hx hb dX7_clause_12 (by decide) ?_
    obtain ⟨j5, e6, h⟩ := lz_o h
    have hj7 : j5 = (some (r, I', J')) → ∀ (H : Heap) (locs : List Loc), gWd G LM ad (gA LM ad) s.heap I J H locs → ∀ (ls : Array Slot), lv_has ls 5 [(0, .ref (ad 0)), (1, .int u2)] → W p l e (gRm 10) s m args below meth c H locs 0 0 Q (F0 m 29 ls []) := by
      intro h H locs hW ls hl
      replace h := jn0 e6 h
      refine lv_aload_n hx hb dX7_clause_29 rfl (lv_at hl 0 rfl) ?_
      refine g_get K hW (t := 2) (ci := 6) (k := 2) (v := .ref (ad 3)) kLM_0 rfl rfl i_X7 (by decide) q_1079 rfl (gfv2 rLM_0_2) dX7_clause_30 ?_
      refine lv_aload_n hx hb dX7_clause_33 rfl (lv_at hl 0 rfl) ?_
      refine g_get K hW (t := 0) (ci := 6) (k := 12) (v := .int (I 0 12)) kLM_0 rfl rfl i_X7 (by decide) q_1089 rfl rfl dX7_clause_34 ?_
      obtain ⟨g8, h⟩ := gd_o h hn
      refine g_iald K hW kLM_3 g8 rfl dX7_clause_37 ?_
      obtain ⟨u9, e10, h⟩ := lz_o h
      refine g_nmi e10 ?_
      refine lv_istore_n (lv' := [(2, .int u9), (0, .ref (ad 0)), (1, .int u2)]) hx hb dX7_clause_38 rfl hl (by decide) rfl (fun ls hl => ?_)
      refine lv_iload_n hx hb dX7_clause_39 rfl (lv_at hl 0 rfl) ?_
      refine lv_bipush (v := (24 : Int32)) hx hb dX7_clause_40 (by decide) ?_
      refine lv_icmp_ne (tgt := 48) hx hb dX7_clause_42 (by decide) (fun c11 => ?_) (fun c11 => ?_)
      · replace h := gi_f h c11
        refine lv_iload_n hx hb dX7_clause_48 rfl (lv_at hl 2 rfl) ?_
        refine lv_iconst (v := (1 : Int32)) hx hb dX7_clause_49 (by decide) ?_
        obtain ⟨j13, e14, h⟩ := lz_o h
        have hj15 : ∀ (I12 : gI), j13 I12 = (some (r, I', J')) → ∀ (H : Heap) (locs : List Loc), gWd G LM ad (gA LM ad) s.heap I12 J H locs → ∀ (ls : Array Slot), lv_has ls 5 [(0, .ref (ad 0)), (1, .int u2), (2, .int u9)] → W p l e (gRm 10) s m args below meth c H locs 0 0 Q (F0 m 65 ls []) := by
          intro I12 h H locs hW ls hl
          replace h := jn1 e14 h
          refine lv_aload_n hx hb dX7_clause_65 rfl (lv_at hl 0 rfl) ?_
          refine lv_iload_n hx hb dX7_clause_66 rfl (lv_at hl 1 rfl) ?_
          refine g_putI K hW (ci := 6) (k := 14) kLM_0 rfl rfl i_X7 tyX7_ok nmX7 (by decide) q_1091 rfl rfl rfl rfl dX7_clause_67 (fun H locs hW => ?_)
          obtain ⟨I16, e17, h⟩ := lz_o h
          replace hW := gWd_nI e17 hW
          refine lv_aload_n hx hb dX7_clause_70 rfl (lv_at hl 0 rfl) ?_
          obtain ⟨⟨I18, J19⟩, e20, h⟩ := bd_o h hn
          replace h := pr_o h
          refine g_callVv (rest := []) K hW hl (kX7_nextToken (l := l) (G := G) (ad := ad) hok I16 J I18 J19 e20) kLM_0 rfl (gG_V q_1201 q_1203 q_54 q_139 q_1204) nm_X7_nextToken ⟨Nat.le_of_ble_eq_true rfl, Nat.le_of_ble_eq_true rfl⟩ rfl rfl (Nat.le_of_ble_eq_true rfl) ⟨Nat.zero_le _, Nat.zero_le _⟩ dX7_clause_71 (fun H locs hW => ?_)
          refine lv_aload_n hx hb dX7_clause_74 rfl (lv_at hl 0 rfl) ?_
          refine g_get K hW (t := 0) (ci := 6) (k := 12) (v := .int (I18 0 12)) kLM_0 rfl rfl i_X7 (by decide) q_1089 rfl rfl dX7_clause_75 ?_
          refine lv_iconst (v := (1 : Int32)) hx hb dX7_clause_78 (by decide) ?_
          refine lv_iadd hx hb dX7_clause_79 ?_
          refine lv_iconst (v := (3 : Int32)) hx hb dX7_clause_80 (by decide) ?_
          refine lv_iload_n hx hb dX7_clause_81 rfl (lv_at hl 2 rfl) ?_
          refine lv_imul hx hb dX7_clause_82 ?_
          refine lv_iadd hx hb dX7_clause_83 ?_
          obtain ⟨u22, e23, h⟩ := lz_o h
          refine g_nmi e23 ?_
          refine lv_istore_n (lv' := [(3, .int u22), (0, .ref (ad 0)), (1, .int u2), (2, .int u9)]) hx hb dX7_clause_84 rfl hl (by decide) rfl (fun ls hl => ?_)
          refine lv_aload_n hx hb dX7_clause_85 rfl (lv_at hl 1 rfl) ?_
          refine g_get K hW (t := 2) (ci := 6) (k := 2) (v := .ref (ad 3)) kLM_0 rfl rfl i_X7 (by decide) q_1079 rfl (gfv2 rLM_0_2) dX7_clause_86 ?_
          refine lv_iload_n hx hb dX7_clause_89 rfl (lv_at hl 0 rfl) ?_
          refine lv_iload_n hx hb dX7_clause_90 rfl (lv_at hl 2 rfl) ?_
          obtain ⟨g24, h⟩ := gd_o h hn
          refine g_iast K hW kLM_3 g24 rfl dX7_clause_91 (fun H locs hW => ?_)
          obtain ⟨I26, e25, h⟩ := lz_o h
          replace hW := gWd_nI e25 hW
          refine lv_aload_n hx hb dX7_clause_92 rfl (lv_at hl 1 rfl) ?_
          refine lv_iload_n hx hb dX7_clause_93 rfl (lv_at hl 2 rfl) ?_
          refine lv_iload_n hx hb dX7_clause_94 rfl (lv_at hl 0 rfl) ?_
          obtain ⟨⟨u27, I28, J29⟩, e30, h⟩ := bd_o h hn
          replace h := pr_o h
          replace h := pr_o h
          refine g_callVi (rest := []) K hW hl (kX7_body (l := l) (G := G) (ad := ad) hok u2 u22 I26 J19 u27 I28 J29 e30) kLM_0 rfl (gG_V q_1247 q_1249 q_59 q_139 q_1250) nm_X7_body ⟨Nat.le_of_ble_eq_true rfl, Nat.le_of_ble_eq_true rfl⟩ rfl rfl (Nat.le_of_ble_eq_true rfl) ⟨Nat.zero_le _, Nat.zero_le _⟩ dX7_clause_95 (fun z31 H locs hW => ?_)
          refine lv_istore (lv' := [(4, .int u27), (3, .int u22), (0, .ref (ad 0)), (1, .int u2), (2, .int u9)]) hx hb dX7_clause_98 hl (by decide) rfl (fun ls hl => ?_)
          refine lv_iload hx hb dX7_clause_100 (lv_at hl 0 rfl) ?_
          refine lv_if_eq (tgt := 108) hx hb dX7_clause_102 (by decide) (fun c32 => ?_) (fun c32 => ?_)
          · replace h := gi_t h c32
            refine lv_aload_n hx hb dX7_clause_108 rfl (lv_at hl 2 rfl) ?_
            refine g_get K hW (t := 2) (ci := 6) (k := 2) (v := .ref (ad 3)) kLM_0 rfl rfl i_X7 (by decide) q_1079 rfl (gfv2 rLM_0_2) dX7_clause_109 ?_
            refine lv_aload_n hx hb dX7_clause_112 rfl (lv_at hl 2 rfl) ?_
            refine g_get K hW (t := 0) (ci := 6) (k := 12) (v := .int (I28 0 12)) kLM_0 rfl rfl i_X7 (by decide) q_1089 rfl rfl dX7_clause_113 ?_
            obtain ⟨u33, e34, h⟩ := lz_o h
            refine g_nmi e34 ?_
            refine lv_dup2_11 hx hb dX7_clause_116 rfl rfl ?_
            obtain ⟨g35, h⟩ := gd_o h hn
            refine g_iald K hW kLM_3 g35 rfl dX7_clause_117 ?_
            refine lv_iconst (v := (1 : Int32)) hx hb dX7_clause_118 (by decide) ?_
            refine lv_iadd hx hb dX7_clause_119 ?_
            refine g_iast K hW kLM_3 g35 rfl dX7_clause_120 (fun H locs hW => ?_)
            obtain ⟨I37, e36, h⟩ := lz_o h
            replace hW := gWd_nI e36 hW
            refine lv_aload_n hx hb dX7_clause_121 rfl (lv_at hl 2 rfl) ?_
            refine g_get K hW (t := 0) (ci := 6) (k := 9) (v := .int (I37 0 9)) kLM_0 rfl rfl i_X7 (by decide) q_1086 rfl rfl dX7_clause_122 ?_
            refine lv_bipush (v := (59 : Int32)) hx hb dX7_clause_125 (by decide) ?_
            refine lv_icmp_eq (tgt := 132) hx hb dX7_clause_127 (by decide) (fun c38 => ?_) (fun c38 => ?_)
            · replace h := gi_t h c38
              refine lv_aload_n hx hb dX7_clause_132 rfl (lv_at hl 2 rfl) ?_
              obtain ⟨⟨I39, J40⟩, e41, h⟩ := bd_o h hn
              replace h := pr_o h
              refine g_callVv (rest := []) K hW hl (kX7_nextToken (l := l) (G := G) (ad := ad) hok I37 J29 I39 J40 e41) kLM_0 rfl (gG_V q_1201 q_1203 q_54 q_139 q_1204) nm_X7_nextToken ⟨Nat.le_of_ble_eq_true rfl, Nat.le_of_ble_eq_true rfl⟩ rfl rfl (Nat.le_of_ble_eq_true rfl) ⟨Nat.zero_le _, Nat.zero_le _⟩ dX7_clause_133 (fun H locs hW => ?_)
              refine lv_iconst (v := (0 : Int32)) hx hb dX7_clause_136 (by decide) ?_
              obtain ⟨a1, a2, a3⟩ := so3 h
              replace hW := gWd_nI a2 hW
              replace hW := gWd_nJ a3 hW
              exact g_nmi a1 (hfin _ _ _ _ hW dX7_clause_137)
            · replace h := gi_f h c38
              refine lv_iconst (v := (1 : Int32)) hx hb dX7_clause_130 (by decide) ?_
              obtain ⟨a1, a2, a3⟩ := so3 h
              replace hW := gWd_nI a2 hW
              replace hW := gWd_nJ a3 hW
              exact g_nmi a1 (hfin _ _ _ _ hW dX7_clause_131)
          · replace h := gi_f h c32
            refine lv_iload hx hb dX7_clause_105 (lv_at hl 0 rfl) ?_
            obtain ⟨a1, a2, a3⟩ := so3 h
            replace hW := gWd_nI a2 hW
            replace hW := gWd_nJ a3 hW
            exact g_nmi a1 (hfin _ _ _ _ hW dX7_clause_107)
        refine lv_icmp_gt (tgt := 65) hx hb dX7_clause_50 (by decide) (fun c43 => ?_) (fun c43 => ?_)
        · replace h := gi_t h c43
          exact hj15 I h _ _ hW _ (lv_sub hl [1, 2, 0] rfl)
        · replace h := gi_f h c43
          refine lv_aload_n hx hb dX7_clause_53 rfl (lv_at hl 1 rfl) ?_
          refine lv_dup hx hb dX7_clause_54 rfl ?_
          refine g_get K hW (t := 0) (ci := 6) (k := 19) (v := .int (I 0 19)) kLM_0 rfl rfl i_X7 (by decide) q_1096 rfl rfl dX7_clause_55 ?_
          refine lv_iconst (v := (1 : Int32)) hx hb dX7_clause_58 (by decide) ?_
          refine lv_iload_n hx hb dX7_clause_59 rfl (lv_at hl 2 rfl) ?_
          refine g_ishl hx hb dX7_clause_60 ?_
          refine lv_ior hx hb dX7_clause_61 ?_
          refine g_putI K hW (ci := 6) (k := 19) kLM_0 rfl rfl i_X7 tyX7_ok nmX7 (by decide) q_1096 rfl rfl rfl rfl dX7_clause_62 (fun H locs hW => ?_)
          obtain ⟨I44, e45, h⟩ := lz_o h
          replace hW := gWd_nI e45 hW
          exact hj15 I44 h _ _ hW _ (lv_sub hl [1, 2, 0] rfl)
      · replace h := gi_t h c11
        refine lv_bipush (v := (6 : Int32)) hx hb dX7_clause_45 (by decide) ?_
        obtain ⟨a1, a2, a3⟩ := so3 h
        replace hW := gWd_nI a2 hW
        replace hW := gWd_nJ a3 hW
        exact g_nmi a1 (hfin _ _ _ _ hW dX7_clause_47)
    refine lv_icmp_gt (tgt := 29) hx hb dX7_clause_13 (by decide) (fun c46 => ?_) (fun c46 => ?_)
    · replace h := gi_t h c46
      exact hj7 h _ _ hW _ (lv_sub hl [1, 0] rfl)
    · replace h := gi_f h c46
      refine lv_aload_n hx hb dX7_clause_16 rfl (lv_at hl 1 rfl) ?_
      refine g_get K hW (t := 0) (ci := 6) (k := 19) (v := .int (I 0 19)) kLM_0 rfl rfl i_X7 (by decide) q_1096 rfl rfl dX7_clause_17 ?_
      refine lv_iload_n hx hb dX7_clause_20 rfl (lv_at hl 0 rfl) ?_
      refine g_callSi (rest := []) K hW hl (kX7_has (l := l) (G := G) (ad := ad) hok (I 0 19) u2 I J (fX7_has (I 0 19) u2) rfl) q_1244 q_1245 q_139 q_1246 nm_X7_has ⟨Nat.le_of_ble_eq_true rfl, Nat.le_of_ble_eq_true rfl⟩ rfl rfl (Nat.le_of_ble_eq_true rfl) ⟨Nat.zero_le _, Nat.zero_le _⟩ dX7_clause_21 (fun z47 H locs hW => ?_)
      refine lv_if_eq (tgt := 29) hx hb dX7_clause_24 (by decide) (fun c48 => ?_) (fun c48 => ?_)
      · replace h := gi_t h c48
        exact hj7 h _ _ hW _ (lv_sub hl [1, 0] rfl)
      · replace h := gi_f h c48
        refine lv_iconst (v := (4 : Int32)) hx hb dX7_clause_27 (by decide) ?_
        obtain ⟨a1, a2, a3⟩ := so3 h
        replace hW := gWd_nI a2 hW
        replace hW := gWd_nJ a3 hW
        exact g_nmi a1 (hfin _ _ _ _ hW dX7_clause_28)
  · replace h := gi_f h c4
    refine lv_iconst (v := (1 : Int32)) hx hb dX7_clause_9 (by decide) ?_
    obtain ⟨a1, a2, a3⟩ := so3 h
    replace hW := gWd_nI a2 hW
    replace hW := gWd_nJ a3 hW
    exact g_nmi a1 (hfin _ _ _ _ hW dX7_clause_10)
theorem in_1_1592 : vp_in (1 : Int32) 1592 := in_c (by decide +kernel) (by decide +kernel)
theorem tn_1 : (1 : Int32).toNatClampNeg = 1 := by decide +kernel
theorem nm_X7_clause : gNm yX7_clause 0 := by decide +kernel
noncomputable def fX7_readText_43b  (rec : gI → gJ → Option ((Int32 × gI × gJ) ⊕ (gI × gJ))) (I : gI) (J : gJ) : Option ((Int32 × gI × gJ) ⊕ (gI × gJ)) :=
  gi ((I 0 9) = 0)
 (some (Sum.inr (I, J)))
 (bd (fX7_clause I J) (pr (fun (u22 : Int32) => pr (fun (I23 : gI) (J24 : gJ) => gi (u22 = 0)
 (rec I23 J24)
 (some (Sum.inl (u22, I23, J24)))))))
noncomputable def fX7_readText_43  : Nat → gI → gJ → Option ((Int32 × gI × gJ) ⊕ (gI × gJ))
  | 0 => fun _ _ => none
  | n + 1 => fX7_readText_43b  (fX7_readText_43  n)
set_option maxHeartbeats 4000000 in
set_option maxRecDepth 100000 in
theorem tX7_readText_43 {l : Launch} {G : gG} {ad : Nat → Nat} {p : Program} {e : Env} {s : State} {m : MethodId} {args : Array Value} {below : List Frame} {meth : Method} {c : Code} {Q : State → Prop} (hok : gInj LM ad) (K : gCx G (gA LM ad) p s m args c cX7_readText 2 RX7)  : ∀ (n : Nat) (I : gI) (J : gJ) (out : Option ((Int32 × gI × gJ) ⊕ (gI × gJ))), fX7_readText_43  n I J = out → out ≠ none → ∀ (H : Heap) (locs : List Loc), gWd G LM ad (gA LM ad) s.heap I J H locs → ∀ (ls : Array Slot), lv_has ls 2 [(0, .ref (ad 0))] → (∀ (y16 : Int32) (I17 : gI) (J18 : gJ), some (Sum.inl (y16, I17, J18)) = out → ∀ (H : Heap) (locs : List Loc), gWd G LM ad (gA LM ad) s.heap I17 J18 H locs → ∀ (ls : Array Slot), lv_has ls 2 [(1, .int y16)] → W p l e (gRm 11) s m args below meth c H locs 0 0 Q (F0 m 59 ls [])) → (∀ (I19 : gI) (J20 : gJ), some (Sum.inr (I19, J20)) = out → ∀ (H : Heap) (locs : List Loc), gWd G LM ad (gA LM ad) s.heap I19 J20 H locs → ∀ (ls : Array Slot), lv_has ls 2 [] → W p l e (gRm 11) s m args below meth c H locs 0 0 Q (F0 m 64 ls [])) → W p l e (gRm 11) s m args below meth c H locs 0 0 Q (F0 m 43 ls []) := by
  have hx := K.1; have hb := K.2.1; have hown := K.2.2.2.1; have hts := K.2.2.2.2.1
  intro n
  induction n with
  | zero => intro I J out h hn; exact absurd h.symm hn
  | succ n ih =>
    intro I J out h hn H locs hW ls hl hx1 hx2
    replace h : fX7_readText_43b  (fX7_readText_43  n) I J = out := h
    unfold fX7_readText_43b at h
    refine lv_aload_n hx hb dX7_readText_43 rfl (lv_at hl 0 rfl) ?_
    refine g_get K hW (t := 0) (ci := 6) (k := 9) (v := .int (I 0 9)) kLM_0 rfl rfl i_X7 (by decide) q_1086 rfl rfl dX7_readText_44 ?_
    refine lv_if_eq (tgt := 64) hx hb dX7_readText_47 (by decide) (fun c21 => ?_) (fun c21 => ?_)
    · replace h := gi_t h c21
      exact hx2 I J h _ _ hW _ (lv_sub hl [] rfl)
    · replace h := gi_f h c21
      refine lv_aload_n hx hb dX7_readText_50 rfl (lv_at hl 0 rfl) ?_
      obtain ⟨⟨u22, I23, J24⟩, e25, h⟩ := bd_o h hn
      replace h := pr_o h
      replace h := pr_o h
      refine g_callVi (rest := []) K hW hl (kX7_clause (l := l) (G := G) (ad := ad) hok I J u22 I23 J24 e25) kLM_0 rfl (gG_V q_1220 q_1222 q_56 q_139 q_1223) nm_X7_clause ⟨Nat.le_of_ble_eq_true rfl, Nat.le_of_ble_eq_true rfl⟩ rfl rfl (Nat.le_of_ble_eq_true rfl) ⟨Nat.zero_le _, Nat.zero_le _⟩ dX7_readText_51 (fun z26 H locs hW => ?_)
      refine lv_istore_n (lv' := [(1, .int u22), (0, .ref (ad 0))]) hx hb dX7_readText_54 rfl hl (by decide) rfl (fun ls hl => ?_)
      refine lv_iload_n hx hb dX7_readText_55 rfl (lv_at hl 0 rfl) ?_
      refine lv_if_eq (tgt := 61) hx hb dX7_readText_56 (by decide) (fun c27 => ?_) (fun c27 => ?_)
      · replace h := gi_t h c27
        refine lv_goto (tgt := 43) hx hb dX7_readText_61 (by decide) ?_
        exact ih I23 J24 _ h hn _ _ hW _ (lv_sub hl [1] rfl) hx1 hx2
      · replace h := gi_f h c27
        exact hx1 u22 I23 J24 h _ _ hW _ (lv_sub hl [0] rfl)
noncomputable def fX7_readText   (I : gI) (J : gJ) : Option (Int32 × gI × gJ) :=
  lz (wI I 0 12 ((681 : Int32) * (I 1 1))) (fun (I1 : gI) => gd (vp_in (I1 0 12) 2724) (lz (wI I1 3 ((I1 0 12)).toNatClampNeg (0 : Int32)) (fun (I5 : gI) => lz (wI I5 0 13 (0 : Int32)) (fun (I6 : gI) => lz (wI I6 0 19 (0 : Int32)) (fun (I8 : gI) => lz (wI I8 0 7 (0 : Int32)) (fun (I10 : gI) => bd (fX7_nextToken I10 J) (pr (fun (I12 : gI) (J13 : gJ) => bd (fX7_readText_43 FU I12 J13) (sm (pr (fun (u30 : Int32) => (pr (fun (I31 : gI) (J32 : gJ) => some (u30, I31, J32))))) (pr (fun (I34 : gI) (J35 : gJ) => some ((0 : Int32), I34, J35))))))))))))
set_option maxHeartbeats 4000000 in
set_option maxRecDepth 100000 in
theorem kX7_readText {l : Launch} {G : gG} {ad : Nat → Nat} (hok : gInj LM ad)     (I : gI) (J : gJ) (r : Int32) (I' : gI) (J' : gJ) (h : fX7_readText I J = some (r, I', J')) : gMi l yX7_readText cX7_readText 2 (some .int) 11 G LM ad [.ref (ad 0)] I J r True I' J' := by
  refine gMi_of (lst := [(0, .ref (ad 0))]) (by decide) hok (Nat.le_of_ble_eq_true rfl) rfl ?_
  intro p e s m args below meth c Q ls K hW hl hfin
  have hn : (some (r, I', J') : Option (Int32 × gI × gJ)) ≠ none := Option.some_ne_none _
  have hx := K.1; have hb := K.2.1; have hown := K.2.2.2.1; have hts := K.2.2.2.2.1
  unfold fX7_readText at h
  refine lv_aload_n hx hb dX7_readText_0 rfl (lv_at hl 0 rfl) ?_
  refine lv_sipush (v := (681 : Int32)) hx hb dX7_readText_1 (by decide) ?_
  refine lv_aload_n hx hb dX7_readText_4 rfl (lv_at hl 0 rfl) ?_
  refine g_get K hW (t := 2) (ci := 6) (k := 0) (v := .ref (ad 1)) kLM_0 rfl rfl i_X7 (by decide) q_1077 rfl (gfv2 rLM_0_0) dX7_readText_5 ?_
  refine lv_iconst (v := (1 : Int32)) hx hb dX7_readText_8 (by decide) ?_
  refine g_iald K hW kLM_1 in_1_1592 tn_1 dX7_readText_9 ?_
  refine lv_imul hx hb dX7_readText_10 ?_
  refine g_putI K hW (ci := 6) (k := 12) kLM_0 rfl rfl i_X7 tyX7_ok nmX7 (by decide) q_1089 rfl rfl rfl rfl dX7_readText_11 (fun H locs hW => ?_)
  obtain ⟨I1, e2, h⟩ := lz_o h
  replace hW := gWd_nI e2 hW
  refine lv_aload_n hx hb dX7_readText_14 rfl (lv_at hl 0 rfl) ?_
  refine g_get K hW (t := 2) (ci := 6) (k := 2) (v := .ref (ad 3)) kLM_0 rfl rfl i_X7 (by decide) q_1079 rfl (gfv2 rLM_0_2) dX7_readText_15 ?_
  refine lv_aload_n hx hb dX7_readText_18 rfl (lv_at hl 0 rfl) ?_
  refine g_get K hW (t := 0) (ci := 6) (k := 12) (v := .int (I1 0 12)) kLM_0 rfl rfl i_X7 (by decide) q_1089 rfl rfl dX7_readText_19 ?_
  refine lv_iconst (v := (0 : Int32)) hx hb dX7_readText_22 (by decide) ?_
  obtain ⟨g3, h⟩ := gd_o h hn
  refine g_iast K hW kLM_3 g3 rfl dX7_readText_23 (fun H locs hW => ?_)
  obtain ⟨I5, e4, h⟩ := lz_o h
  replace hW := gWd_nI e4 hW
  refine lv_aload_n hx hb dX7_readText_24 rfl (lv_at hl 0 rfl) ?_
  refine lv_iconst (v := (0 : Int32)) hx hb dX7_readText_25 (by decide) ?_
  refine g_putI K hW (ci := 6) (k := 13) kLM_0 rfl rfl i_X7 tyX7_ok nmX7 (by decide) q_1090 rfl rfl rfl rfl dX7_readText_26 (fun H locs hW => ?_)
  obtain ⟨I6, e7, h⟩ := lz_o h
  replace hW := gWd_nI e7 hW
  refine lv_aload_n hx hb dX7_readText_29 rfl (lv_at hl 0 rfl) ?_
  refine lv_iconst (v := (0 : Int32)) hx hb dX7_readText_30 (by decide) ?_
  refine g_putI K hW (ci := 6) (k := 19) kLM_0 rfl rfl i_X7 tyX7_ok nmX7 (by decide) q_1096 rfl rfl rfl rfl dX7_readText_31 (fun H locs hW => ?_)
  obtain ⟨I8, e9, h⟩ := lz_o h
  replace hW := gWd_nI e9 hW
  refine lv_aload_n hx hb dX7_readText_34 rfl (lv_at hl 0 rfl) ?_
  refine lv_iconst (v := (0 : Int32)) hx hb dX7_readText_35 (by decide) ?_
  refine g_putI K hW (ci := 6) (k := 7) kLM_0 rfl rfl i_X7 tyX7_ok nmX7 (by decide) q_1084 rfl rfl rfl rfl dX7_readText_36 (fun H locs hW => ?_)
  obtain ⟨I10, e11, h⟩ := lz_o h
  replace hW := gWd_nI e11 hW
  refine lv_aload_n hx hb dX7_readText_39 rfl (lv_at hl 0 rfl) ?_
  obtain ⟨⟨I12, J13⟩, e14, h⟩ := bd_o h hn
  replace h := pr_o h
  refine g_callVv (rest := []) K hW hl (kX7_nextToken (l := l) (G := G) (ad := ad) hok I10 J I12 J13 e14) kLM_0 rfl (gG_V q_1201 q_1203 q_54 q_139 q_1204) nm_X7_nextToken ⟨Nat.le_of_ble_eq_true rfl, Nat.le_of_ble_eq_true rfl⟩ rfl rfl (Nat.le_of_ble_eq_true rfl) ⟨Nat.zero_le _, Nat.zero_le _⟩ dX7_readText_40 (fun H locs hW => ?_)
  obtain ⟨r28, e29, h⟩ := bd_o h hn
  refine tX7_readText_43 hok K FU I12 J13 (some r28) e29 (Option.some_ne_none _) _ _ hW _ (lv_sub hl [0] rfl) ?_ ?_
  · intro u30 I31 J32 q33 H locs hW ls hl
    replace q33 := Option.some.inj q33
    subst q33
    replace h := sm_l h
    replace h := pr_o h
    replace h := pr_o h
    refine lv_iload_n hx hb dX7_readText_59 rfl (lv_at hl 0 rfl) ?_
    obtain ⟨a1, a2, a3⟩ := so3 h
    replace hW := gWd_nI a2 hW
    replace hW := gWd_nJ a3 hW
    exact g_nmi a1 (hfin _ _ _ _ hW dX7_readText_60)
  · intro I34 J35 q36 H locs hW ls hl
    replace q36 := Option.some.inj q36
    subst q36
    replace h := sm_r h
    replace h := pr_o h
    refine lv_iconst (v := (0 : Int32)) hx hb dX7_readText_64 (by decide) ?_
    obtain ⟨a1, a2, a3⟩ := so3 h
    replace hW := gWd_nI a2 hW
    replace hW := gWd_nJ a3 hW
    exact g_nmi a1 (hfin _ _ _ _ hW dX7_readText_65)
theorem nm_X7_readText : gNm yX7_readText 0 := by decide +kernel
noncomputable def fX7_text   (I : gI) (J : gJ) : Option (Int32 × gI × gJ) :=
  gi ((I 1 1) = (4 : Int32))
 (some ((-1 : Int32), I, J))
 (bd (fX7_readText I J) (pr (fun (u2 : Int32) => pr (fun (I3 : gI) (J4 : gJ) => lz (wI I3 0 5 u2) (fun (I7 : gI) => lz (fun (u9 : Int32) => lz (wI I7 0 6 u9) (fun (I13 : gI) => lz (wI I13 0 4 (0 : Int32)) (fun (I15 : gI) => gi ((I15 0 5) = 0)
 (lz (wI I15 1 1 ((I15 1 1) + (1 : Int32))) (fun (I19 : gI) => some (((I19 1 1) - (1 : Int32)), I19, J4)))
 (some ((-1 : Int32), I15, J4))))) (fun j10 => gi ((I7 0 5) = 0)
 (j10 (-1 : Int32))
 (j10 (I7 0 8))))))))
set_option maxHeartbeats 4000000 in
set_option maxRecDepth 100000 in
theorem kX7_text {l : Launch} {G : gG} {ad : Nat → Nat} (hok : gInj LM ad)     (I : gI) (J : gJ) (r : Int32) (I' : gI) (J' : gJ) (h : fX7_text I J = some (r, I', J')) : gMi l yX7_text cX7_text 1 (some .int) 12 G LM ad [.ref (ad 0)] I J r True I' J' := by
  refine gMi_of (lst := [(0, .ref (ad 0))]) (by decide) hok (Nat.le_of_ble_eq_true rfl) rfl ?_
  intro p e s m args below meth c Q ls K hW hl hfin
  have hn : (some (r, I', J') : Option (Int32 × gI × gJ)) ≠ none := Option.some_ne_none _
  have hx := K.1; have hb := K.2.1; have hown := K.2.2.2.1; have hts := K.2.2.2.2.1
  unfold fX7_text at h
  refine lv_aload_n hx hb dX7_text_0 rfl (lv_at hl 0 rfl) ?_
  refine g_get K hW (t := 2) (ci := 6) (k := 0) (v := .ref (ad 1)) kLM_0 rfl rfl i_X7 (by decide) q_1077 rfl (gfv2 rLM_0_0) dX7_text_1 ?_
  refine lv_iconst (v := (1 : Int32)) hx hb dX7_text_4 (by decide) ?_
  refine g_iald K hW kLM_1 in_1_1592 tn_1 dX7_text_5 ?_
  refine lv_iconst (v := (4 : Int32)) hx hb dX7_text_6 (by decide) ?_
  refine lv_icmp_ne (tgt := 12) hx hb dX7_text_7 (by decide) (fun c1 => ?_) (fun c1 => ?_)
  · replace h := gi_f h c1
    refine lv_aload_n hx hb dX7_text_12 rfl (lv_at hl 0 rfl) ?_
    refine lv_aload_n hx hb dX7_text_13 rfl (lv_at hl 0 rfl) ?_
    obtain ⟨⟨u2, I3, J4⟩, e5, h⟩ := bd_o h hn
    replace h := pr_o h
    replace h := pr_o h
    refine g_callVi (rest := [.ref (ad 0)]) K hW hl (kX7_readText (l := l) (G := G) (ad := ad) hok I J u2 I3 J4 e5) kLM_0 rfl (gG_V q_1197 q_1199 q_53 q_139 q_1200) nm_X7_readText ⟨Nat.le_of_ble_eq_true rfl, Nat.le_of_ble_eq_true rfl⟩ rfl rfl (Nat.le_of_ble_eq_true rfl) ⟨Nat.zero_le _, Nat.zero_le _⟩ dX7_text_14 (fun z6 H locs hW => ?_)
    refine g_putI K hW (ci := 6) (k := 5) kLM_0 rfl rfl i_X7 tyX7_ok nmX7 (by decide) q_1082 rfl rfl rfl rfl dX7_text_17 (fun H locs hW => ?_)
    obtain ⟨I7, e8, h⟩ := lz_o h
    replace hW := gWd_nI e8 hW
    refine lv_aload_n hx hb dX7_text_20 rfl (lv_at hl 0 rfl) ?_
    refine lv_aload_n hx hb dX7_text_21 rfl (lv_at hl 0 rfl) ?_
    refine g_get K hW (t := 0) (ci := 6) (k := 5) (v := .int (I7 0 5)) kLM_0 rfl rfl i_X7 (by decide) q_1082 rfl rfl dX7_text_22 ?_
    obtain ⟨j10, e11, h⟩ := lz_o h
    have hj12 : ∀ (u9 : Int32), j10 u9 = (some (r, I', J')) → ∀ (H : Heap) (locs : List Loc), gWd G LM ad (gA LM ad) s.heap I7 J4 H locs → ∀ (ls : Array Slot), lv_has ls 1 [(0, .ref (ad 0))] → W p l e (gRm 12) s m args below meth c H locs 0 0 Q (F0 m 36 ls [.int u9, .ref (ad 0)]) := by
      intro u9 h H locs hW ls hl
      replace h := jn1 e11 h
      refine g_putI K hW (ci := 6) (k := 6) kLM_0 rfl rfl i_X7 tyX7_ok nmX7 (by decide) q_1083 rfl rfl rfl rfl dX7_text_36 (fun H locs hW => ?_)
      obtain ⟨I13, e14, h⟩ := lz_o h
      replace hW := gWd_nI e14 hW
      refine lv_aload_n hx hb dX7_text_39 rfl (lv_at hl 0 rfl) ?_
      refine lv_iconst (v := (0 : Int32)) hx hb dX7_text_40 (by decide) ?_
      refine g_putI K hW (ci := 6) (k := 4) kLM_0 rfl rfl i_X7 tyX7_ok nmX7 (by decide) q_1081 rfl rfl rfl rfl dX7_text_41 (fun H locs hW => ?_)
      obtain ⟨I15, e16, h⟩ := lz_o h
      replace hW := gWd_nI e16 hW
      refine lv_aload_n hx hb dX7_text_44 rfl (lv_at hl 0 rfl) ?_
      refine g_get K hW (t := 0) (ci := 6) (k := 5) (v := .int (I15 0 5)) kLM_0 rfl rfl i_X7 (by decide) q_1082 rfl rfl dX7_text_45 ?_
      refine lv_if_eq (tgt := 53) hx hb dX7_text_48 (by decide) (fun c17 => ?_) (fun c17 => ?_)
      · replace h := gi_t h c17
        refine lv_aload_n hx hb dX7_text_53 rfl (lv_at hl 0 rfl) ?_
        refine g_get K hW (t := 2) (ci := 6) (k := 0) (v := .ref (ad 1)) kLM_0 rfl rfl i_X7 (by decide) q_1077 rfl (gfv2 rLM_0_0) dX7_text_54 ?_
        refine lv_iconst (v := (1 : Int32)) hx hb dX7_text_57 (by decide) ?_
        refine lv_dup2_11 hx hb dX7_text_58 rfl rfl ?_
        refine g_iald K hW kLM_1 in_1_1592 tn_1 dX7_text_59 ?_
        refine lv_iconst (v := (1 : Int32)) hx hb dX7_text_60 (by decide) ?_
        refine lv_iadd hx hb dX7_text_61 ?_
        refine g_iast K hW kLM_1 in_1_1592 tn_1 dX7_text_62 (fun H locs hW => ?_)
        obtain ⟨I19, e18, h⟩ := lz_o h
        replace hW := gWd_nI e18 hW
        refine lv_aload_n hx hb dX7_text_63 rfl (lv_at hl 0 rfl) ?_
        refine g_get K hW (t := 2) (ci := 6) (k := 0) (v := .ref (ad 1)) kLM_0 rfl rfl i_X7 (by decide) q_1077 rfl (gfv2 rLM_0_0) dX7_text_64 ?_
        refine lv_iconst (v := (1 : Int32)) hx hb dX7_text_67 (by decide) ?_
        refine g_iald K hW kLM_1 in_1_1592 tn_1 dX7_text_68 ?_
        refine lv_iconst (v := (1 : Int32)) hx hb dX7_text_69 (by decide) ?_
        refine lv_isub hx hb dX7_text_70 ?_
        obtain ⟨a1, a2, a3⟩ := so3 h
        replace hW := gWd_nI a2 hW
        replace hW := gWd_nJ a3 hW
        exact g_nmi a1 (hfin _ _ _ _ hW dX7_text_71)
      · replace h := gi_f h c17
        refine lv_iconst (v := (-1 : Int32)) hx hb dX7_text_51 (by decide) ?_
        obtain ⟨a1, a2, a3⟩ := so3 h
        replace hW := gWd_nI a2 hW
        replace hW := gWd_nJ a3 hW
        exact g_nmi a1 (hfin _ _ _ _ hW dX7_text_52)
    refine lv_if_ne (tgt := 32) hx hb dX7_text_25 (by decide) (fun c20 => ?_) (fun c20 => ?_)
    · replace h := gi_f h c20
      refine lv_aload_n hx hb dX7_text_32 rfl (lv_at hl 0 rfl) ?_
      refine g_get K hW (t := 0) (ci := 6) (k := 8) (v := .int (I7 0 8)) kLM_0 rfl rfl i_X7 (by decide) q_1085 rfl rfl dX7_text_33 ?_
      exact hj12 (I7 0 8) h _ _ hW _ (lv_sub hl [0] rfl)
    · replace h := gi_t h c20
      refine lv_iconst (v := (-1 : Int32)) hx hb dX7_text_28 (by decide) ?_
      refine lv_goto (tgt := 36) hx hb dX7_text_29 (by decide) ?_
      exact hj12 (-1 : Int32) h _ _ hW _ (lv_sub hl [0] rfl)
  · replace h := gi_t h c1
    refine lv_iconst (v := (-1 : Int32)) hx hb dX7_text_10 (by decide) ?_
    obtain ⟨a1, a2, a3⟩ := so3 h
    replace hW := gWd_nI a2 hW
    replace hW := gWd_nJ a3 hW
    exact g_nmi a1 (hfin _ _ _ _ hW dX7_text_11)
noncomputable def fX7_fault  (x1 : Int32) (I : gI) : Int32 :=
  gi (x1 = 0)
 ((I 0 5))
 (gi (x1 = (1 : Int32))
 ((I 0 6))
 ((-1 : Int32)))
set_option maxHeartbeats 4000000 in
set_option maxRecDepth 100000 in
theorem kX7_fault {l : Launch} {G : gG} {ad : Nat → Nat} (hok : gInj LM ad)    (x1 : Int32) (I : gI) (J : gJ) (r : Int32) (h : fX7_fault x1 I = r) : gMi l yX7_fault cX7_fault 2 (some .int) 1 G LM ad [.ref (ad 0), .int x1] I J r True I J := by
  refine gMi_of (lst := [(0, .ref (ad 0)), (1, .int x1)]) (by decide) hok (Nat.le_of_ble_eq_true rfl) rfl ?_
  intro p e s m args below meth c Q ls K hW hl hfin
  have hx := K.1; have hb := K.2.1; have hown := K.2.2.2.1; have hts := K.2.2.2.2.1
  unfold fX7_fault at h
  refine lv_iload_n hx hb dX7_fault_0 rfl (lv_at hl 1 rfl) ?_
  refine lv_if_ne (tgt := 11) hx hb dX7_fault_1 (by decide) (fun c1 => ?_) (fun c1 => ?_)
  · replace h := gi_f h c1
    refine lv_iload_n hx hb dX7_fault_11 rfl (lv_at hl 1 rfl) ?_
    refine lv_iconst (v := (1 : Int32)) hx hb dX7_fault_12 (by decide) ?_
    refine lv_icmp_ne (tgt := 23) hx hb dX7_fault_13 (by decide) (fun c2 => ?_) (fun c2 => ?_)
    · replace h := gi_f h c2
      refine lv_iconst (v := (-1 : Int32)) hx hb dX7_fault_23 (by decide) ?_
      obtain a1 := h.symm
      exact g_nmi a1 (hfin _ _ _ _ hW dX7_fault_24)
    · replace h := gi_t h c2
      refine lv_aload_n hx hb dX7_fault_16 rfl (lv_at hl 0 rfl) ?_
      refine g_get K hW (t := 0) (ci := 6) (k := 6) (v := .int (I 0 6)) kLM_0 rfl rfl i_X7 (by decide) q_1083 rfl rfl dX7_fault_17 ?_
      refine lv_goto (tgt := 24) hx hb dX7_fault_20 (by decide) ?_
      obtain a1 := h.symm
      exact g_nmi a1 (hfin _ _ _ _ hW dX7_fault_24)
  · replace h := gi_t h c1
    refine lv_aload_n hx hb dX7_fault_4 rfl (lv_at hl 0 rfl) ?_
    refine g_get K hW (t := 0) (ci := 6) (k := 5) (v := .int (I 0 5)) kLM_0 rfl rfl i_X7 (by decide) q_1082 rfl rfl dX7_fault_5 ?_
    refine lv_goto (tgt := 24) hx hb dX7_fault_8 (by decide) ?_
    obtain a1 := h.symm
    exact g_nmi a1 (hfin _ _ _ _ hW dX7_fault_24)
theorem in_2_1592 : vp_in (2 : Int32) 1592 := in_c (by decide +kernel) (by decide +kernel)
theorem tn_2 : (2 : Int32).toNatClampNeg = 2 := by decide +kernel
noncomputable def fX7_by  (x1 : Int32) (I : gI) : Int32 × gI :=
  gi ((fX7_isIn x1 (-1 : Int32) ((I 1 1) - (1 : Int32))) = 0)
 (((0 : Int32), I))
 (lz (wI I 1 2 x1) (fun (I4 : gI) => ((1 : Int32), I4)))
set_option maxHeartbeats 4000000 in
set_option maxRecDepth 100000 in
theorem kX7_by {l : Launch} {G : gG} {ad : Nat → Nat} (hok : gInj LM ad)    (x1 : Int32) (I : gI) (J : gJ) (r : Int32) (I' : gI) (h : fX7_by x1 I = (r, I')) : gMi l yX7_by cX7_by 2 (some .boolean) 2 G LM ad [.ref (ad 0), .int x1] I J r (r = 0 ∨ r = 1) I' J := by
  refine gMz_of (lst := [(0, .ref (ad 0)), (1, .int x1)]) (by decide) hok (Nat.le_of_ble_eq_true rfl) rfl ?_
  intro p e s m args below meth c Q ls K hW hl hfin
  have hx := K.1; have hb := K.2.1; have hown := K.2.2.2.1; have hts := K.2.2.2.2.1
  unfold fX7_by at h
  refine lv_iload_n hx hb dX7_by_0 rfl (lv_at hl 1 rfl) ?_
  refine lv_iconst (v := (-1 : Int32)) hx hb dX7_by_1 (by decide) ?_
  refine lv_aload_n hx hb dX7_by_2 rfl (lv_at hl 0 rfl) ?_
  refine g_get K hW (t := 2) (ci := 6) (k := 0) (v := .ref (ad 1)) kLM_0 rfl rfl i_X7 (by decide) q_1077 rfl (gfv2 rLM_0_0) dX7_by_3 ?_
  refine lv_iconst (v := (1 : Int32)) hx hb dX7_by_6 (by decide) ?_
  refine g_iald K hW kLM_1 in_1_1592 tn_1 dX7_by_7 ?_
  refine lv_iconst (v := (1 : Int32)) hx hb dX7_by_8 (by decide) ?_
  refine lv_isub hx hb dX7_by_9 ?_
  refine g_callSi (rest := []) K hW hl (kX7_isIn (l := l) (G := G) (ad := ad) hok x1 (-1 : Int32) ((I 1 1) - (1 : Int32)) I J (fX7_isIn x1 (-1 : Int32) ((I 1 1) - (1 : Int32))) rfl) q_1171 q_1172 q_139 q_1173 nm_X7_isIn ⟨Nat.le_of_ble_eq_true rfl, Nat.le_of_ble_eq_true rfl⟩ rfl rfl (Nat.le_of_ble_eq_true rfl) ⟨Nat.zero_le _, Nat.zero_le _⟩ dX7_by_10 (fun z1 H locs hW => ?_)
  refine lv_if_ne (tgt := 18) hx hb dX7_by_13 (by decide) (fun c2 => ?_) (fun c2 => ?_)
  · replace h := gi_f h c2
    refine lv_aload_n hx hb dX7_by_18 rfl (lv_at hl 0 rfl) ?_
    refine g_get K hW (t := 2) (ci := 6) (k := 0) (v := .ref (ad 1)) kLM_0 rfl rfl i_X7 (by decide) q_1077 rfl (gfv2 rLM_0_0) dX7_by_19 ?_
    refine lv_iconst (v := (2 : Int32)) hx hb dX7_by_22 (by decide) ?_
    refine lv_iload_n hx hb dX7_by_23 rfl (lv_at hl 1 rfl) ?_
    refine g_iast K hW kLM_1 in_2_1592 tn_2 dX7_by_24 (fun H locs hW => ?_)
    obtain ⟨I4, e3, h⟩ := lz_o h
    replace hW := gWd_nI e3 hW
    refine lv_iconst (v := (1 : Int32)) hx hb dX7_by_25 (by decide) ?_
    obtain ⟨a1, a2⟩ := to2 h
    replace hW := gWd_nI a2 hW
    exact g_nmi a1 (hfin _ _ _ _ (a1 ▸ (Or.inr rfl)) hW dX7_by_26)
  · replace h := gi_t h c2
    refine lv_iconst (v := (0 : Int32)) hx hb dX7_by_16 (by decide) ?_
    obtain ⟨a1, a2⟩ := to2 h
    replace hW := gWd_nI a2 hW
    exact g_nmi a1 (hfin _ _ _ _ (a1 ▸ (Or.inl rfl)) hW dX7_by_17)
noncomputable def fX7_clip  (x0 : Int64)  : Int64 :=
  gi ((lg_cmp x0 (1000000 : Int64)) ≤ 0)
 (gi (0 ≤ (lg_cmp x0 (-1000000 : Int64)))
 (x0)
 ((-1000000 : Int64)))
 ((1000000 : Int64))
set_option maxHeartbeats 4000000 in
set_option maxRecDepth 100000 in
theorem kX7_clip {l : Launch} {G : gG} {ad : Nat → Nat} (hok : gInj LM ad)    (x0 : Int64) (I : gI) (J : gJ) (r : Int64) (h : fX7_clip x0 = r) : gMl l yX7_clip cX7_clip 2 (some .long) 1 G LM ad [.long x0] I J r I J := by
  refine gMl_of (lst := [(0, .long x0)]) (by decide) hok (Nat.le_of_ble_eq_true rfl) rfl ?_
  intro p e s m args below meth c Q ls K hW hl hfin
  have hx := K.1; have hb := K.2.1; have hown := K.2.2.2.1; have hts := K.2.2.2.2.1
  unfold fX7_clip at h
  refine lv_lload_n hx hb dX7_clip_0 rfl (lv_at hl 0 rfl) ?_
  refine lv_ldc2 (v := (1000000 : Int64)) hx hb hown (hts _ q_1412) dX7_clip_1 ?_
  refine W.lcmp hx hb dX7_clip_4 ?_
  refine lv_if_le (tgt := 14) hx hb dX7_clip_5 (by decide) (fun c1 => ?_) (fun c1 => ?_)
  · replace h := gi_t h c1
    refine lv_lload_n hx hb dX7_clip_14 rfl (lv_at hl 0 rfl) ?_
    refine lv_ldc2 (v := (-1000000 : Int64)) hx hb hown (hts _ q_1413) dX7_clip_15 ?_
    refine W.lcmp hx hb dX7_clip_18 ?_
    refine lv_if_ge (tgt := 28) hx hb dX7_clip_19 (by decide) (fun c2 => ?_) (fun c2 => ?_)
    · replace h := gi_t h c2
      refine lv_lload_n hx hb dX7_clip_28 rfl (lv_at hl 0 rfl) ?_
      obtain a1 := h.symm
      exact g_nml a1 (hfin _ _ _ _ hW dX7_clip_29)
    · replace h := gi_f h c2
      refine lv_ldc2 (v := (-1000000 : Int64)) hx hb hown (hts _ q_1413) dX7_clip_22 ?_
      refine lv_goto (tgt := 29) hx hb dX7_clip_25 (by decide) ?_
      obtain a1 := h.symm
      exact g_nml a1 (hfin _ _ _ _ hW dX7_clip_29)
  · replace h := gi_f h c1
    refine lv_ldc2 (v := (1000000 : Int64)) hx hb hown (hts _ q_1412) dX7_clip_8 ?_
    refine lv_goto (tgt := 29) hx hb dX7_clip_11 (by decide) ?_
    obtain a1 := h.symm
    exact g_nml a1 (hfin _ _ _ _ hW dX7_clip_29)
theorem nm_X7_clip : gNm yX7_clip 1 := by decide +kernel
noncomputable def fX7_two  (x0 : Int32) (x1 : Int64) (x3 : Int64)  : Option (Int64) :=
  gi (x0 = (6 : Int32))
 (some (fX7_clip (x1 + x3)))
 (gi (x0 = (7 : Int32))
 (some (fX7_clip (x1 - x3)))
 (gi (x0 = (8 : Int32))
 (some (fX7_clip (x1 * x3)))
 (gi ((lg_cmp x3 (0 : Int64)) = 0)
 (some (0 : Int64))
 (gd (¬ x3 = 0) (some (fX7_clip (x1 / x3)))))))
set_option maxHeartbeats 4000000 in
set_option maxRecDepth 100000 in
theorem kX7_two {l : Launch} {G : gG} {ad : Nat → Nat} (hok : gInj LM ad)    (x0 : Int32) (x1 : Int64) (x3 : Int64) (I : gI) (J : gJ) (r : Int64) (h : fX7_two x0 x1 x3 = some r) : gMl l yX7_two cX7_two 5 (some .long) 2 G LM ad [.int x0, .long x1, .long x3] I J r I J := by
  refine gMl_of (lst := [(0, .int x0), (1, .long x1), (3, .long x3)]) (by decide) hok (Nat.le_of_ble_eq_true rfl) rfl ?_
  intro p e s m args below meth c Q ls K hW hl hfin
  have hn : (some r : Option (Int64)) ≠ none := Option.some_ne_none _
  have hx := K.1; have hb := K.2.1; have hown := K.2.2.2.1; have hts := K.2.2.2.2.1
  unfold fX7_two at h
  refine lv_iload_n hx hb dX7_two_0 rfl (lv_at hl 0 rfl) ?_
  rcases Classical.em (x0 = (6 : Int32)) with c1 | c1
  · replace h := gi_t h c1
    refine g_tabIn (k := (6 : Int32)) (tgt := 28) (off := 27) hx hb c1 dX7_two_1 (by decide) (by decide) (by decide) (by decide) ?_
    refine lv_lload_n hx hb dX7_two_28 rfl (lv_at hl 1 rfl) ?_
    refine lv_lload_n hx hb dX7_two_29 rfl (lv_at hl 2 rfl) ?_
    refine lv_ladd hx hb dX7_two_30 ?_
    refine g_callSl (rest := []) K hW hl (kX7_clip (l := l) (G := G) (ad := ad) hok (x1 + x3) I J (fX7_clip (x1 + x3)) rfl) q_1409 q_1410 q_139 q_1411 nm_X7_clip ⟨Nat.le_of_ble_eq_true rfl, Nat.le_of_ble_eq_true rfl⟩ rfl rfl (Nat.le_of_ble_eq_true rfl) ⟨Nat.zero_le _, Nat.zero_le _⟩ dX7_two_31 (fun H locs hW => ?_)
    obtain a1 := so1 h
    exact g_nml a1 (hfin _ _ _ _ hW dX7_two_34)
  · replace h := gi_f h c1
    rcases Classical.em (x0 = (7 : Int32)) with c3 | c3
    · replace h := gi_t h c3
      refine g_tabIn (k := (7 : Int32)) (tgt := 35) (off := 34) hx hb c3 dX7_two_1 (by decide) (by decide) (by decide) (by decide) ?_
      refine lv_lload_n hx hb dX7_two_35 rfl (lv_at hl 1 rfl) ?_
      refine lv_lload_n hx hb dX7_two_36 rfl (lv_at hl 2 rfl) ?_
      refine lv_lsub hx hb dX7_two_37 ?_
      refine g_callSl (rest := []) K hW hl (kX7_clip (l := l) (G := G) (ad := ad) hok (x1 - x3) I J (fX7_clip (x1 - x3)) rfl) q_1409 q_1410 q_139 q_1411 nm_X7_clip ⟨Nat.le_of_ble_eq_true rfl, Nat.le_of_ble_eq_true rfl⟩ rfl rfl (Nat.le_of_ble_eq_true rfl) ⟨Nat.zero_le _, Nat.zero_le _⟩ dX7_two_38 (fun H locs hW => ?_)
      obtain a1 := so1 h
      exact g_nml a1 (hfin _ _ _ _ hW dX7_two_41)
    · replace h := gi_f h c3
      rcases Classical.em (x0 = (8 : Int32)) with c5 | c5
      · replace h := gi_t h c5
        refine g_tabIn (k := (8 : Int32)) (tgt := 42) (off := 41) hx hb c5 dX7_two_1 (by decide) (by decide) (by decide) (by decide) ?_
        refine lv_lload_n hx hb dX7_two_42 rfl (lv_at hl 1 rfl) ?_
        refine lv_lload_n hx hb dX7_two_43 rfl (lv_at hl 2 rfl) ?_
        refine lv_lmul hx hb dX7_two_44 ?_
        refine g_callSl (rest := []) K hW hl (kX7_clip (l := l) (G := G) (ad := ad) hok (x1 * x3) I J (fX7_clip (x1 * x3)) rfl) q_1409 q_1410 q_139 q_1411 nm_X7_clip ⟨Nat.le_of_ble_eq_true rfl, Nat.le_of_ble_eq_true rfl⟩ rfl rfl (Nat.le_of_ble_eq_true rfl) ⟨Nat.zero_le _, Nat.zero_le _⟩ dX7_two_45 (fun H locs hW => ?_)
        obtain a1 := so1 h
        exact g_nml a1 (hfin _ _ _ _ hW dX7_two_48)
      · replace h := gi_f h c5
        refine lv_tableOut (tgt := 49) hx hb dX7_two_1 (by have := lv_neT (a := 6) c1 (by decide); have := lv_neT (a := 7) c3 (by decide); have := lv_neT (a := 8) c5 (by decide); omega) (by decide) ?_
        refine lv_lload_n hx hb dX7_two_49 rfl (lv_at hl 2 rfl) ?_
        refine lv_lconst (v := (0 : Int64)) hx hb dX7_two_50 rfl ?_
        refine W.lcmp hx hb dX7_two_51 ?_
        refine lv_if_ne (tgt := 59) hx hb dX7_two_52 (by decide) (fun c7 => ?_) (fun c7 => ?_)
        · replace h := gi_f h c7
          refine lv_lload_n hx hb dX7_two_59 rfl (lv_at hl 1 rfl) ?_
          refine lv_lload_n hx hb dX7_two_60 rfl (lv_at hl 2 rfl) ?_
          obtain ⟨g8, h⟩ := gd_o h hn
          refine lv_ldiv hx hb dX7_two_61 g8 ?_
          refine g_callSl (rest := []) K hW hl (kX7_clip (l := l) (G := G) (ad := ad) hok (x1 / x3) I J (fX7_clip (x1 / x3)) rfl) q_1409 q_1410 q_139 q_1411 nm_X7_clip ⟨Nat.le_of_ble_eq_true rfl, Nat.le_of_ble_eq_true rfl⟩ rfl rfl (Nat.le_of_ble_eq_true rfl) ⟨Nat.zero_le _, Nat.zero_le _⟩ dX7_two_62 (fun H locs hW => ?_)
          obtain a1 := so1 h
          exact g_nml a1 (hfin _ _ _ _ hW dX7_two_65)
        · replace h := gi_t h c7
          refine lv_lconst (v := (0 : Int64)) hx hb dX7_two_55 rfl ?_
          refine lv_goto (tgt := 65) hx hb dX7_two_56 (by decide) ?_
          obtain a1 := so1 h
          exact g_nml a1 (hfin _ _ _ _ hW dX7_two_65)
noncomputable def fX7_isAsked  (x0 : Int32) (x1 : Int64) (x3 : Int64)  : Int32 :=
  gi (x0 = (10 : Int32))
 (gi (0 ≤ (lg_cmp x1 x3))
 ((0 : Int32))
 ((1 : Int32)))
 (gi (x0 = (11 : Int32))
 (gi (0 < (lg_cmp x1 x3))
 ((0 : Int32))
 ((1 : Int32)))
 (gi (x0 = (12 : Int32))
 (gi ((lg_cmp x1 x3) ≤ 0)
 ((0 : Int32))
 ((1 : Int32)))
 (gi (x0 = (13 : Int32))
 (gi ((lg_cmp x1 x3) < 0)
 ((0 : Int32))
 ((1 : Int32)))
 (gi (x0 = (14 : Int32))
 (gi ((lg_cmp x1 x3) = 0)
 ((1 : Int32))
 ((0 : Int32)))
 (gi ((lg_cmp x1 x3) = 0)
 ((0 : Int32))
 ((1 : Int32)))))))
set_option maxHeartbeats 4000000 in
set_option maxRecDepth 100000 in
theorem kX7_isAsked {l : Launch} {G : gG} {ad : Nat → Nat} (hok : gInj LM ad)    (x0 : Int32) (x1 : Int64) (x3 : Int64) (I : gI) (J : gJ) (r : Int32) (h : fX7_isAsked x0 x1 x3 = r) : gMi l yX7_isAsked cX7_isAsked 5 (some .boolean) 1 G LM ad [.int x0, .long x1, .long x3] I J r (r = 0 ∨ r = 1) I J := by
  refine gMz_of (lst := [(0, .int x0), (1, .long x1), (3, .long x3)]) (by decide) hok (Nat.le_of_ble_eq_true rfl) rfl ?_
  intro p e s m args below meth c Q ls K hW hl hfin
  have hx := K.1; have hb := K.2.1; have hown := K.2.2.2.1; have hts := K.2.2.2.2.1
  unfold fX7_isAsked at h
  refine lv_iload_n hx hb dX7_isAsked_0 rfl (lv_at hl 0 rfl) ?_
  refine lv_bipush (v := (10 : Int32)) hx hb dX7_isAsked_1 (by decide) ?_
  refine lv_icmp_ne (tgt := 20) hx hb dX7_isAsked_3 (by decide) (fun c1 => ?_) (fun c1 => ?_)
  · replace h := gi_f h c1
    refine lv_iload_n hx hb dX7_isAsked_20 rfl (lv_at hl 0 rfl) ?_
    refine lv_bipush (v := (11 : Int32)) hx hb dX7_isAsked_21 (by decide) ?_
    refine lv_icmp_ne (tgt := 40) hx hb dX7_isAsked_23 (by decide) (fun c2 => ?_) (fun c2 => ?_)
    · replace h := gi_f h c2
      refine lv_iload_n hx hb dX7_isAsked_40 rfl (lv_at hl 0 rfl) ?_
      refine lv_bipush (v := (12 : Int32)) hx hb dX7_isAsked_41 (by decide) ?_
      refine lv_icmp_ne (tgt := 60) hx hb dX7_isAsked_43 (by decide) (fun c3 => ?_) (fun c3 => ?_)
      · replace h := gi_f h c3
        refine lv_iload_n hx hb dX7_isAsked_60 rfl (lv_at hl 0 rfl) ?_
        refine lv_bipush (v := (13 : Int32)) hx hb dX7_isAsked_61 (by decide) ?_
        refine lv_icmp_ne (tgt := 80) hx hb dX7_isAsked_63 (by decide) (fun c4 => ?_) (fun c4 => ?_)
        · replace h := gi_f h c4
          refine lv_iload_n hx hb dX7_isAsked_80 rfl (lv_at hl 0 rfl) ?_
          refine lv_bipush (v := (14 : Int32)) hx hb dX7_isAsked_81 (by decide) ?_
          refine lv_icmp_ne (tgt := 100) hx hb dX7_isAsked_83 (by decide) (fun c5 => ?_) (fun c5 => ?_)
          · replace h := gi_f h c5
            refine lv_lload_n hx hb dX7_isAsked_100 rfl (lv_at hl 1 rfl) ?_
            refine lv_lload_n hx hb dX7_isAsked_101 rfl (lv_at hl 2 rfl) ?_
            refine W.lcmp hx hb dX7_isAsked_102 ?_
            refine lv_if_eq (tgt := 110) hx hb dX7_isAsked_103 (by decide) (fun c6 => ?_) (fun c6 => ?_)
            · replace h := gi_t h c6
              refine lv_iconst (v := (0 : Int32)) hx hb dX7_isAsked_110 (by decide) ?_
              obtain a1 := h.symm
              exact g_nmi a1 (hfin _ _ _ _ (a1 ▸ (Or.inl rfl)) hW dX7_isAsked_111)
            · replace h := gi_f h c6
              refine lv_iconst (v := (1 : Int32)) hx hb dX7_isAsked_106 (by decide) ?_
              refine lv_goto (tgt := 111) hx hb dX7_isAsked_107 (by decide) ?_
              obtain a1 := h.symm
              exact g_nmi a1 (hfin _ _ _ _ (a1 ▸ (Or.inr rfl)) hW dX7_isAsked_111)
          · replace h := gi_t h c5
            refine lv_lload_n hx hb dX7_isAsked_86 rfl (lv_at hl 1 rfl) ?_
            refine lv_lload_n hx hb dX7_isAsked_87 rfl (lv_at hl 2 rfl) ?_
            refine W.lcmp hx hb dX7_isAsked_88 ?_
            refine lv_if_ne (tgt := 96) hx hb dX7_isAsked_89 (by decide) (fun c7 => ?_) (fun c7 => ?_)
            · replace h := gi_f h c7
              refine lv_iconst (v := (0 : Int32)) hx hb dX7_isAsked_96 (by decide) ?_
              refine lv_goto (tgt := 111) hx hb dX7_isAsked_97 (by decide) ?_
              obtain a1 := h.symm
              exact g_nmi a1 (hfin _ _ _ _ (a1 ▸ (Or.inl rfl)) hW dX7_isAsked_111)
            · replace h := gi_t h c7
              refine lv_iconst (v := (1 : Int32)) hx hb dX7_isAsked_92 (by decide) ?_
              refine lv_goto (tgt := 111) hx hb dX7_isAsked_93 (by decide) ?_
              obtain a1 := h.symm
              exact g_nmi a1 (hfin _ _ _ _ (a1 ▸ (Or.inr rfl)) hW dX7_isAsked_111)
        · replace h := gi_t h c4
          refine lv_lload_n hx hb dX7_isAsked_66 rfl (lv_at hl 1 rfl) ?_
          refine lv_lload_n hx hb dX7_isAsked_67 rfl (lv_at hl 2 rfl) ?_
          refine W.lcmp hx hb dX7_isAsked_68 ?_
          refine lv_if_lt (tgt := 76) hx hb dX7_isAsked_69 (by decide) (fun c8 => ?_) (fun c8 => ?_)
          · replace h := gi_t h c8
            refine lv_iconst (v := (0 : Int32)) hx hb dX7_isAsked_76 (by decide) ?_
            refine lv_goto (tgt := 111) hx hb dX7_isAsked_77 (by decide) ?_
            obtain a1 := h.symm
            exact g_nmi a1 (hfin _ _ _ _ (a1 ▸ (Or.inl rfl)) hW dX7_isAsked_111)
          · replace h := gi_f h c8
            refine lv_iconst (v := (1 : Int32)) hx hb dX7_isAsked_72 (by decide) ?_
            refine lv_goto (tgt := 111) hx hb dX7_isAsked_73 (by decide) ?_
            obtain a1 := h.symm
            exact g_nmi a1 (hfin _ _ _ _ (a1 ▸ (Or.inr rfl)) hW dX7_isAsked_111)
      · replace h := gi_t h c3
        refine lv_lload_n hx hb dX7_isAsked_46 rfl (lv_at hl 1 rfl) ?_
        refine lv_lload_n hx hb dX7_isAsked_47 rfl (lv_at hl 2 rfl) ?_
        refine W.lcmp hx hb dX7_isAsked_48 ?_
        refine lv_if_le (tgt := 56) hx hb dX7_isAsked_49 (by decide) (fun c9 => ?_) (fun c9 => ?_)
        · replace h := gi_t h c9
          refine lv_iconst (v := (0 : Int32)) hx hb dX7_isAsked_56 (by decide) ?_
          refine lv_goto (tgt := 111) hx hb dX7_isAsked_57 (by decide) ?_
          obtain a1 := h.symm
          exact g_nmi a1 (hfin _ _ _ _ (a1 ▸ (Or.inl rfl)) hW dX7_isAsked_111)
        · replace h := gi_f h c9
          refine lv_iconst (v := (1 : Int32)) hx hb dX7_isAsked_52 (by decide) ?_
          refine lv_goto (tgt := 111) hx hb dX7_isAsked_53 (by decide) ?_
          obtain a1 := h.symm
          exact g_nmi a1 (hfin _ _ _ _ (a1 ▸ (Or.inr rfl)) hW dX7_isAsked_111)
    · replace h := gi_t h c2
      refine lv_lload_n hx hb dX7_isAsked_26 rfl (lv_at hl 1 rfl) ?_
      refine lv_lload_n hx hb dX7_isAsked_27 rfl (lv_at hl 2 rfl) ?_
      refine W.lcmp hx hb dX7_isAsked_28 ?_
      refine lv_if_gt (tgt := 36) hx hb dX7_isAsked_29 (by decide) (fun c10 => ?_) (fun c10 => ?_)
      · replace h := gi_t h c10
        refine lv_iconst (v := (0 : Int32)) hx hb dX7_isAsked_36 (by decide) ?_
        refine lv_goto (tgt := 111) hx hb dX7_isAsked_37 (by decide) ?_
        obtain a1 := h.symm
        exact g_nmi a1 (hfin _ _ _ _ (a1 ▸ (Or.inl rfl)) hW dX7_isAsked_111)
      · replace h := gi_f h c10
        refine lv_iconst (v := (1 : Int32)) hx hb dX7_isAsked_32 (by decide) ?_
        refine lv_goto (tgt := 111) hx hb dX7_isAsked_33 (by decide) ?_
        obtain a1 := h.symm
        exact g_nmi a1 (hfin _ _ _ _ (a1 ▸ (Or.inr rfl)) hW dX7_isAsked_111)
  · replace h := gi_t h c1
    refine lv_lload_n hx hb dX7_isAsked_6 rfl (lv_at hl 1 rfl) ?_
    refine lv_lload_n hx hb dX7_isAsked_7 rfl (lv_at hl 2 rfl) ?_
    refine W.lcmp hx hb dX7_isAsked_8 ?_
    refine lv_if_ge (tgt := 16) hx hb dX7_isAsked_9 (by decide) (fun c11 => ?_) (fun c11 => ?_)
    · replace h := gi_t h c11
      refine lv_iconst (v := (0 : Int32)) hx hb dX7_isAsked_16 (by decide) ?_
      refine lv_goto (tgt := 111) hx hb dX7_isAsked_17 (by decide) ?_
      obtain a1 := h.symm
      exact g_nmi a1 (hfin _ _ _ _ (a1 ▸ (Or.inl rfl)) hW dX7_isAsked_111)
    · replace h := gi_f h c11
      refine lv_iconst (v := (1 : Int32)) hx hb dX7_isAsked_12 (by decide) ?_
      refine lv_goto (tgt := 111) hx hb dX7_isAsked_13 (by decide) ?_
      obtain a1 := h.symm
      exact g_nmi a1 (hfin _ _ _ _ (a1 ▸ (Or.inr rfl)) hW dX7_isAsked_111)
noncomputable def fX7_ofOne  (x1 : Int32) (x2 : Int64) (I : gI) : Option (Int64) :=
  gi (x1 = (5 : Int32))
 (some (-x2))
 (gi (x1 = (2 : Int32))
 (gi ((lg_cmp x2 (0 : Int64)) < 0)
 (some (0 : Int64))
 (gi (0 ≤ (lg_cmp x2 (5 : Int64)))
 (some (0 : Int64))
 (gd (vp_in ((34 : Int32) + (x2).toInt32) 1592) (some ((I 1 (((34 : Int32) + (x2).toInt32)).toNatClampNeg)).toInt64))))
 (gi ((lg_cmp x2 (0 : Int64)) < 0)
 (some (0 : Int64))
 (gi (0 ≤ (lg_cmp x2 ((I 1 0)).toInt64))
 (some (0 : Int64))
 (gd (vp_in ((23 : Int32) + (x2).toInt32) 1592) (some ((I 1 (((23 : Int32) + (x2).toInt32)).toNatClampNeg)).toInt64)))))
set_option maxHeartbeats 4000000 in
set_option maxRecDepth 100000 in
theorem kX7_ofOne {l : Launch} {G : gG} {ad : Nat → Nat} (hok : gInj LM ad)    (x1 : Int32) (x2 : Int64) (I : gI) (J : gJ) (r : Int64) (h : fX7_ofOne x1 x2 I = some r) : gMl l yX7_ofOne cX7_ofOne 4 (some .long) 1 G LM ad [.ref (ad 0), .int x1, .long x2] I J r I J := by
  refine gMl_of (lst := [(0, .ref (ad 0)), (1, .int x1), (2, .long x2)]) (by decide) hok (Nat.le_of_ble_eq_true rfl) rfl ?_
  intro p e s m args below meth c Q ls K hW hl hfin
  have hn : (some r : Option (Int64)) ≠ none := Option.some_ne_none _
  have hx := K.1; have hb := K.2.1; have hown := K.2.2.2.1; have hts := K.2.2.2.2.1
  unfold fX7_ofOne at h
  refine lv_iload_n hx hb dX7_ofOne_0 rfl (lv_at hl 1 rfl) ?_
  refine lv_iconst (v := (5 : Int32)) hx hb dX7_ofOne_1 (by decide) ?_
  refine lv_icmp_ne (tgt := 8) hx hb dX7_ofOne_2 (by decide) (fun c1 => ?_) (fun c1 => ?_)
  · replace h := gi_f h c1
    refine lv_iload_n hx hb dX7_ofOne_8 rfl (lv_at hl 1 rfl) ?_
    refine lv_iconst (v := (2 : Int32)) hx hb dX7_ofOne_9 (by decide) ?_
    refine lv_icmp_ne (tgt := 43) hx hb dX7_ofOne_10 (by decide) (fun c2 => ?_) (fun c2 => ?_)
    · replace h := gi_f h c2
      refine lv_lload_n hx hb dX7_ofOne_43 rfl (lv_at hl 2 rfl) ?_
      refine lv_lconst (v := (0 : Int64)) hx hb dX7_ofOne_44 rfl ?_
      refine W.lcmp hx hb dX7_ofOne_45 ?_
      refine lv_if_lt (tgt := 75) hx hb dX7_ofOne_46 (by decide) (fun c3 => ?_) (fun c3 => ?_)
      · replace h := gi_t h c3
        refine lv_lconst (v := (0 : Int64)) hx hb dX7_ofOne_75 rfl ?_
        obtain a1 := so1 h
        exact g_nml a1 (hfin _ _ _ _ hW dX7_ofOne_76)
      · replace h := gi_f h c3
        refine lv_lload_n hx hb dX7_ofOne_49 rfl (lv_at hl 2 rfl) ?_
        refine lv_aload_n hx hb dX7_ofOne_50 rfl (lv_at hl 0 rfl) ?_
        refine g_get K hW (t := 2) (ci := 6) (k := 0) (v := .ref (ad 1)) kLM_0 rfl rfl i_X7 (by decide) q_1077 rfl (gfv2 rLM_0_0) dX7_ofOne_51 ?_
        refine lv_iconst (v := (0 : Int32)) hx hb dX7_ofOne_54 (by decide) ?_
        refine g_iald K hW kLM_1 in_0_1592 tn_0 dX7_ofOne_55 ?_
        refine lv_i2l hx hb dX7_ofOne_56 rfl ?_
        refine W.lcmp hx hb dX7_ofOne_57 ?_
        refine lv_if_ge (tgt := 75) hx hb dX7_ofOne_58 (by decide) (fun c4 => ?_) (fun c4 => ?_)
        · replace h := gi_t h c4
          refine lv_lconst (v := (0 : Int64)) hx hb dX7_ofOne_75 rfl ?_
          obtain a1 := so1 h
          exact g_nml a1 (hfin _ _ _ _ hW dX7_ofOne_76)
        · replace h := gi_f h c4
          refine lv_aload_n hx hb dX7_ofOne_61 rfl (lv_at hl 0 rfl) ?_
          refine g_get K hW (t := 2) (ci := 6) (k := 0) (v := .ref (ad 1)) kLM_0 rfl rfl i_X7 (by decide) q_1077 rfl (gfv2 rLM_0_0) dX7_ofOne_62 ?_
          refine lv_bipush (v := (23 : Int32)) hx hb dX7_ofOne_65 (by decide) ?_
          refine lv_lload_n hx hb dX7_ofOne_67 rfl (lv_at hl 2 rfl) ?_
          refine lv_l2i hx hb dX7_ofOne_68 rfl ?_
          refine lv_iadd hx hb dX7_ofOne_69 ?_
          obtain ⟨g5, h⟩ := gd_o h hn
          refine g_iald K hW kLM_1 g5 rfl dX7_ofOne_70 ?_
          refine lv_i2l hx hb dX7_ofOne_71 rfl ?_
          refine lv_goto (tgt := 76) hx hb dX7_ofOne_72 (by decide) ?_
          obtain a1 := so1 h
          exact g_nml a1 (hfin _ _ _ _ hW dX7_ofOne_76)
    · replace h := gi_t h c2
      refine lv_lload_n hx hb dX7_ofOne_13 rfl (lv_at hl 2 rfl) ?_
      refine lv_lconst (v := (0 : Int64)) hx hb dX7_ofOne_14 rfl ?_
      refine W.lcmp hx hb dX7_ofOne_15 ?_
      refine lv_if_lt (tgt := 41) hx hb dX7_ofOne_16 (by decide) (fun c6 => ?_) (fun c6 => ?_)
      · replace h := gi_t h c6
        refine lv_lconst (v := (0 : Int64)) hx hb dX7_ofOne_41 rfl ?_
        obtain a1 := so1 h
        exact g_nml a1 (hfin _ _ _ _ hW dX7_ofOne_42)
      · replace h := gi_f h c6
        refine lv_lload_n hx hb dX7_ofOne_19 rfl (lv_at hl 2 rfl) ?_
        refine lv_ldc2 (v := (5 : Int64)) hx hb hown (hts _ q_1405) dX7_ofOne_20 ?_
        refine W.lcmp hx hb dX7_ofOne_23 ?_
        refine lv_if_ge (tgt := 41) hx hb dX7_ofOne_24 (by decide) (fun c7 => ?_) (fun c7 => ?_)
        · replace h := gi_t h c7
          refine lv_lconst (v := (0 : Int64)) hx hb dX7_ofOne_41 rfl ?_
          obtain a1 := so1 h
          exact g_nml a1 (hfin _ _ _ _ hW dX7_ofOne_42)
        · replace h := gi_f h c7
          refine lv_aload_n hx hb dX7_ofOne_27 rfl (lv_at hl 0 rfl) ?_
          refine g_get K hW (t := 2) (ci := 6) (k := 0) (v := .ref (ad 1)) kLM_0 rfl rfl i_X7 (by decide) q_1077 rfl (gfv2 rLM_0_0) dX7_ofOne_28 ?_
          refine lv_bipush (v := (34 : Int32)) hx hb dX7_ofOne_31 (by decide) ?_
          refine lv_lload_n hx hb dX7_ofOne_33 rfl (lv_at hl 2 rfl) ?_
          refine lv_l2i hx hb dX7_ofOne_34 rfl ?_
          refine lv_iadd hx hb dX7_ofOne_35 ?_
          obtain ⟨g8, h⟩ := gd_o h hn
          refine g_iald K hW kLM_1 g8 rfl dX7_ofOne_36 ?_
          refine lv_i2l hx hb dX7_ofOne_37 rfl ?_
          refine lv_goto (tgt := 42) hx hb dX7_ofOne_38 (by decide) ?_
          obtain a1 := so1 h
          exact g_nml a1 (hfin _ _ _ _ hW dX7_ofOne_42)
  · replace h := gi_t h c1
    refine lv_lload_n hx hb dX7_ofOne_5 rfl (lv_at hl 2 rfl) ?_
    refine lv_lneg hx hb dX7_ofOne_6 ?_
    obtain a1 := so1 h
    exact g_nml a1 (hfin _ _ _ _ hW dX7_ofOne_7)
noncomputable def fX7_joined  (x0 : Int32) (x1 : Int32) (x2 : Int32)  : Int32 :=
  gi (x0 = (21 : Int32))
 (lz ((0 : Int32)) (fun j7 => gi (x1 = 0)
 (j7)
 (gi (x2 = 0)
 (j7)
 ((1 : Int32)))))
 (lz ((1 : Int32)) (fun j2 => gi (x1 = 0)
 (gi (x2 = 0)
 ((0 : Int32))
 (j2))
 (j2)))
set_option maxHeartbeats 4000000 in
set_option maxRecDepth 100000 in
theorem kX7_joined {l : Launch} {G : gG} {ad : Nat → Nat} (hok : gInj LM ad)    (x0 : Int32) (x1 : Int32) (x2 : Int32) (I : gI) (J : gJ) (r : Int32) (h : fX7_joined x0 x1 x2 = r) : gMi l yX7_joined cX7_joined 3 (some .boolean) 1 G LM ad [.int x0, .int x1, .int x2] I J r (r = 0 ∨ r = 1) I J := by
  refine gMz_of (lst := [(0, .int x0), (1, .int x1), (2, .int x2)]) (by decide) hok (Nat.le_of_ble_eq_true rfl) rfl ?_
  intro p e s m args below meth c Q ls K hW hl hfin
  have hx := K.1; have hb := K.2.1; have hown := K.2.2.2.1; have hts := K.2.2.2.2.1
  unfold fX7_joined at h
  refine lv_iload_n hx hb dX7_joined_0 rfl (lv_at hl 0 rfl) ?_
  refine lv_bipush (v := (21 : Int32)) hx hb dX7_joined_1 (by decide) ?_
  refine lv_icmp_ne (tgt := 22) hx hb dX7_joined_3 (by decide) (fun c1 => ?_) (fun c1 => ?_)
  · replace h := gi_f h c1
    refine lv_iload_n hx hb dX7_joined_22 rfl (lv_at hl 1 rfl) ?_
    obtain ⟨j2, e3, h⟩ := lz_o h
    have hj4 : j2 = (r) → ∀ (H : Heap) (locs : List Loc), gWd G LM ad (gA LM ad) s.heap I J H locs → ∀ (ls : Array Slot), lv_has ls 3 [] → W p l e (gRm 1) s m args below meth c H locs 0 0 Q (F0 m 30 ls []) := by
      intro h H locs hW ls hl
      replace h := jn0 e3 h
      refine lv_iconst (v := (1 : Int32)) hx hb dX7_joined_30 (by decide) ?_
      refine lv_goto (tgt := 35) hx hb dX7_joined_31 (by decide) ?_
      obtain a1 := h.symm
      exact g_nmi a1 (hfin _ _ _ _ (a1 ▸ (Or.inr rfl)) hW dX7_joined_35)
    refine lv_if_ne (tgt := 30) hx hb dX7_joined_23 (by decide) (fun c5 => ?_) (fun c5 => ?_)
    · replace h := gi_f h c5
      exact hj4 h _ _ hW _ (lv_sub hl [] rfl)
    · replace h := gi_t h c5
      refine lv_iload_n hx hb dX7_joined_26 rfl (lv_at hl 2 rfl) ?_
      refine lv_if_eq (tgt := 34) hx hb dX7_joined_27 (by decide) (fun c6 => ?_) (fun c6 => ?_)
      · replace h := gi_t h c6
        refine lv_iconst (v := (0 : Int32)) hx hb dX7_joined_34 (by decide) ?_
        obtain a1 := h.symm
        exact g_nmi a1 (hfin _ _ _ _ (a1 ▸ (Or.inl rfl)) hW dX7_joined_35)
      · replace h := gi_f h c6
        exact hj4 h _ _ hW _ (lv_sub hl [] rfl)
  · replace h := gi_t h c1
    refine lv_iload_n hx hb dX7_joined_6 rfl (lv_at hl 1 rfl) ?_
    obtain ⟨j7, e8, h⟩ := lz_o h
    have hj9 : j7 = (r) → ∀ (H : Heap) (locs : List Loc), gWd G LM ad (gA LM ad) s.heap I J H locs → ∀ (ls : Array Slot), lv_has ls 3 [] → W p l e (gRm 1) s m args below meth c H locs 0 0 Q (F0 m 18 ls []) := by
      intro h H locs hW ls hl
      replace h := jn0 e8 h
      refine lv_iconst (v := (0 : Int32)) hx hb dX7_joined_18 (by decide) ?_
      refine lv_goto (tgt := 35) hx hb dX7_joined_19 (by decide) ?_
      obtain a1 := h.symm
      exact g_nmi a1 (hfin _ _ _ _ (a1 ▸ (Or.inl rfl)) hW dX7_joined_35)
    refine lv_if_eq (tgt := 18) hx hb dX7_joined_7 (by decide) (fun c10 => ?_) (fun c10 => ?_)
    · replace h := gi_t h c10
      exact hj9 h _ _ hW _ (lv_sub hl [] rfl)
    · replace h := gi_f h c10
      refine lv_iload_n hx hb dX7_joined_10 rfl (lv_at hl 2 rfl) ?_
      refine lv_if_eq (tgt := 18) hx hb dX7_joined_11 (by decide) (fun c11 => ?_) (fun c11 => ?_)
      · replace h := gi_t h c11
        exact hj9 h _ _ hW _ (lv_sub hl [] rfl)
      · replace h := gi_f h c11
        refine lv_iconst (v := (1 : Int32)) hx hb dX7_joined_14 (by decide) ?_
        refine lv_goto (tgt := 35) hx hb dX7_joined_15 (by decide) ?_
        obtain a1 := h.symm
        exact g_nmi a1 (hfin _ _ _ _ (a1 ▸ (Or.inr rfl)) hW dX7_joined_35)
