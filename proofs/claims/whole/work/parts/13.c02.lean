-- 13.c02: the class: X4.isLetter X4.ofSign X3.clear X2.isLink X2.isOnOne X2.limited J6.bitCount X2.named X2.ofOne X2.ofTwo X2.worked X5.writeDown X5.dayOf X5.kindOf X5.whomOf X5.priceOf X6.isSort X6.sort X6.isRun
noncomputable def fX4_isLetter  (x0 : Int32)  : Int32 :=
  lz ((1 : Int32)) (fun j1 => lz (gi (x0 < (65 : Int32))
 ((0 : Int32))
 (gi ((90 : Int32) < x0)
 ((0 : Int32))
 (j1))) (fun j4 => gi (x0 < (97 : Int32))
 (j4)
 (gi (x0 ≤ (122 : Int32))
 (j1)
 (j4))))
set_option maxHeartbeats 4000000 in
set_option maxRecDepth 100000 in
theorem kX4_isLetter {l : Launch} {G : gG} {ad : Nat → Nat} (hok : gInj LC ad)    (x0 : Int32) (I : gI) (J : gJ) (r : Int32) (h : fX4_isLetter x0 = r) : gMi l yX4_isLetter cX4_isLetter 1 (some .boolean) 1 G LC ad [.int x0] I J r (r = 0 ∨ r = 1) I J := by
  refine gMz_of (lst := [(0, .int x0)]) (by decide) hok (Nat.le_of_ble_eq_true rfl) rfl ?_
  intro p e s m args below meth c Q ls K hW hl hfin
  have hx := K.1; have hb := K.2.1; have hown := K.2.2.2.1; have hts := K.2.2.2.2.1
  unfold fX4_isLetter at h
  refine lv_iload_n hx hb dX4_isLetter_0 rfl (lv_at hl 0 rfl) ?_
  refine lv_bipush (v := (97 : Int32)) hx hb dX4_isLetter_1 (by decide) ?_
  obtain ⟨j1, e2, h⟩ := lz_o h
  have hj3 : j1 = (r) → ∀ (H : Heap) (locs : List Loc), gWd G LC ad (gA LC ad) s.heap I J H locs → ∀ (ls : Array Slot), lv_has ls 1 [] → W p l e (gRm 1) s m args below meth c H locs 0 0 Q (F0 m 24 ls []) := by
    intro h H locs hW ls hl
    replace h := jn0 e2 h
    refine lv_iconst (v := (1 : Int32)) hx hb dX4_isLetter_24 (by decide) ?_
    refine lv_goto (tgt := 29) hx hb dX4_isLetter_25 (by decide) ?_
    obtain a1 := h.symm
    exact g_nmi a1 (hfin _ _ _ _ (a1 ▸ (Or.inr rfl)) hW dX4_isLetter_29)
  obtain ⟨j4, e5, h⟩ := lz_o h
  have hj6 : j4 = (r) → ∀ (H : Heap) (locs : List Loc), gWd G LC ad (gA LC ad) s.heap I J H locs → ∀ (ls : Array Slot), lv_has ls 1 [(0, .int x0)] → W p l e (gRm 1) s m args below meth c H locs 0 0 Q (F0 m 12 ls []) := by
    intro h H locs hW ls hl
    replace h := jn0 e5 h
    refine lv_iload_n hx hb dX4_isLetter_12 rfl (lv_at hl 0 rfl) ?_
    refine lv_bipush (v := (65 : Int32)) hx hb dX4_isLetter_13 (by decide) ?_
    refine lv_icmp_lt (tgt := 28) hx hb dX4_isLetter_15 (by decide) (fun c7 => ?_) (fun c7 => ?_)
    · replace h := gi_t h c7
      refine lv_iconst (v := (0 : Int32)) hx hb dX4_isLetter_28 (by decide) ?_
      obtain a1 := h.symm
      exact g_nmi a1 (hfin _ _ _ _ (a1 ▸ (Or.inl rfl)) hW dX4_isLetter_29)
    · replace h := gi_f h c7
      refine lv_iload_n hx hb dX4_isLetter_18 rfl (lv_at hl 0 rfl) ?_
      refine lv_bipush (v := (90 : Int32)) hx hb dX4_isLetter_19 (by decide) ?_
      refine lv_icmp_gt (tgt := 28) hx hb dX4_isLetter_21 (by decide) (fun c8 => ?_) (fun c8 => ?_)
      · replace h := gi_t h c8
        refine lv_iconst (v := (0 : Int32)) hx hb dX4_isLetter_28 (by decide) ?_
        obtain a1 := h.symm
        exact g_nmi a1 (hfin _ _ _ _ (a1 ▸ (Or.inl rfl)) hW dX4_isLetter_29)
      · replace h := gi_f h c8
        exact hj3 h _ _ hW _ (lv_sub hl [] rfl)
  refine lv_icmp_lt (tgt := 12) hx hb dX4_isLetter_3 (by decide) (fun c9 => ?_) (fun c9 => ?_)
  · replace h := gi_t h c9
    exact hj6 h _ _ hW _ (lv_sub hl [0] rfl)
  · replace h := gi_f h c9
    refine lv_iload_n hx hb dX4_isLetter_6 rfl (lv_at hl 0 rfl) ?_
    refine lv_bipush (v := (122 : Int32)) hx hb dX4_isLetter_7 (by decide) ?_
    refine lv_icmp_le (tgt := 24) hx hb dX4_isLetter_9 (by decide) (fun c10 => ?_) (fun c10 => ?_)
    · replace h := gi_t h c10
      exact hj3 h _ _ hW _ (lv_sub hl [] rfl)
    · replace h := gi_f h c10
      exact hj6 h _ _ hW _ (lv_sub hl [0] rfl)
noncomputable def fX4_ofSign  (x0 : Int32) (x1 : Int32)  : Int32 :=
  gi (x0 = (35 : Int32))
 ((30 : Int32))
 (gi (x0 = (36 : Int32))
 ((39 : Int32))
 (gi (x0 = (37 : Int32))
 ((39 : Int32))
 (gi (x0 = (38 : Int32))
 ((39 : Int32))
 (gi (x0 = (39 : Int32))
 ((39 : Int32))
 (gi (x0 = (40 : Int32))
 ((35 : Int32))
 (gi (x0 = (41 : Int32))
 ((36 : Int32))
 (gi (x0 = (42 : Int32))
 ((33 : Int32))
 (gi (x0 = (43 : Int32))
 ((31 : Int32))
 (gi (x0 = (44 : Int32))
 ((39 : Int32))
 (gi (x0 = (45 : Int32))
 ((32 : Int32))
 (gi (x0 = (46 : Int32))
 ((39 : Int32))
 (gi (x0 = (47 : Int32))
 ((34 : Int32))
 (gi (x0 = (48 : Int32))
 ((39 : Int32))
 (gi (x0 = (49 : Int32))
 ((39 : Int32))
 (gi (x0 = (50 : Int32))
 ((39 : Int32))
 (gi (x0 = (51 : Int32))
 ((39 : Int32))
 (gi (x0 = (52 : Int32))
 ((39 : Int32))
 (gi (x0 = (53 : Int32))
 ((39 : Int32))
 (gi (x0 = (54 : Int32))
 ((39 : Int32))
 (gi (x0 = (55 : Int32))
 ((39 : Int32))
 (gi (x0 = (56 : Int32))
 ((39 : Int32))
 (gi (x0 = (57 : Int32))
 ((39 : Int32))
 (gi (x0 = (58 : Int32))
 ((39 : Int32))
 (gi (x0 = (59 : Int32))
 ((37 : Int32))
 (gi (x0 = (60 : Int32))
 (gi (x1 = 0)
 ((27 : Int32))
 ((25 : Int32)))
 (gi (x0 = (61 : Int32))
 ((29 : Int32))
 (gi (x0 = (62 : Int32))
 (gi (x1 = 0)
 ((28 : Int32))
 ((26 : Int32)))
 ((39 : Int32)))))))))))))))))))))))))))))
set_option maxHeartbeats 4000000 in
set_option maxRecDepth 100000 in
theorem kX4_ofSign {l : Launch} {G : gG} {ad : Nat → Nat} (hok : gInj LC ad)    (x0 : Int32) (x1 : Int32) (I : gI) (J : gJ) (r : Int32) (h : fX4_ofSign x0 x1 = r) : gMi l yX4_ofSign cX4_ofSign 2 (some .int) 1 G LC ad [.int x0, .int x1] I J r True I J := by
  refine gMi_of (lst := [(0, .int x0), (1, .int x1)]) (by decide) hok (Nat.le_of_ble_eq_true rfl) rfl ?_
  intro p e s m args below meth c Q ls K hW hl hfin
  have hx := K.1; have hb := K.2.1; have hown := K.2.2.2.1; have hts := K.2.2.2.2.1
  unfold fX4_ofSign at h
  refine lv_iload_n hx hb dX4_ofSign_0 rfl (lv_at hl 0 rfl) ?_
  rcases Classical.em (x0 = (35 : Int32)) with c1 | c1
  · replace h := gi_t h c1
    refine g_tabIn (k := (35 : Int32)) (tgt := 155) (off := 154) hx hb c1 dX4_ofSign_1 (by decide) (by decide) (by decide) (by decide) ?_
    refine lv_bipush (v := (30 : Int32)) hx hb dX4_ofSign_155 (by decide) ?_
    obtain a1 := h.symm
    exact g_nmi a1 (hfin _ _ _ _ hW dX4_ofSign_157)
  · replace h := gi_f h c1
    rcases Classical.em (x0 = (36 : Int32)) with c2 | c2
    · replace h := gi_t h c2
      refine g_tabIn (k := (36 : Int32)) (tgt := 179) (off := 178) hx hb c2 dX4_ofSign_1 (by decide) (by decide) (by decide) (by decide) ?_
      refine lv_bipush (v := (39 : Int32)) hx hb dX4_ofSign_179 (by decide) ?_
      obtain a1 := h.symm
      exact g_nmi a1 (hfin _ _ _ _ hW dX4_ofSign_181)
    · replace h := gi_f h c2
      rcases Classical.em (x0 = (37 : Int32)) with c3 | c3
      · replace h := gi_t h c3
        refine g_tabIn (k := (37 : Int32)) (tgt := 179) (off := 178) hx hb c3 dX4_ofSign_1 (by decide) (by decide) (by decide) (by decide) ?_
        refine lv_bipush (v := (39 : Int32)) hx hb dX4_ofSign_179 (by decide) ?_
        obtain a1 := h.symm
        exact g_nmi a1 (hfin _ _ _ _ hW dX4_ofSign_181)
      · replace h := gi_f h c3
        rcases Classical.em (x0 = (38 : Int32)) with c4 | c4
        · replace h := gi_t h c4
          refine g_tabIn (k := (38 : Int32)) (tgt := 179) (off := 178) hx hb c4 dX4_ofSign_1 (by decide) (by decide) (by decide) (by decide) ?_
          refine lv_bipush (v := (39 : Int32)) hx hb dX4_ofSign_179 (by decide) ?_
          obtain a1 := h.symm
          exact g_nmi a1 (hfin _ _ _ _ hW dX4_ofSign_181)
        · replace h := gi_f h c4
          rcases Classical.em (x0 = (39 : Int32)) with c5 | c5
          · replace h := gi_t h c5
            refine g_tabIn (k := (39 : Int32)) (tgt := 179) (off := 178) hx hb c5 dX4_ofSign_1 (by decide) (by decide) (by decide) (by decide) ?_
            refine lv_bipush (v := (39 : Int32)) hx hb dX4_ofSign_179 (by decide) ?_
            obtain a1 := h.symm
            exact g_nmi a1 (hfin _ _ _ _ hW dX4_ofSign_181)
          · replace h := gi_f h c5
            rcases Classical.em (x0 = (40 : Int32)) with c6 | c6
            · replace h := gi_t h c6
              refine g_tabIn (k := (40 : Int32)) (tgt := 170) (off := 169) hx hb c6 dX4_ofSign_1 (by decide) (by decide) (by decide) (by decide) ?_
              refine lv_bipush (v := (35 : Int32)) hx hb dX4_ofSign_170 (by decide) ?_
              obtain a1 := h.symm
              exact g_nmi a1 (hfin _ _ _ _ hW dX4_ofSign_172)
            · replace h := gi_f h c6
              rcases Classical.em (x0 = (41 : Int32)) with c7 | c7
              · replace h := gi_t h c7
                refine g_tabIn (k := (41 : Int32)) (tgt := 173) (off := 172) hx hb c7 dX4_ofSign_1 (by decide) (by decide) (by decide) (by decide) ?_
                refine lv_bipush (v := (36 : Int32)) hx hb dX4_ofSign_173 (by decide) ?_
                obtain a1 := h.symm
                exact g_nmi a1 (hfin _ _ _ _ hW dX4_ofSign_175)
              · replace h := gi_f h c7
                rcases Classical.em (x0 = (42 : Int32)) with c8 | c8
                · replace h := gi_t h c8
                  refine g_tabIn (k := (42 : Int32)) (tgt := 164) (off := 163) hx hb c8 dX4_ofSign_1 (by decide) (by decide) (by decide) (by decide) ?_
                  refine lv_bipush (v := (33 : Int32)) hx hb dX4_ofSign_164 (by decide) ?_
                  obtain a1 := h.symm
                  exact g_nmi a1 (hfin _ _ _ _ hW dX4_ofSign_166)
                · replace h := gi_f h c8
                  rcases Classical.em (x0 = (43 : Int32)) with c9 | c9
                  · replace h := gi_t h c9
                    refine g_tabIn (k := (43 : Int32)) (tgt := 158) (off := 157) hx hb c9 dX4_ofSign_1 (by decide) (by decide) (by decide) (by decide) ?_
                    refine lv_bipush (v := (31 : Int32)) hx hb dX4_ofSign_158 (by decide) ?_
                    obtain a1 := h.symm
                    exact g_nmi a1 (hfin _ _ _ _ hW dX4_ofSign_160)
                  · replace h := gi_f h c9
                    rcases Classical.em (x0 = (44 : Int32)) with c10 | c10
                    · replace h := gi_t h c10
                      refine g_tabIn (k := (44 : Int32)) (tgt := 179) (off := 178) hx hb c10 dX4_ofSign_1 (by decide) (by decide) (by decide) (by decide) ?_
                      refine lv_bipush (v := (39 : Int32)) hx hb dX4_ofSign_179 (by decide) ?_
                      obtain a1 := h.symm
                      exact g_nmi a1 (hfin _ _ _ _ hW dX4_ofSign_181)
                    · replace h := gi_f h c10
                      rcases Classical.em (x0 = (45 : Int32)) with c11 | c11
                      · replace h := gi_t h c11
                        refine g_tabIn (k := (45 : Int32)) (tgt := 161) (off := 160) hx hb c11 dX4_ofSign_1 (by decide) (by decide) (by decide) (by decide) ?_
                        refine lv_bipush (v := (32 : Int32)) hx hb dX4_ofSign_161 (by decide) ?_
                        obtain a1 := h.symm
                        exact g_nmi a1 (hfin _ _ _ _ hW dX4_ofSign_163)
                      · replace h := gi_f h c11
                        rcases Classical.em (x0 = (46 : Int32)) with c12 | c12
                        · replace h := gi_t h c12
                          refine g_tabIn (k := (46 : Int32)) (tgt := 179) (off := 178) hx hb c12 dX4_ofSign_1 (by decide) (by decide) (by decide) (by decide) ?_
                          refine lv_bipush (v := (39 : Int32)) hx hb dX4_ofSign_179 (by decide) ?_
                          obtain a1 := h.symm
                          exact g_nmi a1 (hfin _ _ _ _ hW dX4_ofSign_181)
                        · replace h := gi_f h c12
                          rcases Classical.em (x0 = (47 : Int32)) with c13 | c13
                          · replace h := gi_t h c13
                            refine g_tabIn (k := (47 : Int32)) (tgt := 167) (off := 166) hx hb c13 dX4_ofSign_1 (by decide) (by decide) (by decide) (by decide) ?_
                            refine lv_bipush (v := (34 : Int32)) hx hb dX4_ofSign_167 (by decide) ?_
                            obtain a1 := h.symm
                            exact g_nmi a1 (hfin _ _ _ _ hW dX4_ofSign_169)
                          · replace h := gi_f h c13
                            rcases Classical.em (x0 = (48 : Int32)) with c14 | c14
                            · replace h := gi_t h c14
                              refine g_tabIn (k := (48 : Int32)) (tgt := 179) (off := 178) hx hb c14 dX4_ofSign_1 (by decide) (by decide) (by decide) (by decide) ?_
                              refine lv_bipush (v := (39 : Int32)) hx hb dX4_ofSign_179 (by decide) ?_
                              obtain a1 := h.symm
                              exact g_nmi a1 (hfin _ _ _ _ hW dX4_ofSign_181)
                            · replace h := gi_f h c14
                              rcases Classical.em (x0 = (49 : Int32)) with c15 | c15
                              · replace h := gi_t h c15
                                refine g_tabIn (k := (49 : Int32)) (tgt := 179) (off := 178) hx hb c15 dX4_ofSign_1 (by decide) (by decide) (by decide) (by decide) ?_
                                refine lv_bipush (v := (39 : Int32)) hx hb dX4_ofSign_179 (by decide) ?_
                                obtain a1 := h.symm
                                exact g_nmi a1 (hfin _ _ _ _ hW dX4_ofSign_181)
                              · replace h := gi_f h c15
                                rcases Classical.em (x0 = (50 : Int32)) with c16 | c16
                                · replace h := gi_t h c16
                                  refine g_tabIn (k := (50 : Int32)) (tgt := 179) (off := 178) hx hb c16 dX4_ofSign_1 (by decide) (by decide) (by decide) (by decide) ?_
                                  refine lv_bipush (v := (39 : Int32)) hx hb dX4_ofSign_179 (by decide) ?_
                                  obtain a1 := h.symm
                                  exact g_nmi a1 (hfin _ _ _ _ hW dX4_ofSign_181)
                                · replace h := gi_f h c16
                                  rcases Classical.em (x0 = (51 : Int32)) with c17 | c17
                                  · replace h := gi_t h c17
                                    refine g_tabIn (k := (51 : Int32)) (tgt := 179) (off := 178) hx hb c17 dX4_ofSign_1 (by decide) (by decide) (by decide) (by decide) ?_
                                    refine lv_bipush (v := (39 : Int32)) hx hb dX4_ofSign_179 (by decide) ?_
                                    obtain a1 := h.symm
                                    exact g_nmi a1 (hfin _ _ _ _ hW dX4_ofSign_181)
                                  · replace h := gi_f h c17
                                    rcases Classical.em (x0 = (52 : Int32)) with c18 | c18
                                    · replace h := gi_t h c18
                                      refine g_tabIn (k := (52 : Int32)) (tgt := 179) (off := 178) hx hb c18 dX4_ofSign_1 (by decide) (by decide) (by decide) (by decide) ?_
                                      refine lv_bipush (v := (39 : Int32)) hx hb dX4_ofSign_179 (by decide) ?_
                                      obtain a1 := h.symm
                                      exact g_nmi a1 (hfin _ _ _ _ hW dX4_ofSign_181)
                                    · replace h := gi_f h c18
                                      rcases Classical.em (x0 = (53 : Int32)) with c19 | c19
                                      · replace h := gi_t h c19
                                        refine g_tabIn (k := (53 : Int32)) (tgt := 179) (off := 178) hx hb c19 dX4_ofSign_1 (by decide) (by decide) (by decide) (by decide) ?_
                                        refine lv_bipush (v := (39 : Int32)) hx hb dX4_ofSign_179 (by decide) ?_
                                        obtain a1 := h.symm
                                        exact g_nmi a1 (hfin _ _ _ _ hW dX4_ofSign_181)
                                      · replace h := gi_f h c19
                                        rcases Classical.em (x0 = (54 : Int32)) with c20 | c20
                                        · replace h := gi_t h c20
                                          refine g_tabIn (k := (54 : Int32)) (tgt := 179) (off := 178) hx hb c20 dX4_ofSign_1 (by decide) (by decide) (by decide) (by decide) ?_
                                          refine lv_bipush (v := (39 : Int32)) hx hb dX4_ofSign_179 (by decide) ?_
                                          obtain a1 := h.symm
                                          exact g_nmi a1 (hfin _ _ _ _ hW dX4_ofSign_181)
                                        · replace h := gi_f h c20
                                          rcases Classical.em (x0 = (55 : Int32)) with c21 | c21
                                          · replace h := gi_t h c21
                                            refine g_tabIn (k := (55 : Int32)) (tgt := 179) (off := 178) hx hb c21 dX4_ofSign_1 (by decide) (by decide) (by decide) (by decide) ?_
                                            refine lv_bipush (v := (39 : Int32)) hx hb dX4_ofSign_179 (by decide) ?_
                                            obtain a1 := h.symm
                                            exact g_nmi a1 (hfin _ _ _ _ hW dX4_ofSign_181)
                                          · replace h := gi_f h c21
                                            rcases Classical.em (x0 = (56 : Int32)) with c22 | c22
                                            · replace h := gi_t h c22
                                              refine g_tabIn (k := (56 : Int32)) (tgt := 179) (off := 178) hx hb c22 dX4_ofSign_1 (by decide) (by decide) (by decide) (by decide) ?_
                                              refine lv_bipush (v := (39 : Int32)) hx hb dX4_ofSign_179 (by decide) ?_
                                              obtain a1 := h.symm
                                              exact g_nmi a1 (hfin _ _ _ _ hW dX4_ofSign_181)
                                            · replace h := gi_f h c22
                                              rcases Classical.em (x0 = (57 : Int32)) with c23 | c23
                                              · replace h := gi_t h c23
                                                refine g_tabIn (k := (57 : Int32)) (tgt := 179) (off := 178) hx hb c23 dX4_ofSign_1 (by decide) (by decide) (by decide) (by decide) ?_
                                                refine lv_bipush (v := (39 : Int32)) hx hb dX4_ofSign_179 (by decide) ?_
                                                obtain a1 := h.symm
                                                exact g_nmi a1 (hfin _ _ _ _ hW dX4_ofSign_181)
                                              · replace h := gi_f h c23
                                                rcases Classical.em (x0 = (58 : Int32)) with c24 | c24
                                                · replace h := gi_t h c24
                                                  refine g_tabIn (k := (58 : Int32)) (tgt := 179) (off := 178) hx hb c24 dX4_ofSign_1 (by decide) (by decide) (by decide) (by decide) ?_
                                                  refine lv_bipush (v := (39 : Int32)) hx hb dX4_ofSign_179 (by decide) ?_
                                                  obtain a1 := h.symm
                                                  exact g_nmi a1 (hfin _ _ _ _ hW dX4_ofSign_181)
                                                · replace h := gi_f h c24
                                                  rcases Classical.em (x0 = (59 : Int32)) with c25 | c25
                                                  · replace h := gi_t h c25
                                                    refine g_tabIn (k := (59 : Int32)) (tgt := 176) (off := 175) hx hb c25 dX4_ofSign_1 (by decide) (by decide) (by decide) (by decide) ?_
                                                    refine lv_bipush (v := (37 : Int32)) hx hb dX4_ofSign_176 (by decide) ?_
                                                    obtain a1 := h.symm
                                                    exact g_nmi a1 (hfin _ _ _ _ hW dX4_ofSign_178)
                                                  · replace h := gi_f h c25
                                                    rcases Classical.em (x0 = (60 : Int32)) with c26 | c26
                                                    · replace h := gi_t h c26
                                                      refine g_tabIn (k := (60 : Int32)) (tgt := 128) (off := 127) hx hb c26 dX4_ofSign_1 (by decide) (by decide) (by decide) (by decide) ?_
                                                      refine lv_iload_n hx hb dX4_ofSign_128 rfl (lv_at hl 1 rfl) ?_
                                                      refine lv_if_eq (tgt := 137) hx hb dX4_ofSign_129 (by decide) (fun c27 => ?_) (fun c27 => ?_)
                                                      · replace h := gi_t h c27
                                                        refine lv_bipush (v := (27 : Int32)) hx hb dX4_ofSign_137 (by decide) ?_
                                                        obtain a1 := h.symm
                                                        exact g_nmi a1 (hfin _ _ _ _ hW dX4_ofSign_139)
                                                      · replace h := gi_f h c27
                                                        refine lv_bipush (v := (25 : Int32)) hx hb dX4_ofSign_132 (by decide) ?_
                                                        refine lv_goto (tgt := 139) hx hb dX4_ofSign_134 (by decide) ?_
                                                        obtain a1 := h.symm
                                                        exact g_nmi a1 (hfin _ _ _ _ hW dX4_ofSign_139)
                                                    · replace h := gi_f h c26
                                                      rcases Classical.em (x0 = (61 : Int32)) with c28 | c28
                                                      · replace h := gi_t h c28
                                                        refine g_tabIn (k := (61 : Int32)) (tgt := 152) (off := 151) hx hb c28 dX4_ofSign_1 (by decide) (by decide) (by decide) (by decide) ?_
                                                        refine lv_bipush (v := (29 : Int32)) hx hb dX4_ofSign_152 (by decide) ?_
                                                        obtain a1 := h.symm
                                                        exact g_nmi a1 (hfin _ _ _ _ hW dX4_ofSign_154)
                                                      · replace h := gi_f h c28
                                                        rcases Classical.em (x0 = (62 : Int32)) with c29 | c29
                                                        · replace h := gi_t h c29
                                                          refine g_tabIn (k := (62 : Int32)) (tgt := 140) (off := 139) hx hb c29 dX4_ofSign_1 (by decide) (by decide) (by decide) (by decide) ?_
                                                          refine lv_iload_n hx hb dX4_ofSign_140 rfl (lv_at hl 1 rfl) ?_
                                                          refine lv_if_eq (tgt := 149) hx hb dX4_ofSign_141 (by decide) (fun c30 => ?_) (fun c30 => ?_)
                                                          · replace h := gi_t h c30
                                                            refine lv_bipush (v := (28 : Int32)) hx hb dX4_ofSign_149 (by decide) ?_
                                                            obtain a1 := h.symm
                                                            exact g_nmi a1 (hfin _ _ _ _ hW dX4_ofSign_151)
                                                          · replace h := gi_f h c30
                                                            refine lv_bipush (v := (26 : Int32)) hx hb dX4_ofSign_144 (by decide) ?_
                                                            refine lv_goto (tgt := 151) hx hb dX4_ofSign_146 (by decide) ?_
                                                            obtain a1 := h.symm
                                                            exact g_nmi a1 (hfin _ _ _ _ hW dX4_ofSign_151)
                                                        · replace h := gi_f h c29
                                                          refine lv_tableOut (tgt := 179) hx hb dX4_ofSign_1 (by have := lv_neT (a := 35) c1 (by decide); have := lv_neT (a := 36) c2 (by decide); have := lv_neT (a := 37) c3 (by decide); have := lv_neT (a := 38) c4 (by decide); have := lv_neT (a := 39) c5 (by decide); have := lv_neT (a := 40) c6 (by decide); have := lv_neT (a := 41) c7 (by decide); have := lv_neT (a := 42) c8 (by decide); have := lv_neT (a := 43) c9 (by decide); have := lv_neT (a := 44) c10 (by decide); have := lv_neT (a := 45) c11 (by decide); have := lv_neT (a := 46) c12 (by decide); have := lv_neT (a := 47) c13 (by decide); have := lv_neT (a := 48) c14 (by decide); have := lv_neT (a := 49) c15 (by decide); have := lv_neT (a := 50) c16 (by decide); have := lv_neT (a := 51) c17 (by decide); have := lv_neT (a := 52) c18 (by decide); have := lv_neT (a := 53) c19 (by decide); have := lv_neT (a := 54) c20 (by decide); have := lv_neT (a := 55) c21 (by decide); have := lv_neT (a := 56) c22 (by decide); have := lv_neT (a := 57) c23 (by decide); have := lv_neT (a := 58) c24 (by decide); have := lv_neT (a := 59) c25 (by decide); have := lv_neT (a := 60) c26 (by decide); have := lv_neT (a := 61) c28 (by decide); have := lv_neT (a := 62) c29 (by decide); omega) (by decide) ?_
                                                          refine lv_bipush (v := (39 : Int32)) hx hb dX4_ofSign_179 (by decide) ?_
                                                          obtain a1 := h.symm
                                                          exact g_nmi a1 (hfin _ _ _ _ hW dX4_ofSign_181)
noncomputable def fX3_clear_12b (t0 : Nat) (rec : Int32 → gI → Option ((gI))) (u5 : Int32) (I : gI) : Option ((gI)) :=
  gi ((2 : Int32) ≤ u5)
 (some I)
 (gd (vp_in u5 2) (lz (wI I (t0 + 6) (u5).toNatClampNeg (0 : Int32)) (fun (I10 : gI) => lz (wI I10 (t0 + 7) (u5).toNatClampNeg (0 : Int32)) (fun (I12 : gI) => lz ((u5 + (1 : Int32))) (fun (u13 : Int32) => rec u13 I12)))))
noncomputable def fX3_clear_12 (t0 : Nat) : Nat → Int32 → gI → Option ((gI))
  | 0 => fun _ _ => none
  | n + 1 => fX3_clear_12b t0 (fX3_clear_12 t0 n)
set_option maxHeartbeats 4000000 in
set_option maxRecDepth 100000 in
theorem tX3_clear_12 {l : Launch} {G : gG} {ad : Nat → Nat} {p : Program} {e : Env} {s : State} {m : MethodId} {args : Array Value} {below : List Frame} {meth : Method} {c : Code} {Q : State → Prop} (hok : gInj LC ad) (K : gCx G (gA LC ad) p s m args c cX3_clear 2 RX3) (t0 : Nat) (ht0 : gAt LC t0 0 3) : ∀ (n : Nat) (u5 : Int32) (I : gI) (J : gJ) (out : Option ((gI))), fX3_clear_12 t0 n u5 I = out → out ≠ none → ∀ (H : Heap) (locs : List Loc), gWd G LC ad (gA LC ad) s.heap I J H locs → ∀ (ls : Array Slot), lv_has ls 2 [(0, .ref (ad t0)), (1, .int u5)] → (∀ (I6 : gI), some I6 = out → ∀ (H : Heap) (locs : List Loc), gWd G LC ad (gA LC ad) s.heap I6 J H locs → ∀ (ls : Array Slot), lv_has ls 2 [] → W p l e (gRm 1) s m args below meth c H locs 0 0 Q (F0 m 37 ls [])) → W p l e (gRm 1) s m args below meth c H locs 0 0 Q (F0 m 12 ls []) := by
  have hx := K.1; have hb := K.2.1; have hown := K.2.2.2.1; have hts := K.2.2.2.2.1
  intro n
  induction n with
  | zero => intro u5 I J out h hn; exact absurd h.symm hn
  | succ n ih =>
    intro u5 I J out h hn H locs hW ls hl hx1
    replace h : fX3_clear_12b t0 (fX3_clear_12 t0 n) u5 I = out := h
    unfold fX3_clear_12b at h
    refine lv_iload_n hx hb dX3_clear_12 rfl (lv_at hl 1 rfl) ?_
    refine lv_iconst (v := (2 : Int32)) hx hb dX3_clear_13 (by decide) ?_
    refine lv_icmp_ge (tgt := 37) hx hb dX3_clear_14 (by decide) (fun c7 => ?_) (fun c7 => ?_)
    · replace h := gi_t h c7
      exact hx1 I h _ _ hW _ (lv_sub hl [] rfl)
    · replace h := gi_f h c7
      refine lv_aload_n hx hb dX3_clear_17 rfl (lv_at hl 0 rfl) ?_
      refine g_get K hW (t := 2) (ci := 3) (k := 5) (v := .ref (ad (t0 + 6))) ht0 rfl rfl i_X3 (by decide) q_319 rfl (gfv2 (rT_5 ht0)) dX3_clear_18 ?_
      refine lv_iload_n hx hb dX3_clear_21 rfl (lv_at hl 1 rfl) ?_
      refine lv_iconst (v := (0 : Int32)) hx hb dX3_clear_22 (by decide) ?_
      obtain ⟨g8, h⟩ := gd_o h hn
      refine g_iast K hW (kT_5 ht0) g8 rfl dX3_clear_23 (fun H locs hW => ?_)
      obtain ⟨I10, e9, h⟩ := lz_o h
      replace hW := gWd_nI e9 hW
      refine lv_aload_n hx hb dX3_clear_24 rfl (lv_at hl 0 rfl) ?_
      refine g_get K hW (t := 2) (ci := 3) (k := 6) (v := .ref (ad (t0 + 7))) ht0 rfl rfl i_X3 (by decide) q_322 rfl (gfv2 (rT_6 ht0)) dX3_clear_25 ?_
      refine lv_iload_n hx hb dX3_clear_28 rfl (lv_at hl 1 rfl) ?_
      refine lv_iconst (v := (0 : Int32)) hx hb dX3_clear_29 (by decide) ?_
      refine g_iast K hW (kT_6 ht0) g8 rfl dX3_clear_30 (fun H locs hW => ?_)
      obtain ⟨I12, e11, h⟩ := lz_o h
      replace hW := gWd_nI e11 hW
      obtain ⟨u13, e14, h⟩ := lz_o h
      refine lv_iinc (v := u13) (lv' := [(1, .int u13), (0, .ref (ad t0))]) hx hb dX3_clear_31 hl (k := 1) rfl (by rw [e14]; rfl) (by decide) rfl (fun ls hl => ?_)
      refine lv_goto (tgt := 12) hx hb dX3_clear_34 (by decide) ?_
      exact ih u13 I12 J _ h hn _ _ hW _ (lv_sub hl [1, 0] rfl) hx1
noncomputable def fX3_clear (t0 : Nat)  (I : gI) : Option (gI) :=
  lz (wI I t0 7 (0 : Int32)) (fun (I1 : gI) => lz (wI I1 t0 8 (0 : Int32)) (fun (I3 : gI) => bd (fX3_clear_12 t0 FU (0 : Int32) I3) (fun (I17 : gI) => some I17)))
set_option maxHeartbeats 4000000 in
set_option maxRecDepth 100000 in
theorem kX3_clear {l : Launch} {G : gG} {ad : Nat → Nat} (hok : gInj LC ad)  (t0 : Nat) (ht0 : gAt LC t0 0 3)  (I : gI) (J : gJ) (I' : gI) (h : fX3_clear t0 I = some I') : gMv l yX3_clear cX3_clear 2 none 1 G LC ad [.ref (ad t0)] I J I' J := by
  refine gMv_of (lst := [(0, .ref (ad t0))]) (by decide) hok (Nat.le_of_ble_eq_true rfl) rfl ?_
  intro p e s m args below meth c Q ls K hW hl hfin
  have hn : (some I' : Option (gI)) ≠ none := Option.some_ne_none _
  have hx := K.1; have hb := K.2.1; have hown := K.2.2.2.1; have hts := K.2.2.2.2.1
  unfold fX3_clear at h
  refine lv_aload_n hx hb dX3_clear_0 rfl (lv_at hl 0 rfl) ?_
  refine lv_iconst (v := (0 : Int32)) hx hb dX3_clear_1 (by decide) ?_
  refine g_putI K hW (ci := 3) (k := 7) ht0 rfl rfl i_X3 tyX3_ok nmX3 (by decide) q_325 rfl rfl rfl rfl dX3_clear_2 (fun H locs hW => ?_)
  obtain ⟨I1, e2, h⟩ := lz_o h
  replace hW := gWd_nI e2 hW
  refine lv_aload_n hx hb dX3_clear_5 rfl (lv_at hl 0 rfl) ?_
  refine lv_iconst (v := (0 : Int32)) hx hb dX3_clear_6 (by decide) ?_
  refine g_putI K hW (ci := 3) (k := 8) ht0 rfl rfl i_X3 tyX3_ok nmX3 (by decide) q_328 rfl rfl rfl rfl dX3_clear_7 (fun H locs hW => ?_)
  obtain ⟨I3, e4, h⟩ := lz_o h
  replace hW := gWd_nI e4 hW
  refine lv_iconst (v := (0 : Int32)) hx hb dX3_clear_10 (by decide) ?_
  refine lv_istore_n (lv' := [(1, .int (0 : Int32)), (0, .ref (ad t0))]) hx hb dX3_clear_11 rfl hl (by decide) rfl (fun ls hl => ?_)
  obtain ⟨r15, e16, h⟩ := bd_o h hn
  refine tX3_clear_12 hok K t0 ht0 FU (0 : Int32) I3 J (some r15) e16 (Option.some_ne_none _) _ _ hW _ (lv_sub hl [1, 0] rfl) ?_
  · intro I17 q18 H locs hW ls hl
    replace q18 := Option.some.inj q18
    subst q18
    obtain a1 := so1 h
    replace hW := gWd_nI a1 hW
    exact hfin _ _ _ _ hW dX3_clear_37
noncomputable def fX2_isLink  (x0 : Int32)  : Int32 :=
  lz ((1 : Int32)) (fun j1 => gi (x0 = (16 : Int32))
 (j1)
 (gi (x0 = (17 : Int32))
 (j1)
 ((0 : Int32))))
set_option maxHeartbeats 4000000 in
set_option maxRecDepth 100000 in
theorem kX2_isLink {l : Launch} {G : gG} {ad : Nat → Nat} (hok : gInj LC ad)    (x0 : Int32) (I : gI) (J : gJ) (r : Int32) (h : fX2_isLink x0 = r) : gMi l yX2_isLink cX2_isLink 1 (some .boolean) 1 G LC ad [.int x0] I J r (r = 0 ∨ r = 1) I J := by
  refine gMz_of (lst := [(0, .int x0)]) (by decide) hok (Nat.le_of_ble_eq_true rfl) rfl ?_
  intro p e s m args below meth c Q ls K hW hl hfin
  have hx := K.1; have hb := K.2.1; have hown := K.2.2.2.1; have hts := K.2.2.2.2.1
  unfold fX2_isLink at h
  refine lv_iload_n hx hb dX2_isLink_0 rfl (lv_at hl 0 rfl) ?_
  refine lv_bipush (v := (16 : Int32)) hx hb dX2_isLink_1 (by decide) ?_
  obtain ⟨j1, e2, h⟩ := lz_o h
  have hj3 : j1 = (r) → ∀ (H : Heap) (locs : List Loc), gWd G LC ad (gA LC ad) s.heap I J H locs → ∀ (ls : Array Slot), lv_has ls 1 [] → W p l e (gRm 1) s m args below meth c H locs 0 0 Q (F0 m 12 ls []) := by
    intro h H locs hW ls hl
    replace h := jn0 e2 h
    refine lv_iconst (v := (1 : Int32)) hx hb dX2_isLink_12 (by decide) ?_
    refine lv_goto (tgt := 17) hx hb dX2_isLink_13 (by decide) ?_
    obtain a1 := h.symm
    exact g_nmi a1 (hfin _ _ _ _ (a1 ▸ (Or.inr rfl)) hW dX2_isLink_17)
  refine lv_icmp_eq (tgt := 12) hx hb dX2_isLink_3 (by decide) (fun c4 => ?_) (fun c4 => ?_)
  · replace h := gi_t h c4
    exact hj3 h _ _ hW _ (lv_sub hl [] rfl)
  · replace h := gi_f h c4
    refine lv_iload_n hx hb dX2_isLink_6 rfl (lv_at hl 0 rfl) ?_
    refine lv_bipush (v := (17 : Int32)) hx hb dX2_isLink_7 (by decide) ?_
    refine lv_icmp_ne (tgt := 16) hx hb dX2_isLink_9 (by decide) (fun c5 => ?_) (fun c5 => ?_)
    · replace h := gi_f h c5
      refine lv_iconst (v := (0 : Int32)) hx hb dX2_isLink_16 (by decide) ?_
      obtain a1 := h.symm
      exact g_nmi a1 (hfin _ _ _ _ (a1 ▸ (Or.inl rfl)) hW dX2_isLink_17)
    · replace h := gi_t h c5
      exact hj3 h _ _ hW _ (lv_sub hl [] rfl)
noncomputable def fX2_isOnOne  (x0 : Int32)  : Int32 :=
  gi (x0 = (10 : Int32))
 ((1 : Int32))
 (gi (x0 = (11 : Int32))
 ((1 : Int32))
 (gi (x0 = (18 : Int32))
 ((1 : Int32))
 (gi (x0 = (38 : Int32))
 ((1 : Int32))
 ((0 : Int32)))))
set_option maxHeartbeats 4000000 in
set_option maxRecDepth 100000 in
theorem kX2_isOnOne {l : Launch} {G : gG} {ad : Nat → Nat} (hok : gInj LC ad)    (x0 : Int32) (I : gI) (J : gJ) (r : Int32) (h : fX2_isOnOne x0 = r) : gMi l yX2_isOnOne cX2_isOnOne 1 (some .boolean) 1 G LC ad [.int x0] I J r (r = 0 ∨ r = 1) I J := by
  refine gMz_of (lst := [(0, .int x0)]) (by decide) hok (Nat.le_of_ble_eq_true rfl) rfl ?_
  intro p e s m args below meth c Q ls K hW hl hfin
  have hx := K.1; have hb := K.2.1; have hown := K.2.2.2.1; have hts := K.2.2.2.2.1
  unfold fX2_isOnOne at h
  refine lv_iload_n hx hb dX2_isOnOne_0 rfl (lv_at hl 0 rfl) ?_
  rcases Classical.em (x0 = (10 : Int32)) with c1 | c1
  · replace h := gi_t h c1
    refine g_lookIn (k := (10 : Int32)) (tgt := 44) (off := 43) hx hb c1 dX2_isOnOne_1 (by decide) (by decide) (by decide) ?_
    refine lv_iconst (v := (1 : Int32)) hx hb dX2_isOnOne_44 (by decide) ?_
    obtain a1 := h.symm
    exact g_nmi a1 (hfin _ _ _ _ (a1 ▸ (Or.inr rfl)) hW dX2_isOnOne_45)
  · replace h := gi_f h c1
    rcases Classical.em (x0 = (11 : Int32)) with c2 | c2
    · replace h := gi_t h c2
      refine g_lookIn (k := (11 : Int32)) (tgt := 44) (off := 43) hx hb c2 dX2_isOnOne_1 (by decide) (by decide) (by decide) ?_
      refine lv_iconst (v := (1 : Int32)) hx hb dX2_isOnOne_44 (by decide) ?_
      obtain a1 := h.symm
      exact g_nmi a1 (hfin _ _ _ _ (a1 ▸ (Or.inr rfl)) hW dX2_isOnOne_45)
    · replace h := gi_f h c2
      rcases Classical.em (x0 = (18 : Int32)) with c3 | c3
      · replace h := gi_t h c3
        refine g_lookIn (k := (18 : Int32)) (tgt := 44) (off := 43) hx hb c3 dX2_isOnOne_1 (by decide) (by decide) (by decide) ?_
        refine lv_iconst (v := (1 : Int32)) hx hb dX2_isOnOne_44 (by decide) ?_
        obtain a1 := h.symm
        exact g_nmi a1 (hfin _ _ _ _ (a1 ▸ (Or.inr rfl)) hW dX2_isOnOne_45)
      · replace h := gi_f h c3
        rcases Classical.em (x0 = (38 : Int32)) with c4 | c4
        · replace h := gi_t h c4
          refine g_lookIn (k := (38 : Int32)) (tgt := 44) (off := 43) hx hb c4 dX2_isOnOne_1 (by decide) (by decide) (by decide) ?_
          refine lv_iconst (v := (1 : Int32)) hx hb dX2_isOnOne_44 (by decide) ?_
          obtain a1 := h.symm
          exact g_nmi a1 (hfin _ _ _ _ (a1 ▸ (Or.inr rfl)) hW dX2_isOnOne_45)
        · replace h := gi_f h c4
          refine lv_lookup (tgt := 46) (off := 45) hx hb dX2_isOnOne_1 (by decide) (by show Op.lookupswitch.offset [(10, 43), (11, 43), (18, 43), (38, 43)] (45) x0.toInt = _; rw [lv_osw c1 (by decide), lv_osw c2 (by decide), lv_osw c3 (by decide), lv_osw c4 (by decide)]; rfl) (by decide) ?_
          refine lv_iconst (v := (0 : Int32)) hx hb dX2_isOnOne_46 (by decide) ?_
          obtain a1 := h.symm
          exact g_nmi a1 (hfin _ _ _ _ (a1 ▸ (Or.inl rfl)) hW dX2_isOnOne_47)
noncomputable def fX2_limited  (x0 : Int64)  : Int32 :=
  gi ((lg_cmp x0 (1000000 : Int64)) ≤ 0)
 (gi (0 ≤ (lg_cmp x0 (-1000000 : Int64)))
 ((x0).toInt32)
 ((-1000000 : Int32)))
 ((1000000 : Int32))
set_option maxHeartbeats 4000000 in
set_option maxRecDepth 100000 in
theorem kX2_limited {l : Launch} {G : gG} {ad : Nat → Nat} (hok : gInj LC ad)    (x0 : Int64) (I : gI) (J : gJ) (r : Int32) (h : fX2_limited x0 = r) : gMi l yX2_limited cX2_limited 2 (some .int) 1 G LC ad [.long x0] I J r True I J := by
  refine gMi_of (lst := [(0, .long x0)]) (by decide) hok (Nat.le_of_ble_eq_true rfl) rfl ?_
  intro p e s m args below meth c Q ls K hW hl hfin
  have hx := K.1; have hb := K.2.1; have hown := K.2.2.2.1; have hts := K.2.2.2.2.1
  unfold fX2_limited at h
  refine lv_lload_n hx hb dX2_limited_0 rfl (lv_at hl 0 rfl) ?_
  refine lv_ldc2 (v := (1000000 : Int64)) hx hb hown (hts _ q_713) dX2_limited_1 ?_
  refine W.lcmp hx hb dX2_limited_4 ?_
  refine lv_if_le (tgt := 11) hx hb dX2_limited_5 (by decide) (fun c1 => ?_) (fun c1 => ?_)
  · replace h := gi_t h c1
    refine lv_lload_n hx hb dX2_limited_11 rfl (lv_at hl 0 rfl) ?_
    refine lv_ldc2 (v := (-1000000 : Int64)) hx hb hown (hts _ q_715) dX2_limited_12 ?_
    refine W.lcmp hx hb dX2_limited_15 ?_
    refine lv_if_ge (tgt := 24) hx hb dX2_limited_16 (by decide) (fun c2 => ?_) (fun c2 => ?_)
    · replace h := gi_t h c2
      refine lv_lload_n hx hb dX2_limited_24 rfl (lv_at hl 0 rfl) ?_
      refine lv_l2i hx hb dX2_limited_25 rfl ?_
      obtain a1 := h.symm
      exact g_nmi a1 (hfin _ _ _ _ hW dX2_limited_26)
    · replace h := gi_f h c2
      refine lv_ldc (v := (-1000000 : Int32)) hx hb hown (hts _ q_716) dX2_limited_19 ?_
      refine lv_goto (tgt := 26) hx hb dX2_limited_21 (by decide) ?_
      obtain a1 := h.symm
      exact g_nmi a1 (hfin _ _ _ _ hW dX2_limited_26)
  · replace h := gi_f h c1
    refine lv_ldc (v := (1000000 : Int32)) hx hb hown (hts _ q_714) dX2_limited_8 ?_
    obtain a1 := h.symm
    exact g_nmi a1 (hfin _ _ _ _ hW dX2_limited_10)
noncomputable def fJ6_bitCount_0f7a4  (x0 : Int32)  : Int32 :=
  lz ((x0 - ((jushr x0 (1 : Int32)) &&& (1431655765 : Int32)))) (fun (u1 : Int32) => lz (((u1 &&& (858993459 : Int32)) + ((jushr u1 (2 : Int32)) &&& (858993459 : Int32)))) (fun (u3 : Int32) => lz (((u3 + (jushr u3 (4 : Int32))) &&& (252645135 : Int32))) (fun (u5 : Int32) => lz ((u5 + (jushr u5 (8 : Int32)))) (fun (u7 : Int32) => lz ((u7 + (jushr u7 (16 : Int32)))) (fun (u9 : Int32) => (u9 &&& (63 : Int32)))))))
set_option maxHeartbeats 4000000 in
set_option maxRecDepth 100000 in
theorem kJ6_bitCount_0f7a4 {l : Launch} {G : gG} {ad : Nat → Nat} (hok : gInj LC ad)    (x0 : Int32) (I : gI) (J : gJ) (r : Int32) (h : fJ6_bitCount_0f7a4 x0 = r) : gMi l yJ6_bitCount_0f7a4 cJ6_bitCount_0f7a4 1 (some .int) 1 G LC ad [.int x0] I J r True I J := by
  refine gMi_of (lst := [(0, .int x0)]) (by decide) hok (Nat.le_of_ble_eq_true rfl) rfl ?_
  intro p e s m args below meth c Q ls K hW hl hfin
  have hx := K.1; have hb := K.2.1; have hown := K.2.2.2.1; have hts := K.2.2.2.2.1
  unfold fJ6_bitCount_0f7a4 at h
  refine lv_iload_n hx hb dJ6_bitCount_0f7a4_0 rfl (lv_at hl 0 rfl) ?_
  refine lv_iload_n hx hb dJ6_bitCount_0f7a4_1 rfl (lv_at hl 0 rfl) ?_
  refine lv_iconst (v := (1 : Int32)) hx hb dJ6_bitCount_0f7a4_2 (by decide) ?_
  refine g_iushr hx hb dJ6_bitCount_0f7a4_3 ?_
  refine lv_ldcw (v := (1431655765 : Int32)) hx hb hown (hts _ q_468) dJ6_bitCount_0f7a4_4 ?_
  refine lv_iand hx hb dJ6_bitCount_0f7a4_7 ?_
  refine lv_isub hx hb dJ6_bitCount_0f7a4_8 ?_
  obtain ⟨u1, e2, h⟩ := lz_o h
  refine g_nmi e2 ?_
  refine lv_istore_n (lv' := [(0, .int u1)]) hx hb dJ6_bitCount_0f7a4_9 rfl hl (by decide) rfl (fun ls hl => ?_)
  refine lv_iload_n hx hb dJ6_bitCount_0f7a4_10 rfl (lv_at hl 0 rfl) ?_
  refine lv_ldcw (v := (858993459 : Int32)) hx hb hown (hts _ q_469) dJ6_bitCount_0f7a4_11 ?_
  refine lv_iand hx hb dJ6_bitCount_0f7a4_14 ?_
  refine lv_iload_n hx hb dJ6_bitCount_0f7a4_15 rfl (lv_at hl 0 rfl) ?_
  refine lv_iconst (v := (2 : Int32)) hx hb dJ6_bitCount_0f7a4_16 (by decide) ?_
  refine g_iushr hx hb dJ6_bitCount_0f7a4_17 ?_
  refine lv_ldcw (v := (858993459 : Int32)) hx hb hown (hts _ q_469) dJ6_bitCount_0f7a4_18 ?_
  refine lv_iand hx hb dJ6_bitCount_0f7a4_21 ?_
  refine lv_iadd hx hb dJ6_bitCount_0f7a4_22 ?_
  obtain ⟨u3, e4, h⟩ := lz_o h
  refine g_nmi e4 ?_
  refine lv_istore_n (lv' := [(0, .int u3)]) hx hb dJ6_bitCount_0f7a4_23 rfl hl (by decide) rfl (fun ls hl => ?_)
  refine lv_iload_n hx hb dJ6_bitCount_0f7a4_24 rfl (lv_at hl 0 rfl) ?_
  refine lv_iload_n hx hb dJ6_bitCount_0f7a4_25 rfl (lv_at hl 0 rfl) ?_
  refine lv_iconst (v := (4 : Int32)) hx hb dJ6_bitCount_0f7a4_26 (by decide) ?_
  refine g_iushr hx hb dJ6_bitCount_0f7a4_27 ?_
  refine lv_iadd hx hb dJ6_bitCount_0f7a4_28 ?_
  refine lv_ldcw (v := (252645135 : Int32)) hx hb hown (hts _ q_470) dJ6_bitCount_0f7a4_29 ?_
  refine lv_iand hx hb dJ6_bitCount_0f7a4_32 ?_
  obtain ⟨u5, e6, h⟩ := lz_o h
  refine g_nmi e6 ?_
  refine lv_istore_n (lv' := [(0, .int u5)]) hx hb dJ6_bitCount_0f7a4_33 rfl hl (by decide) rfl (fun ls hl => ?_)
  refine lv_iload_n hx hb dJ6_bitCount_0f7a4_34 rfl (lv_at hl 0 rfl) ?_
  refine lv_iload_n hx hb dJ6_bitCount_0f7a4_35 rfl (lv_at hl 0 rfl) ?_
  refine lv_bipush (v := (8 : Int32)) hx hb dJ6_bitCount_0f7a4_36 (by decide) ?_
  refine g_iushr hx hb dJ6_bitCount_0f7a4_38 ?_
  refine lv_iadd hx hb dJ6_bitCount_0f7a4_39 ?_
  obtain ⟨u7, e8, h⟩ := lz_o h
  refine g_nmi e8 ?_
  refine lv_istore_n (lv' := [(0, .int u7)]) hx hb dJ6_bitCount_0f7a4_40 rfl hl (by decide) rfl (fun ls hl => ?_)
  refine lv_iload_n hx hb dJ6_bitCount_0f7a4_41 rfl (lv_at hl 0 rfl) ?_
  refine lv_iload_n hx hb dJ6_bitCount_0f7a4_42 rfl (lv_at hl 0 rfl) ?_
  refine lv_bipush (v := (16 : Int32)) hx hb dJ6_bitCount_0f7a4_43 (by decide) ?_
  refine g_iushr hx hb dJ6_bitCount_0f7a4_45 ?_
  refine lv_iadd hx hb dJ6_bitCount_0f7a4_46 ?_
  obtain ⟨u9, e10, h⟩ := lz_o h
  refine g_nmi e10 ?_
  refine lv_istore_n (lv' := [(0, .int u9)]) hx hb dJ6_bitCount_0f7a4_47 rfl hl (by decide) rfl (fun ls hl => ?_)
  refine lv_iload_n hx hb dJ6_bitCount_0f7a4_48 rfl (lv_at hl 0 rfl) ?_
  refine lv_bipush (v := (63 : Int32)) hx hb dJ6_bitCount_0f7a4_49 (by decide) ?_
  refine lv_iand hx hb dJ6_bitCount_0f7a4_51 ?_
  obtain a1 := h.symm
  exact g_nmi a1 (hfin _ _ _ _ hW dJ6_bitCount_0f7a4_52)
theorem nm_X0_longOf : gNm yX0_longOf 1 := by decide +kernel
theorem nm_J6_bitCount_0f7a4 : gNm yJ6_bitCount_0f7a4 1 := by decide +kernel
theorem kLC_4 : gAt LC 4 1 6 := ⟨by decide, by decide +kernel⟩
theorem rLC_1_2 : LC.2.2 1 2 = some 4 := by decide +kernel
noncomputable def fX2_named (w0 : Nat) (x0 : Int32) (x3 : Int32) (x4 : Int32) (I : gI) : Option (Int32) :=
  gi (x0 = (2 : Int32))
 (some x3)
 (gi (x0 = (3 : Int32))
 (some (0 : Int32))
 (gi (x0 = (4 : Int32))
 (some x4)
 (gi (x0 = (5 : Int32))
 (some (0 : Int32))
 (gi (x0 = (6 : Int32))
 (some (0 : Int32))
 (gi (x0 = (7 : Int32))
 (some (0 : Int32))
 (gi (x0 = (8 : Int32))
 (some (0 : Int32))
 (gi (x0 = (9 : Int32))
 (some (I w0 7))
 (gi (x0 = (10 : Int32))
 (some (0 : Int32))
 (gi (x0 = (11 : Int32))
 (some (0 : Int32))
 (gi (x0 = (12 : Int32))
 (some (0 : Int32))
 (gi (x0 = (13 : Int32))
 (some (0 : Int32))
 (gi (x0 = (14 : Int32))
 (some (0 : Int32))
 (gi (x0 = (15 : Int32))
 (some (0 : Int32))
 (gi (x0 = (16 : Int32))
 (some (0 : Int32))
 (gi (x0 = (17 : Int32))
 (some (0 : Int32))
 (gi (x0 = (18 : Int32))
 (some (0 : Int32))
 (gi (x0 = (19 : Int32))
 (bd (fX0_longOf x3 I) (fun (u19 : Int32) => some u19))
 (gi (x0 = (20 : Int32))
 (gd (vp_in x3 6) (some (I (w0 + 1) (x3).toNatClampNeg)))
 (gi (x0 = (21 : Int32))
 (some (fJ6_bitCount_0f7a4 (I w0 4)))
 (gi (x0 = (22 : Int32))
 (gd (vp_in x3 6) (some ((jshr (I 4 (x3).toNatClampNeg) x4) &&& (1 : Int32))))
 (gi (x0 = (23 : Int32))
 (gd (vp_in x3 6) (some (fJ6_bitCount_0f7a4 (I (w0 + 2) (x3).toNatClampNeg))))
 (some (0 : Int32)))))))))))))))))))))))
set_option maxHeartbeats 4000000 in
set_option maxRecDepth 100000 in
theorem kX2_named {l : Launch} {G : gG} {ad : Nat → Nat} (hok : gInj LC ad)  (w0 : Nat) (hw0 : gAt LC w0 0 4) (x0 : Int32) (x3 : Int32) (x4 : Int32) (I : gI) (J : gJ) (r : Int32) (h : fX2_named w0 x0 x3 x4 I = some r) : gMi l yX2_named cX2_named 5 (some .int) 2 G LC ad [.int x0, .ref (ad 1), .ref (ad w0), .int x3, .int x4] I J r True I J := by
  refine gMi_of (lst := [(0, .int x0), (1, .ref (ad 1)), (2, .ref (ad w0)), (3, .int x3), (4, .int x4)]) (by decide) hok (Nat.le_of_ble_eq_true rfl) rfl ?_
  intro p e s m args below meth c Q ls K hW hl hfin
  have hn : (some r : Option (Int32)) ≠ none := Option.some_ne_none _
  have hx := K.1; have hb := K.2.1; have hown := K.2.2.2.1; have hts := K.2.2.2.2.1
  unfold fX2_named at h
  refine lv_iload_n hx hb dX2_named_0 rfl (lv_at hl 0 rfl) ?_
  rcases Classical.em (x0 = (2 : Int32)) with c1 | c1
  · replace h := gi_t h c1
    refine g_tabIn (k := (2 : Int32)) (tgt := 109) (off := 108) hx hb c1 dX2_named_1 (by decide) (by decide) (by decide) (by decide) ?_
    refine lv_iload_n hx hb dX2_named_109 rfl (lv_at hl 3 rfl) ?_
    obtain a1 := so1 h
    exact g_nmi a1 (hfin _ _ _ _ hW dX2_named_110)
  · replace h := gi_f h c1
    rcases Classical.em (x0 = (3 : Int32)) with c2 | c2
    · replace h := gi_t h c2
      refine g_tabIn (k := (3 : Int32)) (tgt := 157) (off := 156) hx hb c2 dX2_named_1 (by decide) (by decide) (by decide) (by decide) ?_
      refine lv_iconst (v := (0 : Int32)) hx hb dX2_named_157 (by decide) ?_
      obtain a1 := so1 h
      exact g_nmi a1 (hfin _ _ _ _ hW dX2_named_158)
    · replace h := gi_f h c2
      rcases Classical.em (x0 = (4 : Int32)) with c3 | c3
      · replace h := gi_t h c3
        refine g_tabIn (k := (4 : Int32)) (tgt := 111) (off := 110) hx hb c3 dX2_named_1 (by decide) (by decide) (by decide) (by decide) ?_
        refine lv_iload hx hb dX2_named_111 (lv_at hl 4 rfl) ?_
        obtain a1 := so1 h
        exact g_nmi a1 (hfin _ _ _ _ hW dX2_named_113)
      · replace h := gi_f h c3
        rcases Classical.em (x0 = (5 : Int32)) with c4 | c4
        · replace h := gi_t h c4
          refine g_tabIn (k := (5 : Int32)) (tgt := 157) (off := 156) hx hb c4 dX2_named_1 (by decide) (by decide) (by decide) (by decide) ?_
          refine lv_iconst (v := (0 : Int32)) hx hb dX2_named_157 (by decide) ?_
          obtain a1 := so1 h
          exact g_nmi a1 (hfin _ _ _ _ hW dX2_named_158)
        · replace h := gi_f h c4
          rcases Classical.em (x0 = (6 : Int32)) with c5 | c5
          · replace h := gi_t h c5
            refine g_tabIn (k := (6 : Int32)) (tgt := 157) (off := 156) hx hb c5 dX2_named_1 (by decide) (by decide) (by decide) (by decide) ?_
            refine lv_iconst (v := (0 : Int32)) hx hb dX2_named_157 (by decide) ?_
            obtain a1 := so1 h
            exact g_nmi a1 (hfin _ _ _ _ hW dX2_named_158)
          · replace h := gi_f h c5
            rcases Classical.em (x0 = (7 : Int32)) with c6 | c6
            · replace h := gi_t h c6
              refine g_tabIn (k := (7 : Int32)) (tgt := 157) (off := 156) hx hb c6 dX2_named_1 (by decide) (by decide) (by decide) (by decide) ?_
              refine lv_iconst (v := (0 : Int32)) hx hb dX2_named_157 (by decide) ?_
              obtain a1 := so1 h
              exact g_nmi a1 (hfin _ _ _ _ hW dX2_named_158)
            · replace h := gi_f h c6
              rcases Classical.em (x0 = (8 : Int32)) with c7 | c7
              · replace h := gi_t h c7
                refine g_tabIn (k := (8 : Int32)) (tgt := 157) (off := 156) hx hb c7 dX2_named_1 (by decide) (by decide) (by decide) (by decide) ?_
                refine lv_iconst (v := (0 : Int32)) hx hb dX2_named_157 (by decide) ?_
                obtain a1 := so1 h
                exact g_nmi a1 (hfin _ _ _ _ hW dX2_named_158)
              · replace h := gi_f h c7
                rcases Classical.em (x0 = (9 : Int32)) with c8 | c8
                · replace h := gi_t h c8
                  refine g_tabIn (k := (9 : Int32)) (tgt := 104) (off := 103) hx hb c8 dX2_named_1 (by decide) (by decide) (by decide) (by decide) ?_
                  refine lv_aload_n hx hb dX2_named_104 rfl (lv_at hl 2 rfl) ?_
                  refine g_get K hW (t := 0) (ci := 4) (k := 7) (v := .int (I w0 7)) hw0 rfl rfl i_X5 (by decide) q_186 rfl rfl dX2_named_105 ?_
                  obtain a1 := so1 h
                  exact g_nmi a1 (hfin _ _ _ _ hW dX2_named_108)
                · replace h := gi_f h c8
                  rcases Classical.em (x0 = (10 : Int32)) with c9 | c9
                  · replace h := gi_t h c9
                    refine g_tabIn (k := (10 : Int32)) (tgt := 157) (off := 156) hx hb c9 dX2_named_1 (by decide) (by decide) (by decide) (by decide) ?_
                    refine lv_iconst (v := (0 : Int32)) hx hb dX2_named_157 (by decide) ?_
                    obtain a1 := so1 h
                    exact g_nmi a1 (hfin _ _ _ _ hW dX2_named_158)
                  · replace h := gi_f h c9
                    rcases Classical.em (x0 = (11 : Int32)) with c10 | c10
                    · replace h := gi_t h c10
                      refine g_tabIn (k := (11 : Int32)) (tgt := 157) (off := 156) hx hb c10 dX2_named_1 (by decide) (by decide) (by decide) (by decide) ?_
                      refine lv_iconst (v := (0 : Int32)) hx hb dX2_named_157 (by decide) ?_
                      obtain a1 := so1 h
                      exact g_nmi a1 (hfin _ _ _ _ hW dX2_named_158)
                    · replace h := gi_f h c10
                      rcases Classical.em (x0 = (12 : Int32)) with c11 | c11
                      · replace h := gi_t h c11
                        refine g_tabIn (k := (12 : Int32)) (tgt := 157) (off := 156) hx hb c11 dX2_named_1 (by decide) (by decide) (by decide) (by decide) ?_
                        refine lv_iconst (v := (0 : Int32)) hx hb dX2_named_157 (by decide) ?_
                        obtain a1 := so1 h
                        exact g_nmi a1 (hfin _ _ _ _ hW dX2_named_158)
                      · replace h := gi_f h c11
                        rcases Classical.em (x0 = (13 : Int32)) with c12 | c12
                        · replace h := gi_t h c12
                          refine g_tabIn (k := (13 : Int32)) (tgt := 157) (off := 156) hx hb c12 dX2_named_1 (by decide) (by decide) (by decide) (by decide) ?_
                          refine lv_iconst (v := (0 : Int32)) hx hb dX2_named_157 (by decide) ?_
                          obtain a1 := so1 h
                          exact g_nmi a1 (hfin _ _ _ _ hW dX2_named_158)
                        · replace h := gi_f h c12
                          rcases Classical.em (x0 = (14 : Int32)) with c13 | c13
                          · replace h := gi_t h c13
                            refine g_tabIn (k := (14 : Int32)) (tgt := 157) (off := 156) hx hb c13 dX2_named_1 (by decide) (by decide) (by decide) (by decide) ?_
                            refine lv_iconst (v := (0 : Int32)) hx hb dX2_named_157 (by decide) ?_
                            obtain a1 := so1 h
                            exact g_nmi a1 (hfin _ _ _ _ hW dX2_named_158)
                          · replace h := gi_f h c13
                            rcases Classical.em (x0 = (15 : Int32)) with c14 | c14
                            · replace h := gi_t h c14
                              refine g_tabIn (k := (15 : Int32)) (tgt := 157) (off := 156) hx hb c14 dX2_named_1 (by decide) (by decide) (by decide) (by decide) ?_
                              refine lv_iconst (v := (0 : Int32)) hx hb dX2_named_157 (by decide) ?_
                              obtain a1 := so1 h
                              exact g_nmi a1 (hfin _ _ _ _ hW dX2_named_158)
                            · replace h := gi_f h c14
                              rcases Classical.em (x0 = (16 : Int32)) with c15 | c15
                              · replace h := gi_t h c15
                                refine g_tabIn (k := (16 : Int32)) (tgt := 157) (off := 156) hx hb c15 dX2_named_1 (by decide) (by decide) (by decide) (by decide) ?_
                                refine lv_iconst (v := (0 : Int32)) hx hb dX2_named_157 (by decide) ?_
                                obtain a1 := so1 h
                                exact g_nmi a1 (hfin _ _ _ _ hW dX2_named_158)
                              · replace h := gi_f h c15
                                rcases Classical.em (x0 = (17 : Int32)) with c16 | c16
                                · replace h := gi_t h c16
                                  refine g_tabIn (k := (17 : Int32)) (tgt := 157) (off := 156) hx hb c16 dX2_named_1 (by decide) (by decide) (by decide) (by decide) ?_
                                  refine lv_iconst (v := (0 : Int32)) hx hb dX2_named_157 (by decide) ?_
                                  obtain a1 := so1 h
                                  exact g_nmi a1 (hfin _ _ _ _ hW dX2_named_158)
                                · replace h := gi_f h c16
                                  rcases Classical.em (x0 = (18 : Int32)) with c17 | c17
                                  · replace h := gi_t h c17
                                    refine g_tabIn (k := (18 : Int32)) (tgt := 157) (off := 156) hx hb c17 dX2_named_1 (by decide) (by decide) (by decide) (by decide) ?_
                                    refine lv_iconst (v := (0 : Int32)) hx hb dX2_named_157 (by decide) ?_
                                    obtain a1 := so1 h
                                    exact g_nmi a1 (hfin _ _ _ _ hW dX2_named_158)
                                  · replace h := gi_f h c17
                                    rcases Classical.em (x0 = (19 : Int32)) with c18 | c18
                                    · replace h := gi_t h c18
                                      refine g_tabIn (k := (19 : Int32)) (tgt := 114) (off := 113) hx hb c18 dX2_named_1 (by decide) (by decide) (by decide) (by decide) ?_
                                      refine lv_aload_n hx hb dX2_named_114 rfl (lv_at hl 1 rfl) ?_
                                      refine lv_iload_n hx hb dX2_named_115 rfl (lv_at hl 3 rfl) ?_
                                      obtain ⟨u19, e20, h⟩ := bd_o h hn
                                      refine g_callVi (rest := []) K hW hl (kX0_longOf (l := l) (G := G) (ad := ad) hok x3 I J u19 e20) kLC_1 rfl (gG_V q_726 q_694 q_695 q_134 q_696) nm_X0_longOf ⟨Nat.le_of_ble_eq_true rfl, Nat.le_of_ble_eq_true rfl⟩ rfl rfl (Nat.le_of_ble_eq_true rfl) ⟨Nat.zero_le _, Nat.zero_le _⟩ dX2_named_116 (fun z21 H locs hW => ?_)
                                      obtain a1 := so1 h
                                      exact g_nmi a1 (hfin _ _ _ _ hW dX2_named_119)
                                    · replace h := gi_f h c18
                                      rcases Classical.em (x0 = (20 : Int32)) with c22 | c22
                                      · replace h := gi_t h c22
                                        refine g_tabIn (k := (20 : Int32)) (tgt := 120) (off := 119) hx hb c22 dX2_named_1 (by decide) (by decide) (by decide) (by decide) ?_
                                        refine lv_aload_n hx hb dX2_named_120 rfl (lv_at hl 2 rfl) ?_
                                        refine g_get K hW (t := 2) (ci := 4) (k := 0) (v := .ref (ad (w0 + 1))) hw0 rfl rfl i_X5 (by decide) q_170 rfl (gfv2 (rW_0 hw0)) dX2_named_121 ?_
                                        refine lv_iload_n hx hb dX2_named_124 rfl (lv_at hl 3 rfl) ?_
                                        obtain ⟨g23, h⟩ := gd_o h hn
                                        refine g_iald K hW (kW_0 hw0) g23 rfl dX2_named_125 ?_
                                        obtain a1 := so1 h
                                        exact g_nmi a1 (hfin _ _ _ _ hW dX2_named_126)
                                      · replace h := gi_f h c22
                                        rcases Classical.em (x0 = (21 : Int32)) with c24 | c24
                                        · replace h := gi_t h c24
                                          refine g_tabIn (k := (21 : Int32)) (tgt := 127) (off := 126) hx hb c24 dX2_named_1 (by decide) (by decide) (by decide) (by decide) ?_
                                          refine lv_aload_n hx hb dX2_named_127 rfl (lv_at hl 2 rfl) ?_
                                          refine g_get K hW (t := 0) (ci := 4) (k := 4) (v := .int (I w0 4)) hw0 rfl rfl i_X5 (by decide) q_179 rfl rfl dX2_named_128 ?_
                                          refine g_callSi (rest := []) K hW hl (kJ6_bitCount_0f7a4 (l := l) (G := G) (ad := ad) hok (I w0 4) I J (fJ6_bitCount_0f7a4 (I w0 4)) rfl) q_727 q_466 q_146 q_467 nm_J6_bitCount_0f7a4 ⟨Nat.le_of_ble_eq_true rfl, Nat.le_of_ble_eq_true rfl⟩ rfl rfl (Nat.le_of_ble_eq_true rfl) ⟨Nat.zero_le _, Nat.zero_le _⟩ dX2_named_131 (fun z25 H locs hW => ?_)
                                          obtain a1 := so1 h
                                          exact g_nmi a1 (hfin _ _ _ _ hW dX2_named_134)
                                        · replace h := gi_f h c24
                                          rcases Classical.em (x0 = (22 : Int32)) with c26 | c26
                                          · replace h := gi_t h c26
                                            refine g_tabIn (k := (22 : Int32)) (tgt := 135) (off := 134) hx hb c26 dX2_named_1 (by decide) (by decide) (by decide) (by decide) ?_
                                            refine lv_aload_n hx hb dX2_named_135 rfl (lv_at hl 1 rfl) ?_
                                            refine g_get K hW (t := 2) (ci := 0) (k := 2) (v := .ref (ad 4)) kLC_1 rfl rfl i_X0 (by decide) q_218 rfl (gfv2 rLC_1_2) dX2_named_136 ?_
                                            refine lv_iload_n hx hb dX2_named_139 rfl (lv_at hl 3 rfl) ?_
                                            obtain ⟨g27, h⟩ := gd_o h hn
                                            refine g_iald K hW kLC_4 g27 rfl dX2_named_140 ?_
                                            refine lv_iload hx hb dX2_named_141 (lv_at hl 4 rfl) ?_
                                            refine g_ishr hx hb dX2_named_143 ?_
                                            refine lv_iconst (v := (1 : Int32)) hx hb dX2_named_144 (by decide) ?_
                                            refine lv_iand hx hb dX2_named_145 ?_
                                            obtain a1 := so1 h
                                            exact g_nmi a1 (hfin _ _ _ _ hW dX2_named_146)
                                          · replace h := gi_f h c26
                                            rcases Classical.em (x0 = (23 : Int32)) with c28 | c28
                                            · replace h := gi_t h c28
                                              refine g_tabIn (k := (23 : Int32)) (tgt := 147) (off := 146) hx hb c28 dX2_named_1 (by decide) (by decide) (by decide) (by decide) ?_
                                              refine lv_aload_n hx hb dX2_named_147 rfl (lv_at hl 2 rfl) ?_
                                              refine g_get K hW (t := 2) (ci := 4) (k := 1) (v := .ref (ad (w0 + 2))) hw0 rfl rfl i_X5 (by decide) q_173 rfl (gfv2 (rW_1 hw0)) dX2_named_148 ?_
                                              refine lv_iload_n hx hb dX2_named_151 rfl (lv_at hl 3 rfl) ?_
                                              obtain ⟨g29, h⟩ := gd_o h hn
                                              refine g_iald K hW (kW_1 hw0) g29 rfl dX2_named_152 ?_
                                              refine g_callSi (rest := []) K hW hl (kJ6_bitCount_0f7a4 (l := l) (G := G) (ad := ad) hok (I (w0 + 2) (x3).toNatClampNeg) I J (fJ6_bitCount_0f7a4 (I (w0 + 2) (x3).toNatClampNeg)) rfl) q_727 q_466 q_146 q_467 nm_J6_bitCount_0f7a4 ⟨Nat.le_of_ble_eq_true rfl, Nat.le_of_ble_eq_true rfl⟩ rfl rfl (Nat.le_of_ble_eq_true rfl) ⟨Nat.zero_le _, Nat.zero_le _⟩ dX2_named_153 (fun z30 H locs hW => ?_)
                                              obtain a1 := so1 h
                                              exact g_nmi a1 (hfin _ _ _ _ hW dX2_named_156)
                                            · replace h := gi_f h c28
                                              refine lv_tableOut (tgt := 157) hx hb dX2_named_1 (by have := lv_neT (a := 2) c1 (by decide); have := lv_neT (a := 3) c2 (by decide); have := lv_neT (a := 4) c3 (by decide); have := lv_neT (a := 5) c4 (by decide); have := lv_neT (a := 6) c5 (by decide); have := lv_neT (a := 7) c6 (by decide); have := lv_neT (a := 8) c7 (by decide); have := lv_neT (a := 9) c8 (by decide); have := lv_neT (a := 10) c9 (by decide); have := lv_neT (a := 11) c10 (by decide); have := lv_neT (a := 12) c11 (by decide); have := lv_neT (a := 13) c12 (by decide); have := lv_neT (a := 14) c13 (by decide); have := lv_neT (a := 15) c14 (by decide); have := lv_neT (a := 16) c15 (by decide); have := lv_neT (a := 17) c16 (by decide); have := lv_neT (a := 18) c17 (by decide); have := lv_neT (a := 19) c18 (by decide); have := lv_neT (a := 20) c22 (by decide); have := lv_neT (a := 21) c24 (by decide); have := lv_neT (a := 22) c26 (by decide); have := lv_neT (a := 23) c28 (by decide); omega) (by decide) ?_
                                              refine lv_iconst (v := (0 : Int32)) hx hb dX2_named_157 (by decide) ?_
                                              obtain a1 := so1 h
                                              exact g_nmi a1 (hfin _ _ _ _ hW dX2_named_158)
theorem kLC_3 : gAt LC 3 1 5 := ⟨by decide, by decide +kernel⟩
theorem rLC_1_1 : LC.2.2 1 1 = some 3 := by decide +kernel
noncomputable def fX2_ofOne (w0 : Nat) (x0 : Int32) (x1 : Int32) (I : gI) : Option (Int32) :=
  gi (x0 = (10 : Int32))
 (gi (x1 < 0)
 (some (0 : Int32))
 (gi ((5 : Int32) ≤ x1)
 (some (0 : Int32))
 (gd (vp_in x1 5) (some (I 3 (x1).toNatClampNeg)))))
 (gi (x0 = (11 : Int32))
 (gi (x1 < 0)
 (some (0 : Int32))
 (gi ((I 1 12) ≤ x1)
 (some (0 : Int32))
 (gd (vp_in x1 6) (some (I (w0 + 1) (x1).toNatClampNeg)))))
 (gi (x0 = (18 : Int32))
 (some ((1 : Int32) - x1))
 (gi (x0 = (38 : Int32))
 (some (-x1))
 (some (0 : Int32)))))
set_option maxHeartbeats 4000000 in
set_option maxRecDepth 100000 in
theorem kX2_ofOne {l : Launch} {G : gG} {ad : Nat → Nat} (hok : gInj LC ad)  (w0 : Nat) (hw0 : gAt LC w0 0 4) (x0 : Int32) (x1 : Int32) (I : gI) (J : gJ) (r : Int32) (h : fX2_ofOne w0 x0 x1 I = some r) : gMi l yX2_ofOne cX2_ofOne 4 (some .int) 1 G LC ad [.int x0, .int x1, .ref (ad 1), .ref (ad w0)] I J r True I J := by
  refine gMi_of (lst := [(0, .int x0), (1, .int x1), (2, .ref (ad 1)), (3, .ref (ad w0))]) (by decide) hok (Nat.le_of_ble_eq_true rfl) rfl ?_
  intro p e s m args below meth c Q ls K hW hl hfin
  have hn : (some r : Option (Int32)) ≠ none := Option.some_ne_none _
  have hx := K.1; have hb := K.2.1; have hown := K.2.2.2.1; have hts := K.2.2.2.2.1
  unfold fX2_ofOne at h
  refine lv_iload_n hx hb dX2_ofOne_0 rfl (lv_at hl 0 rfl) ?_
  rcases Classical.em (x0 = (10 : Int32)) with c1 | c1
  · replace h := gi_t h c1
    refine g_lookIn (k := (10 : Int32)) (tgt := 51) (off := 50) hx hb c1 dX2_ofOne_1 (by decide) (by decide) (by decide) ?_
    refine lv_iload_n hx hb dX2_ofOne_51 rfl (lv_at hl 1 rfl) ?_
    refine lv_if_lt (tgt := 69) hx hb dX2_ofOne_52 (by decide) (fun c2 => ?_) (fun c2 => ?_)
    · replace h := gi_t h c2
      refine lv_iconst (v := (0 : Int32)) hx hb dX2_ofOne_69 (by decide) ?_
      obtain a1 := so1 h
      exact g_nmi a1 (hfin _ _ _ _ hW dX2_ofOne_70)
    · replace h := gi_f h c2
      refine lv_iload_n hx hb dX2_ofOne_55 rfl (lv_at hl 1 rfl) ?_
      refine lv_iconst (v := (5 : Int32)) hx hb dX2_ofOne_56 (by decide) ?_
      refine lv_icmp_ge (tgt := 69) hx hb dX2_ofOne_57 (by decide) (fun c3 => ?_) (fun c3 => ?_)
      · replace h := gi_t h c3
        refine lv_iconst (v := (0 : Int32)) hx hb dX2_ofOne_69 (by decide) ?_
        obtain a1 := so1 h
        exact g_nmi a1 (hfin _ _ _ _ hW dX2_ofOne_70)
      · replace h := gi_f h c3
        refine lv_aload_n hx hb dX2_ofOne_60 rfl (lv_at hl 2 rfl) ?_
        refine g_get K hW (t := 2) (ci := 0) (k := 1) (v := .ref (ad 3)) kLC_1 rfl rfl i_X0 (by decide) q_215 rfl (gfv2 rLC_1_1) dX2_ofOne_61 ?_
        refine lv_iload_n hx hb dX2_ofOne_64 rfl (lv_at hl 1 rfl) ?_
        obtain ⟨g4, h⟩ := gd_o h hn
        refine g_iald K hW kLC_3 g4 rfl dX2_ofOne_65 ?_
        refine lv_goto (tgt := 70) hx hb dX2_ofOne_66 (by decide) ?_
        obtain a1 := so1 h
        exact g_nmi a1 (hfin _ _ _ _ hW dX2_ofOne_70)
  · replace h := gi_f h c1
    rcases Classical.em (x0 = (11 : Int32)) with c5 | c5
    · replace h := gi_t h c5
      refine g_lookIn (k := (11 : Int32)) (tgt := 71) (off := 70) hx hb c5 dX2_ofOne_1 (by decide) (by decide) (by decide) ?_
      refine lv_iload_n hx hb dX2_ofOne_71 rfl (lv_at hl 1 rfl) ?_
      refine lv_if_lt (tgt := 92) hx hb dX2_ofOne_72 (by decide) (fun c6 => ?_) (fun c6 => ?_)
      · replace h := gi_t h c6
        refine lv_iconst (v := (0 : Int32)) hx hb dX2_ofOne_92 (by decide) ?_
        obtain a1 := so1 h
        exact g_nmi a1 (hfin _ _ _ _ hW dX2_ofOne_93)
      · replace h := gi_f h c6
        refine lv_iload_n hx hb dX2_ofOne_75 rfl (lv_at hl 1 rfl) ?_
        refine lv_aload_n hx hb dX2_ofOne_76 rfl (lv_at hl 2 rfl) ?_
        refine g_get K hW (t := 0) (ci := 0) (k := 12) (v := .int (I 1 12)) kLC_1 rfl rfl i_X0 (by decide) q_239 rfl rfl dX2_ofOne_77 ?_
        refine lv_icmp_ge (tgt := 92) hx hb dX2_ofOne_80 (by decide) (fun c7 => ?_) (fun c7 => ?_)
        · replace h := gi_t h c7
          refine lv_iconst (v := (0 : Int32)) hx hb dX2_ofOne_92 (by decide) ?_
          obtain a1 := so1 h
          exact g_nmi a1 (hfin _ _ _ _ hW dX2_ofOne_93)
        · replace h := gi_f h c7
          refine lv_aload_n hx hb dX2_ofOne_83 rfl (lv_at hl 3 rfl) ?_
          refine g_get K hW (t := 2) (ci := 4) (k := 0) (v := .ref (ad (w0 + 1))) hw0 rfl rfl i_X5 (by decide) q_170 rfl (gfv2 (rW_0 hw0)) dX2_ofOne_84 ?_
          refine lv_iload_n hx hb dX2_ofOne_87 rfl (lv_at hl 1 rfl) ?_
          obtain ⟨g8, h⟩ := gd_o h hn
          refine g_iald K hW (kW_0 hw0) g8 rfl dX2_ofOne_88 ?_
          refine lv_goto (tgt := 93) hx hb dX2_ofOne_89 (by decide) ?_
          obtain a1 := so1 h
          exact g_nmi a1 (hfin _ _ _ _ hW dX2_ofOne_93)
    · replace h := gi_f h c5
      rcases Classical.em (x0 = (18 : Int32)) with c9 | c9
      · replace h := gi_t h c9
        refine g_lookIn (k := (18 : Int32)) (tgt := 47) (off := 46) hx hb c9 dX2_ofOne_1 (by decide) (by decide) (by decide) ?_
        refine lv_iconst (v := (1 : Int32)) hx hb dX2_ofOne_47 (by decide) ?_
        refine lv_iload_n hx hb dX2_ofOne_48 rfl (lv_at hl 1 rfl) ?_
        refine lv_isub hx hb dX2_ofOne_49 ?_
        obtain a1 := so1 h
        exact g_nmi a1 (hfin _ _ _ _ hW dX2_ofOne_50)
      · replace h := gi_f h c9
        rcases Classical.em (x0 = (38 : Int32)) with c10 | c10
        · replace h := gi_t h c10
          refine g_lookIn (k := (38 : Int32)) (tgt := 44) (off := 43) hx hb c10 dX2_ofOne_1 (by decide) (by decide) (by decide) ?_
          refine lv_iload_n hx hb dX2_ofOne_44 rfl (lv_at hl 1 rfl) ?_
          refine lv_ineg hx hb dX2_ofOne_45 ?_
          obtain a1 := so1 h
          exact g_nmi a1 (hfin _ _ _ _ hW dX2_ofOne_46)
        · replace h := gi_f h c10
          refine lv_lookup (tgt := 94) (off := 93) hx hb dX2_ofOne_1 (by decide) (by show Op.lookupswitch.offset [(10, 50), (11, 70), (18, 46), (38, 43)] (93) x0.toInt = _; rw [lv_osw c1 (by decide), lv_osw c5 (by decide), lv_osw c9 (by decide), lv_osw c10 (by decide)]; rfl) (by decide) ?_
          refine lv_iconst (v := (0 : Int32)) hx hb dX2_ofOne_94 (by decide) ?_
          obtain a1 := so1 h
          exact g_nmi a1 (hfin _ _ _ _ hW dX2_ofOne_95)
noncomputable def fX2_ofTwo  (x0 : Int32) (x1 : Int64) (x3 : Int64)  : Option (Int64) :=
  gi (x0 = (16 : Int32))
 (some (x1 ||| x3))
 (gi (x0 = (17 : Int32))
 (some (x1 &&& x3))
 (gi (x0 = (18 : Int32))
 (some (0 : Int64))
 (gi (x0 = (19 : Int32))
 (some (0 : Int64))
 (gi (x0 = (20 : Int32))
 (some (0 : Int64))
 (gi (x0 = (21 : Int32))
 (some (0 : Int64))
 (gi (x0 = (22 : Int32))
 (some (0 : Int64))
 (gi (x0 = (23 : Int32))
 (some (0 : Int64))
 (gi (x0 = (24 : Int32))
 (some (0 : Int64))
 (gi (x0 = (25 : Int32))
 (gi (0 < (lg_cmp x1 x3))
 (some (0 : Int64))
 (some (1 : Int64)))
 (gi (x0 = (26 : Int32))
 (gi ((lg_cmp x1 x3) < 0)
 (some (0 : Int64))
 (some (1 : Int64)))
 (gi (x0 = (27 : Int32))
 (gi (0 ≤ (lg_cmp x1 x3))
 (some (0 : Int64))
 (some (1 : Int64)))
 (gi (x0 = (28 : Int32))
 (gi ((lg_cmp x1 x3) ≤ 0)
 (some (0 : Int64))
 (some (1 : Int64)))
 (gi (x0 = (29 : Int32))
 (gi ((lg_cmp x1 x3) = 0)
 (some (1 : Int64))
 (some (0 : Int64)))
 (gi (x0 = (30 : Int32))
 (gi ((lg_cmp x1 x3) = 0)
 (some (0 : Int64))
 (some (1 : Int64)))
 (gi (x0 = (31 : Int32))
 (some (x1 + x3))
 (gi (x0 = (32 : Int32))
 (some (x1 - x3))
 (gi (x0 = (33 : Int32))
 (some (x1 * x3))
 (gi (x0 = (34 : Int32))
 (gi ((lg_cmp x3 (0 : Int64)) = 0)
 (some (0 : Int64))
 (gd (¬ x3 = 0) (some (x1 / x3))))
 (some (0 : Int64))))))))))))))))))))
set_option maxHeartbeats 4000000 in
set_option maxRecDepth 100000 in
theorem kX2_ofTwo {l : Launch} {G : gG} {ad : Nat → Nat} (hok : gInj LC ad)    (x0 : Int32) (x1 : Int64) (x3 : Int64) (I : gI) (J : gJ) (r : Int64) (h : fX2_ofTwo x0 x1 x3 = some r) : gMl l yX2_ofTwo cX2_ofTwo 5 (some .long) 1 G LC ad [.int x0, .long x1, .long x3] I J r I J := by
  refine gMl_of (lst := [(0, .int x0), (1, .long x1), (3, .long x3)]) (by decide) hok (Nat.le_of_ble_eq_true rfl) rfl ?_
  intro p e s m args below meth c Q ls K hW hl hfin
  have hn : (some r : Option (Int64)) ≠ none := Option.some_ne_none _
  have hx := K.1; have hb := K.2.1; have hown := K.2.2.2.1; have hts := K.2.2.2.2.1
  unfold fX2_ofTwo at h
  refine lv_iload_n hx hb dX2_ofTwo_0 rfl (lv_at hl 0 rfl) ?_
  rcases Classical.em (x0 = (16 : Int32)) with c1 | c1
  · replace h := gi_t h c1
    refine g_tabIn (k := (16 : Int32)) (tgt := 190) (off := 189) hx hb c1 dX2_ofTwo_1 (by decide) (by decide) (by decide) (by decide) ?_
    refine lv_lload_n hx hb dX2_ofTwo_190 rfl (lv_at hl 1 rfl) ?_
    refine lv_lload_n hx hb dX2_ofTwo_191 rfl (lv_at hl 2 rfl) ?_
    refine lv_lor hx hb dX2_ofTwo_192 ?_
    obtain a1 := so1 h
    exact g_nml a1 (hfin _ _ _ _ hW dX2_ofTwo_193)
  · replace h := gi_f h c1
    rcases Classical.em (x0 = (17 : Int32)) with c2 | c2
    · replace h := gi_t h c2
      refine g_tabIn (k := (17 : Int32)) (tgt := 194) (off := 193) hx hb c2 dX2_ofTwo_1 (by decide) (by decide) (by decide) (by decide) ?_
      refine lv_lload_n hx hb dX2_ofTwo_194 rfl (lv_at hl 1 rfl) ?_
      refine lv_lload_n hx hb dX2_ofTwo_195 rfl (lv_at hl 2 rfl) ?_
      refine lv_land hx hb dX2_ofTwo_196 ?_
      obtain a1 := so1 h
      exact g_nml a1 (hfin _ _ _ _ hW dX2_ofTwo_197)
    · replace h := gi_f h c2
      rcases Classical.em (x0 = (18 : Int32)) with c3 | c3
      · replace h := gi_t h c3
        refine g_tabIn (k := (18 : Int32)) (tgt := 198) (off := 197) hx hb c3 dX2_ofTwo_1 (by decide) (by decide) (by decide) (by decide) ?_
        refine lv_lconst (v := (0 : Int64)) hx hb dX2_ofTwo_198 rfl ?_
        obtain a1 := so1 h
        exact g_nml a1 (hfin _ _ _ _ hW dX2_ofTwo_199)
      · replace h := gi_f h c3
        rcases Classical.em (x0 = (19 : Int32)) with c4 | c4
        · replace h := gi_t h c4
          refine g_tabIn (k := (19 : Int32)) (tgt := 198) (off := 197) hx hb c4 dX2_ofTwo_1 (by decide) (by decide) (by decide) (by decide) ?_
          refine lv_lconst (v := (0 : Int64)) hx hb dX2_ofTwo_198 rfl ?_
          obtain a1 := so1 h
          exact g_nml a1 (hfin _ _ _ _ hW dX2_ofTwo_199)
        · replace h := gi_f h c4
          rcases Classical.em (x0 = (20 : Int32)) with c5 | c5
          · replace h := gi_t h c5
            refine g_tabIn (k := (20 : Int32)) (tgt := 198) (off := 197) hx hb c5 dX2_ofTwo_1 (by decide) (by decide) (by decide) (by decide) ?_
            refine lv_lconst (v := (0 : Int64)) hx hb dX2_ofTwo_198 rfl ?_
            obtain a1 := so1 h
            exact g_nml a1 (hfin _ _ _ _ hW dX2_ofTwo_199)
          · replace h := gi_f h c5
            rcases Classical.em (x0 = (21 : Int32)) with c6 | c6
            · replace h := gi_t h c6
              refine g_tabIn (k := (21 : Int32)) (tgt := 198) (off := 197) hx hb c6 dX2_ofTwo_1 (by decide) (by decide) (by decide) (by decide) ?_
              refine lv_lconst (v := (0 : Int64)) hx hb dX2_ofTwo_198 rfl ?_
              obtain a1 := so1 h
              exact g_nml a1 (hfin _ _ _ _ hW dX2_ofTwo_199)
            · replace h := gi_f h c6
              rcases Classical.em (x0 = (22 : Int32)) with c7 | c7
              · replace h := gi_t h c7
                refine g_tabIn (k := (22 : Int32)) (tgt := 198) (off := 197) hx hb c7 dX2_ofTwo_1 (by decide) (by decide) (by decide) (by decide) ?_
                refine lv_lconst (v := (0 : Int64)) hx hb dX2_ofTwo_198 rfl ?_
                obtain a1 := so1 h
                exact g_nml a1 (hfin _ _ _ _ hW dX2_ofTwo_199)
              · replace h := gi_f h c7
                rcases Classical.em (x0 = (23 : Int32)) with c8 | c8
                · replace h := gi_t h c8
                  refine g_tabIn (k := (23 : Int32)) (tgt := 198) (off := 197) hx hb c8 dX2_ofTwo_1 (by decide) (by decide) (by decide) (by decide) ?_
                  refine lv_lconst (v := (0 : Int64)) hx hb dX2_ofTwo_198 rfl ?_
                  obtain a1 := so1 h
                  exact g_nml a1 (hfin _ _ _ _ hW dX2_ofTwo_199)
                · replace h := gi_f h c8
                  rcases Classical.em (x0 = (24 : Int32)) with c9 | c9
                  · replace h := gi_t h c9
                    refine g_tabIn (k := (24 : Int32)) (tgt := 198) (off := 197) hx hb c9 dX2_ofTwo_1 (by decide) (by decide) (by decide) (by decide) ?_
                    refine lv_lconst (v := (0 : Int64)) hx hb dX2_ofTwo_198 rfl ?_
                    obtain a1 := so1 h
                    exact g_nml a1 (hfin _ _ _ _ hW dX2_ofTwo_199)
                  · replace h := gi_f h c9
                    rcases Classical.em (x0 = (25 : Int32)) with c10 | c10
                    · replace h := gi_t h c10
                      refine g_tabIn (k := (25 : Int32)) (tgt := 118) (off := 117) hx hb c10 dX2_ofTwo_1 (by decide) (by decide) (by decide) (by decide) ?_
                      refine lv_lload_n hx hb dX2_ofTwo_118 rfl (lv_at hl 1 rfl) ?_
                      refine lv_lload_n hx hb dX2_ofTwo_119 rfl (lv_at hl 2 rfl) ?_
                      refine W.lcmp hx hb dX2_ofTwo_120 ?_
                      refine lv_if_gt (tgt := 128) hx hb dX2_ofTwo_121 (by decide) (fun c11 => ?_) (fun c11 => ?_)
                      · replace h := gi_t h c11
                        refine lv_lconst (v := (0 : Int64)) hx hb dX2_ofTwo_128 rfl ?_
                        obtain a1 := so1 h
                        exact g_nml a1 (hfin _ _ _ _ hW dX2_ofTwo_129)
                      · replace h := gi_f h c11
                        refine lv_lconst (v := (1 : Int64)) hx hb dX2_ofTwo_124 rfl ?_
                        refine lv_goto (tgt := 129) hx hb dX2_ofTwo_125 (by decide) ?_
                        obtain a1 := so1 h
                        exact g_nml a1 (hfin _ _ _ _ hW dX2_ofTwo_129)
                    · replace h := gi_f h c10
                      rcases Classical.em (x0 = (26 : Int32)) with c12 | c12
                      · replace h := gi_t h c12
                        refine g_tabIn (k := (26 : Int32)) (tgt := 130) (off := 129) hx hb c12 dX2_ofTwo_1 (by decide) (by decide) (by decide) (by decide) ?_
                        refine lv_lload_n hx hb dX2_ofTwo_130 rfl (lv_at hl 1 rfl) ?_
                        refine lv_lload_n hx hb dX2_ofTwo_131 rfl (lv_at hl 2 rfl) ?_
                        refine W.lcmp hx hb dX2_ofTwo_132 ?_
                        refine lv_if_lt (tgt := 140) hx hb dX2_ofTwo_133 (by decide) (fun c13 => ?_) (fun c13 => ?_)
                        · replace h := gi_t h c13
                          refine lv_lconst (v := (0 : Int64)) hx hb dX2_ofTwo_140 rfl ?_
                          obtain a1 := so1 h
                          exact g_nml a1 (hfin _ _ _ _ hW dX2_ofTwo_141)
                        · replace h := gi_f h c13
                          refine lv_lconst (v := (1 : Int64)) hx hb dX2_ofTwo_136 rfl ?_
                          refine lv_goto (tgt := 141) hx hb dX2_ofTwo_137 (by decide) ?_
                          obtain a1 := so1 h
                          exact g_nml a1 (hfin _ _ _ _ hW dX2_ofTwo_141)
                      · replace h := gi_f h c12
                        rcases Classical.em (x0 = (27 : Int32)) with c14 | c14
                        · replace h := gi_t h c14
                          refine g_tabIn (k := (27 : Int32)) (tgt := 142) (off := 141) hx hb c14 dX2_ofTwo_1 (by decide) (by decide) (by decide) (by decide) ?_
                          refine lv_lload_n hx hb dX2_ofTwo_142 rfl (lv_at hl 1 rfl) ?_
                          refine lv_lload_n hx hb dX2_ofTwo_143 rfl (lv_at hl 2 rfl) ?_
                          refine W.lcmp hx hb dX2_ofTwo_144 ?_
                          refine lv_if_ge (tgt := 152) hx hb dX2_ofTwo_145 (by decide) (fun c15 => ?_) (fun c15 => ?_)
                          · replace h := gi_t h c15
                            refine lv_lconst (v := (0 : Int64)) hx hb dX2_ofTwo_152 rfl ?_
                            obtain a1 := so1 h
                            exact g_nml a1 (hfin _ _ _ _ hW dX2_ofTwo_153)
                          · replace h := gi_f h c15
                            refine lv_lconst (v := (1 : Int64)) hx hb dX2_ofTwo_148 rfl ?_
                            refine lv_goto (tgt := 153) hx hb dX2_ofTwo_149 (by decide) ?_
                            obtain a1 := so1 h
                            exact g_nml a1 (hfin _ _ _ _ hW dX2_ofTwo_153)
                        · replace h := gi_f h c14
                          rcases Classical.em (x0 = (28 : Int32)) with c16 | c16
                          · replace h := gi_t h c16
                            refine g_tabIn (k := (28 : Int32)) (tgt := 154) (off := 153) hx hb c16 dX2_ofTwo_1 (by decide) (by decide) (by decide) (by decide) ?_
                            refine lv_lload_n hx hb dX2_ofTwo_154 rfl (lv_at hl 1 rfl) ?_
                            refine lv_lload_n hx hb dX2_ofTwo_155 rfl (lv_at hl 2 rfl) ?_
                            refine W.lcmp hx hb dX2_ofTwo_156 ?_
                            refine lv_if_le (tgt := 164) hx hb dX2_ofTwo_157 (by decide) (fun c17 => ?_) (fun c17 => ?_)
                            · replace h := gi_t h c17
                              refine lv_lconst (v := (0 : Int64)) hx hb dX2_ofTwo_164 rfl ?_
                              obtain a1 := so1 h
                              exact g_nml a1 (hfin _ _ _ _ hW dX2_ofTwo_165)
                            · replace h := gi_f h c17
                              refine lv_lconst (v := (1 : Int64)) hx hb dX2_ofTwo_160 rfl ?_
                              refine lv_goto (tgt := 165) hx hb dX2_ofTwo_161 (by decide) ?_
                              obtain a1 := so1 h
                              exact g_nml a1 (hfin _ _ _ _ hW dX2_ofTwo_165)
                          · replace h := gi_f h c16
                            rcases Classical.em (x0 = (29 : Int32)) with c18 | c18
                            · replace h := gi_t h c18
                              refine g_tabIn (k := (29 : Int32)) (tgt := 166) (off := 165) hx hb c18 dX2_ofTwo_1 (by decide) (by decide) (by decide) (by decide) ?_
                              refine lv_lload_n hx hb dX2_ofTwo_166 rfl (lv_at hl 1 rfl) ?_
                              refine lv_lload_n hx hb dX2_ofTwo_167 rfl (lv_at hl 2 rfl) ?_
                              refine W.lcmp hx hb dX2_ofTwo_168 ?_
                              refine lv_if_ne (tgt := 176) hx hb dX2_ofTwo_169 (by decide) (fun c19 => ?_) (fun c19 => ?_)
                              · replace h := gi_f h c19
                                refine lv_lconst (v := (0 : Int64)) hx hb dX2_ofTwo_176 rfl ?_
                                obtain a1 := so1 h
                                exact g_nml a1 (hfin _ _ _ _ hW dX2_ofTwo_177)
                              · replace h := gi_t h c19
                                refine lv_lconst (v := (1 : Int64)) hx hb dX2_ofTwo_172 rfl ?_
                                refine lv_goto (tgt := 177) hx hb dX2_ofTwo_173 (by decide) ?_
                                obtain a1 := so1 h
                                exact g_nml a1 (hfin _ _ _ _ hW dX2_ofTwo_177)
                            · replace h := gi_f h c18
                              rcases Classical.em (x0 = (30 : Int32)) with c20 | c20
                              · replace h := gi_t h c20
                                refine g_tabIn (k := (30 : Int32)) (tgt := 178) (off := 177) hx hb c20 dX2_ofTwo_1 (by decide) (by decide) (by decide) (by decide) ?_
                                refine lv_lload_n hx hb dX2_ofTwo_178 rfl (lv_at hl 1 rfl) ?_
                                refine lv_lload_n hx hb dX2_ofTwo_179 rfl (lv_at hl 2 rfl) ?_
                                refine W.lcmp hx hb dX2_ofTwo_180 ?_
                                refine lv_if_eq (tgt := 188) hx hb dX2_ofTwo_181 (by decide) (fun c21 => ?_) (fun c21 => ?_)
                                · replace h := gi_t h c21
                                  refine lv_lconst (v := (0 : Int64)) hx hb dX2_ofTwo_188 rfl ?_
                                  obtain a1 := so1 h
                                  exact g_nml a1 (hfin _ _ _ _ hW dX2_ofTwo_189)
                                · replace h := gi_f h c21
                                  refine lv_lconst (v := (1 : Int64)) hx hb dX2_ofTwo_184 rfl ?_
                                  refine lv_goto (tgt := 189) hx hb dX2_ofTwo_185 (by decide) ?_
                                  obtain a1 := so1 h
                                  exact g_nml a1 (hfin _ _ _ _ hW dX2_ofTwo_189)
                              · replace h := gi_f h c20
                                rcases Classical.em (x0 = (31 : Int32)) with c22 | c22
                                · replace h := gi_t h c22
                                  refine g_tabIn (k := (31 : Int32)) (tgt := 92) (off := 91) hx hb c22 dX2_ofTwo_1 (by decide) (by decide) (by decide) (by decide) ?_
                                  refine lv_lload_n hx hb dX2_ofTwo_92 rfl (lv_at hl 1 rfl) ?_
                                  refine lv_lload_n hx hb dX2_ofTwo_93 rfl (lv_at hl 2 rfl) ?_
                                  refine lv_ladd hx hb dX2_ofTwo_94 ?_
                                  obtain a1 := so1 h
                                  exact g_nml a1 (hfin _ _ _ _ hW dX2_ofTwo_95)
                                · replace h := gi_f h c22
                                  rcases Classical.em (x0 = (32 : Int32)) with c23 | c23
                                  · replace h := gi_t h c23
                                    refine g_tabIn (k := (32 : Int32)) (tgt := 96) (off := 95) hx hb c23 dX2_ofTwo_1 (by decide) (by decide) (by decide) (by decide) ?_
                                    refine lv_lload_n hx hb dX2_ofTwo_96 rfl (lv_at hl 1 rfl) ?_
                                    refine lv_lload_n hx hb dX2_ofTwo_97 rfl (lv_at hl 2 rfl) ?_
                                    refine lv_lsub hx hb dX2_ofTwo_98 ?_
                                    obtain a1 := so1 h
                                    exact g_nml a1 (hfin _ _ _ _ hW dX2_ofTwo_99)
                                  · replace h := gi_f h c23
                                    rcases Classical.em (x0 = (33 : Int32)) with c24 | c24
                                    · replace h := gi_t h c24
                                      refine g_tabIn (k := (33 : Int32)) (tgt := 100) (off := 99) hx hb c24 dX2_ofTwo_1 (by decide) (by decide) (by decide) (by decide) ?_
                                      refine lv_lload_n hx hb dX2_ofTwo_100 rfl (lv_at hl 1 rfl) ?_
                                      refine lv_lload_n hx hb dX2_ofTwo_101 rfl (lv_at hl 2 rfl) ?_
                                      refine lv_lmul hx hb dX2_ofTwo_102 ?_
                                      obtain a1 := so1 h
                                      exact g_nml a1 (hfin _ _ _ _ hW dX2_ofTwo_103)
                                    · replace h := gi_f h c24
                                      rcases Classical.em (x0 = (34 : Int32)) with c25 | c25
                                      · replace h := gi_t h c25
                                        refine g_tabIn (k := (34 : Int32)) (tgt := 104) (off := 103) hx hb c25 dX2_ofTwo_1 (by decide) (by decide) (by decide) (by decide) ?_
                                        refine lv_lload_n hx hb dX2_ofTwo_104 rfl (lv_at hl 2 rfl) ?_
                                        refine lv_lconst (v := (0 : Int64)) hx hb dX2_ofTwo_105 rfl ?_
                                        refine W.lcmp hx hb dX2_ofTwo_106 ?_
                                        refine lv_if_ne (tgt := 114) hx hb dX2_ofTwo_107 (by decide) (fun c26 => ?_) (fun c26 => ?_)
                                        · replace h := gi_f h c26
                                          refine lv_lload_n hx hb dX2_ofTwo_114 rfl (lv_at hl 1 rfl) ?_
                                          refine lv_lload_n hx hb dX2_ofTwo_115 rfl (lv_at hl 2 rfl) ?_
                                          obtain ⟨g27, h⟩ := gd_o h hn
                                          refine lv_ldiv hx hb dX2_ofTwo_116 g27 ?_
                                          obtain a1 := so1 h
                                          exact g_nml a1 (hfin _ _ _ _ hW dX2_ofTwo_117)
                                        · replace h := gi_t h c26
                                          refine lv_lconst (v := (0 : Int64)) hx hb dX2_ofTwo_110 rfl ?_
                                          refine lv_goto (tgt := 117) hx hb dX2_ofTwo_111 (by decide) ?_
                                          obtain a1 := so1 h
                                          exact g_nml a1 (hfin _ _ _ _ hW dX2_ofTwo_117)
                                      · replace h := gi_f h c25
                                        refine lv_tableOut (tgt := 198) hx hb dX2_ofTwo_1 (by have := lv_neT (a := 16) c1 (by decide); have := lv_neT (a := 17) c2 (by decide); have := lv_neT (a := 18) c3 (by decide); have := lv_neT (a := 19) c4 (by decide); have := lv_neT (a := 20) c5 (by decide); have := lv_neT (a := 21) c6 (by decide); have := lv_neT (a := 22) c7 (by decide); have := lv_neT (a := 23) c8 (by decide); have := lv_neT (a := 24) c9 (by decide); have := lv_neT (a := 25) c10 (by decide); have := lv_neT (a := 26) c12 (by decide); have := lv_neT (a := 27) c14 (by decide); have := lv_neT (a := 28) c16 (by decide); have := lv_neT (a := 29) c18 (by decide); have := lv_neT (a := 30) c20 (by decide); have := lv_neT (a := 31) c22 (by decide); have := lv_neT (a := 32) c23 (by decide); have := lv_neT (a := 33) c24 (by decide); have := lv_neT (a := 34) c25 (by decide); omega) (by decide) ?_
                                        refine lv_lconst (v := (0 : Int64)) hx hb dX2_ofTwo_198 rfl ?_
                                        obtain a1 := so1 h
                                        exact g_nml a1 (hfin _ _ _ _ hW dX2_ofTwo_199)
theorem kLC_287 : gAt LC 287 0 2 := ⟨by decide, by decide +kernel⟩
theorem kLC_288 : gAt LC 288 1 64 := ⟨by decide, by decide +kernel⟩
theorem rLC_287_0 : LC.2.2 287 0 = some 288 := by decide +kernel
theorem nm_X2_ofTwo : gNm yX2_ofTwo 3 := by decide +kernel
theorem nm_X2_limited : gNm yX2_limited 1 := by decide +kernel
theorem nm_X2_isLink : gNm yX2_isLink 1 := by decide +kernel
theorem nm_X2_isOnOne : gNm yX2_isOnOne 1 := by decide +kernel
theorem nm_X2_named : gNm yX2_named 5 := by decide +kernel
theorem nm_X2_ofOne : gNm yX2_ofOne 4 := by decide +kernel
theorem in_0_64 : vp_in (0 : Int32) 64 := in_c (by decide +kernel) (by decide +kernel)
noncomputable def fX2_worked_14b (t0 : Nat) (w1 : Nat) (rec : Int32 → Int32 → Int32 → Int32 → Int32 → Int32 → gI → Option ((gI) ⊕ (gI) ⊕ (gI))) (u4 : Int32) (u5 : Int32) (u6 : Int32) (u7 : Int32) (u8 : Int32) (u9 : Int32) (I : gI) : Option ((gI) ⊕ (gI) ⊕ (gI)) :=
  gi ((300 : Int32) ≤ u9)
 (some (Sum.inr (Sum.inr I)))
 (gd (vp_in u4 2) (gi ((I (t0 + 7) (u4).toNatClampNeg) ≤ u8)
 (some (Sum.inr (Sum.inr I)))
 (gi ((300 : Int32) ≤ u8)
 (some (Sum.inr (Sum.inr I)))
 (gd (vp_in u8 300) (lz ((I (t0 + 4) (u8).toNatClampNeg)) (fun (u18 : Int32) => lz ((I (t0 + 5) (u8).toNatClampNeg)) (fun (u20 : Int32) => lz ((u8 + (1 : Int32))) (fun (u22 : Int32) => lz (fun (u24 : Int32) => fun (u25 : Int32) => fun (I26 : gI) => lz ((u9 + (1 : Int32))) (fun (u30 : Int32) => rec u4 u5 u6 u24 u25 u30 I26)) (fun j27 => gi (u18 = (14 : Int32))
 (j27 u7 u20 I)
 (gi (u18 = (13 : Int32))
 (lz ((jmax (0 : Int32) (u7 - (1 : Int32)))) (fun (u78 : Int32) => gd (vp_in u78 64) (lz (fun (u81 : Int32) => j27 u78 u81 I) (fun j82 => gi ((I 288 (u78).toNatClampNeg) = 0)
 (j82 u20)
 (j82 u22)))))
 (lz (gi ((2 : Int32) ≤ u7)
 (lz ((u7 + (-1 : Int32))) (fun (u38 : Int32) => gd (vp_in (u38 - (1 : Int32)) 64) (gd (vp_in u38 64) (bd (fX2_ofTwo u18 ((I 288 ((u38 - (1 : Int32))).toNatClampNeg)).toInt64 ((I 288 (u38).toNatClampNeg)).toInt64) (fun (u42 : Int64) => lz (wI I 288 ((u38 - (1 : Int32))).toNatClampNeg (fX2_limited u42)) (fun (I47 : gI) => j27 u38 u22 I47))))))
 (some (Sum.inl I))) (fun j34 => lz (gi ((fX2_isLink u18) = 0)
 (gi ((fX2_isOnOne u18) = 0)
 (gi ((64 : Int32) ≤ u7)
 (j27 u7 u22 I)
 (lz (fun (u56 : Int32) => gd (vp_in u7 64) (lz (wI I 288 (u7).toNatClampNeg u56) (fun (I62 : gI) => lz ((u7 + (1 : Int32))) (fun (u63 : Int32) => j27 u63 u22 I62)))) (fun j57 => gi (u18 = (24 : Int32))
 (j57 u20)
 (bd (fX2_named w1 u18 u5 u6 I) (fun (u66 : Int32) => j57 u66)))))
 (gi ((1 : Int32) ≤ u7)
 (gd (vp_in (u7 - (1 : Int32)) 64) (bd (fX2_ofOne w1 u18 (I 288 ((u7 - (1 : Int32))).toNatClampNeg) I) (fun (u71 : Int32) => lz (wI I 288 ((u7 - (1 : Int32))).toNatClampNeg u71) (fun (I75 : gI) => j27 u7 u22 I75))))
 (some (Sum.inr (Sum.inl I)))))
 (j34)) (fun j48 => gi (u18 < (25 : Int32))
 (j48)
 (gi (u18 < (38 : Int32))
 (j34)
 (j48)))))))))))))))
noncomputable def fX2_worked_14 (t0 : Nat) (w1 : Nat) : Nat → Int32 → Int32 → Int32 → Int32 → Int32 → Int32 → gI → Option ((gI) ⊕ (gI) ⊕ (gI))
  | 0 => fun _ _ _ _ _ _ _ => none
  | n + 1 => fX2_worked_14b t0 w1 (fX2_worked_14 t0 w1 n)
set_option maxHeartbeats 4000000 in
set_option maxRecDepth 100000 in
theorem tX2_worked_14 {l : Launch} {G : gG} {ad : Nat → Nat} {p : Program} {e : Env} {s : State} {m : MethodId} {args : Array Value} {below : List Frame} {meth : Method} {c : Code} {Q : State → Prop} (hok : gInj LC ad) (K : gCx G (gA LC ad) p s m args c cX2_worked 12 RX2) (t0 : Nat) (ht0 : gAt LC t0 0 3) (w1 : Nat) (hw1 : gAt LC w1 0 4) : ∀ (n : Nat) (u4 : Int32) (u5 : Int32) (u6 : Int32) (u7 : Int32) (u8 : Int32) (u9 : Int32) (I : gI) (J : gJ) (out : Option ((gI) ⊕ (gI) ⊕ (gI))), fX2_worked_14 t0 w1 n u4 u5 u6 u7 u8 u9 I = out → out ≠ none → ∀ (H : Heap) (locs : List Loc), gWd G LC ad (gA LC ad) s.heap I J H locs → ∀ (ls : Array Slot), lv_has ls 12 [(0, .ref (ad 287)), (1, .ref (ad t0)), (2, .int u4), (3, .ref (ad 1)), (4, .ref (ad w1)), (5, .int u5), (6, .int u6), (7, .int u7), (8, .int u8), (9, .int u9)] → (∀ (I10 : gI), some (Sum.inl I10) = out → ∀ (H : Heap) (locs : List Loc), gWd G LC ad (gA LC ad) s.heap I10 J H locs → ∀ (ls : Array Slot), lv_has ls 12 [] → W p l e (gRm 3) s m args below meth c H locs 0 0 Q (F0 m 143 ls [])) → (∀ (I11 : gI), some (Sum.inr (Sum.inl I11)) = out → ∀ (H : Heap) (locs : List Loc), gWd G LC ad (gA LC ad) s.heap I11 J H locs → ∀ (ls : Array Slot), lv_has ls 12 [] → W p l e (gRm 3) s m args below meth c H locs 0 0 Q (F0 m 200 ls [])) → (∀ (I12 : gI), some (Sum.inr (Sum.inr I12)) = out → ∀ (H : Heap) (locs : List Loc), gWd G LC ad (gA LC ad) s.heap I12 J H locs → ∀ (ls : Array Slot), lv_has ls 12 [(0, .ref (ad 287))] → W p l e (gRm 3) s m args below meth c H locs 0 0 Q (F0 m 278 ls [])) → W p l e (gRm 3) s m args below meth c H locs 0 0 Q (F0 m 14 ls []) := by
  have hx := K.1; have hb := K.2.1; have hown := K.2.2.2.1; have hts := K.2.2.2.2.1
  intro n
  induction n with
  | zero => intro u4 u5 u6 u7 u8 u9 I J out h hn; exact absurd h.symm hn
  | succ n ih =>
    intro u4 u5 u6 u7 u8 u9 I J out h hn H locs hW ls hl hx1 hx2 hx3
    replace h : fX2_worked_14b t0 w1 (fX2_worked_14 t0 w1 n) u4 u5 u6 u7 u8 u9 I = out := h
    unfold fX2_worked_14b at h
    refine lv_iload hx hb dX2_worked_14 (lv_at hl 9 rfl) ?_
    refine lv_sipush (v := (300 : Int32)) hx hb dX2_worked_16 (by decide) ?_
    refine lv_icmp_ge (tgt := 278) hx hb dX2_worked_19 (by decide) (fun c13 => ?_) (fun c13 => ?_)
    · replace h := gi_t h c13
      exact hx3 I h _ _ hW _ (lv_sub hl [0] rfl)
    · replace h := gi_f h c13
      refine lv_iload hx hb dX2_worked_22 (lv_at hl 8 rfl) ?_
      refine lv_aload_n hx hb dX2_worked_24 rfl (lv_at hl 1 rfl) ?_
      refine g_get K hW (t := 2) (ci := 3) (k := 6) (v := .ref (ad (t0 + 7))) ht0 rfl rfl i_X3 (by decide) q_323 rfl (gfv2 (rT_6 ht0)) dX2_worked_25 ?_
      refine lv_iload_n hx hb dX2_worked_28 rfl (lv_at hl 2 rfl) ?_
      obtain ⟨g14, h⟩ := gd_o h hn
      refine g_iald K hW (kT_6 ht0) g14 rfl dX2_worked_29 ?_
      refine lv_icmp_ge (tgt := 278) hx hb dX2_worked_30 (by decide) (fun c15 => ?_) (fun c15 => ?_)
      · replace h := gi_t h c15
        exact hx3 I h _ _ hW _ (lv_sub hl [0] rfl)
      · replace h := gi_f h c15
        refine lv_iload hx hb dX2_worked_33 (lv_at hl 8 rfl) ?_
        refine lv_sipush (v := (300 : Int32)) hx hb dX2_worked_35 (by decide) ?_
        refine lv_icmp_ge (tgt := 278) hx hb dX2_worked_38 (by decide) (fun c16 => ?_) (fun c16 => ?_)
        · replace h := gi_t h c16
          exact hx3 I h _ _ hW _ (lv_sub hl [0] rfl)
        · replace h := gi_f h c16
          refine lv_aload_n hx hb dX2_worked_41 rfl (lv_at hl 1 rfl) ?_
          refine g_get K hW (t := 2) (ci := 3) (k := 3) (v := .ref (ad (t0 + 4))) ht0 rfl rfl i_X3 (by decide) q_316 rfl (gfv2 (rT_3 ht0)) dX2_worked_42 ?_
          refine lv_iload hx hb dX2_worked_45 (lv_at hl 8 rfl) ?_
          obtain ⟨g17, h⟩ := gd_o h hn
          refine g_iald K hW (kT_3 ht0) g17 rfl dX2_worked_47 ?_
          obtain ⟨u18, e19, h⟩ := lz_o h
          refine g_nmi e19 ?_
          refine lv_istore (lv' := [(10, .int u18), (0, .ref (ad 287)), (1, .ref (ad t0)), (2, .int u4), (3, .ref (ad 1)), (4, .ref (ad w1)), (5, .int u5), (6, .int u6), (7, .int u7), (8, .int u8), (9, .int u9)]) hx hb dX2_worked_48 hl (by decide) rfl (fun ls hl => ?_)
          refine lv_aload_n hx hb dX2_worked_50 rfl (lv_at hl 2 rfl) ?_
          refine g_get K hW (t := 2) (ci := 3) (k := 4) (v := .ref (ad (t0 + 5))) ht0 rfl rfl i_X3 (by decide) q_318 rfl (gfv2 (rT_4 ht0)) dX2_worked_51 ?_
          refine lv_iload hx hb dX2_worked_54 (lv_at hl 9 rfl) ?_
          refine g_iald K hW (kT_4 ht0) g17 rfl dX2_worked_56 ?_
          obtain ⟨u20, e21, h⟩ := lz_o h
          refine g_nmi e21 ?_
          refine lv_istore (lv' := [(11, .int u20), (10, .int u18), (0, .ref (ad 287)), (1, .ref (ad t0)), (2, .int u4), (3, .ref (ad 1)), (4, .ref (ad w1)), (5, .int u5), (6, .int u6), (7, .int u7), (8, .int u8), (9, .int u9)]) hx hb dX2_worked_57 hl (by decide) rfl (fun ls hl => ?_)
          obtain ⟨u22, e23, h⟩ := lz_o h
          refine lv_iinc (v := u22) (lv' := [(8, .int u22), (11, .int u20), (10, .int u18), (0, .ref (ad 287)), (1, .ref (ad t0)), (2, .int u4), (3, .ref (ad 1)), (4, .ref (ad w1)), (5, .int u5), (6, .int u6), (7, .int u7), (9, .int u9)]) hx hb dX2_worked_59 hl (k := 10) rfl (by rw [e23]; rfl) (by decide) rfl (fun ls hl => ?_)
          refine lv_iload hx hb dX2_worked_62 (lv_at hl 2 rfl) ?_
          refine lv_bipush (v := (14 : Int32)) hx hb dX2_worked_64 (by decide) ?_
          obtain ⟨j27, e28, h⟩ := lz_o h
          have hj29 : ∀ (u24 : Int32) (u25 : Int32) (I26 : gI), j27 u24 u25 I26 = out → ∀ (H : Heap) (locs : List Loc), gWd G LC ad (gA LC ad) s.heap I26 J H locs → ∀ (ls : Array Slot), lv_has ls 12 [(0, .ref (ad 287)), (1, .ref (ad t0)), (2, .int u4), (3, .ref (ad 1)), (4, .ref (ad w1)), (5, .int u5), (6, .int u6), (7, .int u24), (8, .int u25), (9, .int u9)] → W p l e (gRm 3) s m args below meth c H locs 0 0 Q (F0 m 272 ls []) := by
            intro u24 u25 I26 h H locs hW ls hl
            replace h := jn3 e28 h
            obtain ⟨u30, e31, h⟩ := lz_o h
            refine lv_iinc (v := u30) (lv' := [(9, .int u30), (0, .ref (ad 287)), (1, .ref (ad t0)), (2, .int u4), (3, .ref (ad 1)), (4, .ref (ad w1)), (5, .int u5), (6, .int u6), (7, .int u24), (8, .int u25)]) hx hb dX2_worked_272 hl (k := 9) rfl (by rw [e31]; rfl) (by decide) rfl (fun ls hl => ?_)
            refine lv_goto (tgt := 14) hx hb dX2_worked_275 (by decide) ?_
            exact ih u4 u5 u6 u24 u25 u30 I26 J _ h hn _ _ hW _ (lv_sub hl [1, 2, 3, 4, 5, 6, 7, 8, 9, 0] rfl) hx1 hx2 hx3
          refine lv_icmp_ne (tgt := 76) hx hb dX2_worked_66 (by decide) (fun c32 => ?_) (fun c32 => ?_)
          · replace h := gi_f h c32
            refine lv_iload hx hb dX2_worked_76 (lv_at hl 2 rfl) ?_
            refine lv_bipush (v := (13 : Int32)) hx hb dX2_worked_78 (by decide) ?_
            refine lv_icmp_ne (tgt := 115) hx hb dX2_worked_80 (by decide) (fun c33 => ?_) (fun c33 => ?_)
            · replace h := gi_f h c33
              refine lv_iload hx hb dX2_worked_115 (lv_at hl 2 rfl) ?_
              refine lv_bipush (v := (25 : Int32)) hx hb dX2_worked_117 (by decide) ?_
              obtain ⟨j34, e35, h⟩ := lz_o h
              have hj36 : j34 = out → ∀ (H : Heap) (locs : List Loc), gWd G LC ad (gA LC ad) s.heap I J H locs → ∀ (ls : Array Slot), lv_has ls 12 [(0, .ref (ad 287)), (1, .ref (ad t0)), (2, .int u4), (3, .ref (ad 1)), (4, .ref (ad w1)), (5, .int u5), (6, .int u6), (7, .int u7), (8, .int u22), (9, .int u9), (10, .int u18)] → W p l e (gRm 3) s m args below meth c H locs 0 0 Q (F0 m 137 ls []) := by
                intro h H locs hW ls hl
                replace h := jn0 e35 h
                refine lv_iload hx hb dX2_worked_137 (lv_at hl 7 rfl) ?_
                refine lv_iconst (v := (2 : Int32)) hx hb dX2_worked_139 (by decide) ?_
                refine lv_icmp_ge (tgt := 145) hx hb dX2_worked_140 (by decide) (fun c37 => ?_) (fun c37 => ?_)
                · replace h := gi_t h c37
                  obtain ⟨u38, e39, h⟩ := lz_o h
                  refine lv_iinc (v := u38) (lv' := [(7, .int u38), (0, .ref (ad 287)), (1, .ref (ad t0)), (2, .int u4), (3, .ref (ad 1)), (4, .ref (ad w1)), (5, .int u5), (6, .int u6), (8, .int u22), (9, .int u9), (10, .int u18)]) hx hb dX2_worked_145 hl (k := 7) rfl (by rw [e39]; rfl) (by decide) rfl (fun ls hl => ?_)
                  refine lv_aload_n hx hb dX2_worked_148 rfl (lv_at hl 1 rfl) ?_
                  refine g_get K hW (t := 2) (ci := 2) (k := 0) (v := .ref (ad 288)) kLC_287 rfl rfl i_X2 (by decide) q_386 rfl (gfv2 rLC_287_0) dX2_worked_149 ?_
                  refine lv_iload hx hb dX2_worked_152 (lv_at hl 0 rfl) ?_
                  refine lv_iconst (v := (1 : Int32)) hx hb dX2_worked_154 (by decide) ?_
                  refine lv_isub hx hb dX2_worked_155 ?_
                  refine lv_iload hx hb dX2_worked_156 (lv_at hl 10 rfl) ?_
                  refine lv_aload_n hx hb dX2_worked_158 rfl (lv_at hl 1 rfl) ?_
                  refine g_get K hW (t := 2) (ci := 2) (k := 0) (v := .ref (ad 288)) kLC_287 rfl rfl i_X2 (by decide) q_386 rfl (gfv2 rLC_287_0) dX2_worked_159 ?_
                  refine lv_iload hx hb dX2_worked_162 (lv_at hl 0 rfl) ?_
                  refine lv_iconst (v := (1 : Int32)) hx hb dX2_worked_164 (by decide) ?_
                  refine lv_isub hx hb dX2_worked_165 ?_
                  obtain ⟨g40, h⟩ := gd_o h hn
                  refine g_iald K hW kLC_288 g40 rfl dX2_worked_166 ?_
                  refine lv_i2l hx hb dX2_worked_167 rfl ?_
                  refine lv_aload_n hx hb dX2_worked_168 rfl (lv_at hl 1 rfl) ?_
                  refine g_get K hW (t := 2) (ci := 2) (k := 0) (v := .ref (ad 288)) kLC_287 rfl rfl i_X2 (by decide) q_386 rfl (gfv2 rLC_287_0) dX2_worked_169 ?_
                  refine lv_iload hx hb dX2_worked_172 (lv_at hl 0 rfl) ?_
                  obtain ⟨g41, h⟩ := gd_o h hn
                  refine g_iald K hW kLC_288 g41 rfl dX2_worked_174 ?_
                  refine lv_i2l hx hb dX2_worked_175 rfl ?_
                  obtain ⟨u42, e43, h⟩ := bd_o h hn
                  refine g_callSl (rest := [.int (u38 - (1 : Int32)), .ref (ad 288)]) K hW hl (kX2_ofTwo (l := l) (G := G) (ad := ad) hok u18 ((I 288 ((u38 - (1 : Int32))).toNatClampNeg)).toInt64 ((I 288 (u38).toNatClampNeg)).toInt64 I J u42 e43) q_707 q_708 q_138 q_709 nm_X2_ofTwo ⟨Nat.le_of_ble_eq_true rfl, Nat.le_of_ble_eq_true rfl⟩ rfl rfl (Nat.le_of_ble_eq_true rfl) ⟨Nat.zero_le _, Nat.zero_le _⟩ dX2_worked_176 (fun H locs hW => ?_)
                  refine g_callSi (rest := [.int (u38 - (1 : Int32)), .ref (ad 288)]) K hW hl (kX2_limited (l := l) (G := G) (ad := ad) hok u42 I J (fX2_limited u42) rfl) q_710 q_711 q_138 q_712 nm_X2_limited ⟨Nat.le_of_ble_eq_true rfl, Nat.le_of_ble_eq_true rfl⟩ rfl rfl (Nat.le_of_ble_eq_true rfl) ⟨Nat.zero_le _, Nat.zero_le _⟩ dX2_worked_179 (fun z45 H locs hW => ?_)
                  refine g_iast K hW kLC_288 g40 rfl dX2_worked_182 (fun H locs hW => ?_)
                  obtain ⟨I47, e46, h⟩ := lz_o h
                  replace hW := gWd_nI e46 hW
                  refine lv_goto (tgt := 272) hx hb dX2_worked_183 (by decide) ?_
                  exact hj29 u38 u22 I47 h _ _ hW _ (lv_sub hl [1, 2, 3, 4, 5, 6, 7, 0, 8, 9] rfl)
                · replace h := gi_f h c37
                  exact hx1 I h _ _ hW _ (lv_sub hl [] rfl)
              obtain ⟨j48, e49, h⟩ := lz_o h
              have hj50 : j48 = out → ∀ (H : Heap) (locs : List Loc), gWd G LC ad (gA LC ad) s.heap I J H locs → ∀ (ls : Array Slot), lv_has ls 12 [(0, .ref (ad 287)), (1, .ref (ad t0)), (2, .int u4), (3, .ref (ad 1)), (4, .ref (ad w1)), (5, .int u5), (6, .int u6), (7, .int u7), (8, .int u22), (9, .int u9), (10, .int u18), (11, .int u20)] → W p l e (gRm 3) s m args below meth c H locs 0 0 Q (F0 m 129 ls []) := by
                intro h H locs hW ls hl
                replace h := jn0 e49 h
                refine lv_iload hx hb dX2_worked_129 (lv_at hl 10 rfl) ?_
                refine g_callSi (rest := []) K hW hl (kX2_isLink (l := l) (G := G) (ad := ad) hok u18 I J (fX2_isLink u18) rfl) q_704 q_705 q_138 q_706 nm_X2_isLink ⟨Nat.le_of_ble_eq_true rfl, Nat.le_of_ble_eq_true rfl⟩ rfl rfl (Nat.le_of_ble_eq_true rfl) ⟨Nat.zero_le _, Nat.zero_le _⟩ dX2_worked_131 (fun z51 H locs hW => ?_)
                refine lv_if_eq (tgt := 186) hx hb dX2_worked_134 (by decide) (fun c52 => ?_) (fun c52 => ?_)
                · replace h := gi_t h c52
                  refine lv_iload hx hb dX2_worked_186 (lv_at hl 10 rfl) ?_
                  refine g_callSi (rest := []) K hW hl (kX2_isOnOne (l := l) (G := G) (ad := ad) hok u18 I J (fX2_isOnOne u18) rfl) q_717 q_718 q_138 q_719 nm_X2_isOnOne ⟨Nat.le_of_ble_eq_true rfl, Nat.le_of_ble_eq_true rfl⟩ rfl rfl (Nat.le_of_ble_eq_true rfl) ⟨Nat.zero_le _, Nat.zero_le _⟩ dX2_worked_188 (fun z53 H locs hW => ?_)
                  refine lv_if_eq (tgt := 231) hx hb dX2_worked_191 (by decide) (fun c54 => ?_) (fun c54 => ?_)
                  · replace h := gi_t h c54
                    refine lv_iload hx hb dX2_worked_231 (lv_at hl 7 rfl) ?_
                    refine lv_bipush (v := (64 : Int32)) hx hb dX2_worked_233 (by decide) ?_
                    refine lv_icmp_ge (tgt := 272) hx hb dX2_worked_235 (by decide) (fun c55 => ?_) (fun c55 => ?_)
                    · replace h := gi_t h c55
                      exact hj29 u7 u22 I h _ _ hW _ (lv_sub hl [0, 1, 2, 3, 4, 5, 6, 7, 8, 9] rfl)
                    · replace h := gi_f h c55
                      refine lv_aload_n hx hb dX2_worked_238 rfl (lv_at hl 0 rfl) ?_
                      refine g_get K hW (t := 2) (ci := 2) (k := 0) (v := .ref (ad 288)) kLC_287 rfl rfl i_X2 (by decide) q_386 rfl (gfv2 rLC_287_0) dX2_worked_239 ?_
                      refine lv_iload hx hb dX2_worked_242 (lv_at hl 7 rfl) ?_
                      refine lv_iload hx hb dX2_worked_244 (lv_at hl 10 rfl) ?_
                      refine lv_bipush (v := (24 : Int32)) hx hb dX2_worked_246 (by decide) ?_
                      obtain ⟨j57, e58, h⟩ := lz_o h
                      have hj59 : ∀ (u56 : Int32), j57 u56 = out → ∀ (H : Heap) (locs : List Loc), gWd G LC ad (gA LC ad) s.heap I J H locs → ∀ (ls : Array Slot), lv_has ls 12 [(0, .ref (ad 287)), (1, .ref (ad t0)), (2, .int u4), (3, .ref (ad 1)), (4, .ref (ad w1)), (5, .int u5), (6, .int u6), (7, .int u7), (8, .int u22), (9, .int u9)] → W p l e (gRm 3) s m args below meth c H locs 0 0 Q (F0 m 268 ls [.int u56, .int u7, .ref (ad 288)]) := by
                        intro u56 h H locs hW ls hl
                        replace h := jn1 e58 h
                        obtain ⟨g60, h⟩ := gd_o h hn
                        refine g_iast K hW kLC_288 g60 rfl dX2_worked_268 (fun H locs hW => ?_)
                        obtain ⟨I62, e61, h⟩ := lz_o h
                        replace hW := gWd_nI e61 hW
                        obtain ⟨u63, e64, h⟩ := lz_o h
                        refine lv_iinc (v := u63) (lv' := [(7, .int u63), (0, .ref (ad 287)), (1, .ref (ad t0)), (2, .int u4), (3, .ref (ad 1)), (4, .ref (ad w1)), (5, .int u5), (6, .int u6), (8, .int u22), (9, .int u9)]) hx hb dX2_worked_269 hl (k := 7) rfl (by rw [e64]; rfl) (by decide) rfl (fun ls hl => ?_)
                        exact hj29 u63 u22 I62 h _ _ hW _ (lv_sub hl [1, 2, 3, 4, 5, 6, 7, 0, 8, 9] rfl)
                      refine lv_icmp_ne (tgt := 256) hx hb dX2_worked_248 (by decide) (fun c65 => ?_) (fun c65 => ?_)
                      · replace h := gi_f h c65
                        refine lv_iload hx hb dX2_worked_256 (lv_at hl 10 rfl) ?_
                        refine lv_aload_n hx hb dX2_worked_258 rfl (lv_at hl 3 rfl) ?_
                        refine lv_aload hx hb dX2_worked_259 (lv_at hl 4 rfl) ?_
                        refine lv_iload hx hb dX2_worked_261 (lv_at hl 5 rfl) ?_
                        refine lv_iload hx hb dX2_worked_263 (lv_at hl 6 rfl) ?_
                        obtain ⟨u66, e67, h⟩ := bd_o h hn
                        refine g_callSi (rest := [.int u7, .ref (ad 288)]) K hW hl (kX2_named (l := l) (G := G) (ad := ad) hok w1 hw1 u18 u5 u6 I J u66 e67) q_723 q_724 q_138 q_725 nm_X2_named ⟨Nat.le_of_ble_eq_true rfl, Nat.le_of_ble_eq_true rfl⟩ rfl rfl (Nat.le_of_ble_eq_true rfl) ⟨Nat.zero_le _, Nat.zero_le _⟩ dX2_worked_265 (fun z68 H locs hW => ?_)
                        exact hj59 u66 h _ _ hW _ (lv_sub hl [0, 1, 2, 3, 4, 5, 6, 7, 8, 9] rfl)
                      · replace h := gi_t h c65
                        refine lv_iload hx hb dX2_worked_251 (lv_at hl 11 rfl) ?_
                        refine lv_goto (tgt := 268) hx hb dX2_worked_253 (by decide) ?_
                        exact hj59 u20 h _ _ hW _ (lv_sub hl [0, 1, 2, 3, 4, 5, 6, 7, 8, 9] rfl)
                  · replace h := gi_f h c54
                    refine lv_iload hx hb dX2_worked_194 (lv_at hl 7 rfl) ?_
                    refine lv_iconst (v := (1 : Int32)) hx hb dX2_worked_196 (by decide) ?_
                    refine lv_icmp_ge (tgt := 202) hx hb dX2_worked_197 (by decide) (fun c69 => ?_) (fun c69 => ?_)
                    · replace h := gi_t h c69
                      refine lv_aload_n hx hb dX2_worked_202 rfl (lv_at hl 0 rfl) ?_
                      refine g_get K hW (t := 2) (ci := 2) (k := 0) (v := .ref (ad 288)) kLC_287 rfl rfl i_X2 (by decide) q_386 rfl (gfv2 rLC_287_0) dX2_worked_203 ?_
                      refine lv_iload hx hb dX2_worked_206 (lv_at hl 7 rfl) ?_
                      refine lv_iconst (v := (1 : Int32)) hx hb dX2_worked_208 (by decide) ?_
                      refine lv_isub hx hb dX2_worked_209 ?_
                      refine lv_iload hx hb dX2_worked_210 (lv_at hl 10 rfl) ?_
                      refine lv_aload_n hx hb dX2_worked_212 rfl (lv_at hl 0 rfl) ?_
                      refine g_get K hW (t := 2) (ci := 2) (k := 0) (v := .ref (ad 288)) kLC_287 rfl rfl i_X2 (by decide) q_386 rfl (gfv2 rLC_287_0) dX2_worked_213 ?_
                      refine lv_iload hx hb dX2_worked_216 (lv_at hl 7 rfl) ?_
                      refine lv_iconst (v := (1 : Int32)) hx hb dX2_worked_218 (by decide) ?_
                      refine lv_isub hx hb dX2_worked_219 ?_
                      obtain ⟨g70, h⟩ := gd_o h hn
                      refine g_iald K hW kLC_288 g70 rfl dX2_worked_220 ?_
                      refine lv_aload_n hx hb dX2_worked_221 rfl (lv_at hl 3 rfl) ?_
                      refine lv_aload hx hb dX2_worked_222 (lv_at hl 4 rfl) ?_
                      obtain ⟨u71, e72, h⟩ := bd_o h hn
                      refine g_callSi (rest := [.int (u7 - (1 : Int32)), .ref (ad 288)]) K hW hl (kX2_ofOne (l := l) (G := G) (ad := ad) hok w1 hw1 u18 (I 288 ((u7 - (1 : Int32))).toNatClampNeg) I J u71 e72) q_720 q_721 q_138 q_722 nm_X2_ofOne ⟨Nat.le_of_ble_eq_true rfl, Nat.le_of_ble_eq_true rfl⟩ rfl rfl (Nat.le_of_ble_eq_true rfl) ⟨Nat.zero_le _, Nat.zero_le _⟩ dX2_worked_224 (fun z73 H locs hW => ?_)
                      refine g_iast K hW kLC_288 g70 rfl dX2_worked_227 (fun H locs hW => ?_)
                      obtain ⟨I75, e74, h⟩ := lz_o h
                      replace hW := gWd_nI e74 hW
                      refine lv_goto (tgt := 272) hx hb dX2_worked_228 (by decide) ?_
                      exact hj29 u7 u22 I75 h _ _ hW _ (lv_sub hl [0, 1, 2, 3, 4, 5, 6, 7, 8, 9] rfl)
                    · replace h := gi_f h c69
                      exact hx2 I h _ _ hW _ (lv_sub hl [] rfl)
                · replace h := gi_f h c52
                  exact hj36 h _ _ hW _ (lv_sub hl [0, 1, 2, 3, 4, 5, 6, 7, 8, 9, 10] rfl)
              refine lv_icmp_lt (tgt := 129) hx hb dX2_worked_119 (by decide) (fun c76 => ?_) (fun c76 => ?_)
              · replace h := gi_t h c76
                exact hj50 h _ _ hW _ (lv_sub hl [3, 4, 5, 6, 7, 8, 9, 10, 0, 11, 2, 1] rfl)
              · replace h := gi_f h c76
                refine lv_iload hx hb dX2_worked_122 (lv_at hl 2 rfl) ?_
                refine lv_bipush (v := (38 : Int32)) hx hb dX2_worked_124 (by decide) ?_
                refine lv_icmp_lt (tgt := 137) hx hb dX2_worked_126 (by decide) (fun c77 => ?_) (fun c77 => ?_)
                · replace h := gi_t h c77
                  exact hj36 h _ _ hW _ (lv_sub hl [3, 4, 5, 6, 7, 8, 9, 10, 0, 11, 2] rfl)
                · replace h := gi_f h c77
                  exact hj50 h _ _ hW _ (lv_sub hl [3, 4, 5, 6, 7, 8, 9, 10, 0, 11, 2, 1] rfl)
            · replace h := gi_t h c33
              refine lv_iconst (v := (0 : Int32)) hx hb dX2_worked_83 (by decide) ?_
              refine lv_iload hx hb dX2_worked_84 (lv_at hl 10 rfl) ?_
              refine lv_iconst (v := (1 : Int32)) hx hb dX2_worked_86 (by decide) ?_
              refine lv_isub hx hb dX2_worked_87 ?_
              refine g_max K hl q_701 (by decide) (Nat.le_of_ble_eq_true rfl) ⟨Nat.zero_le _, Nat.zero_le _⟩ dX2_worked_88 ?_
              obtain ⟨u78, e79, h⟩ := lz_o h
              refine g_nmi e79 ?_
              refine lv_istore (lv' := [(7, .int u78), (8, .int u22), (11, .int u20), (10, .int u18), (0, .ref (ad 287)), (1, .ref (ad t0)), (2, .int u4), (3, .ref (ad 1)), (4, .ref (ad w1)), (5, .int u5), (6, .int u6), (9, .int u9)]) hx hb dX2_worked_91 hl (by decide) rfl (fun ls hl => ?_)
              refine lv_aload_n hx hb dX2_worked_93 rfl (lv_at hl 4 rfl) ?_
              refine g_get K hW (t := 2) (ci := 2) (k := 0) (v := .ref (ad 288)) kLC_287 rfl rfl i_X2 (by decide) q_386 rfl (gfv2 rLC_287_0) dX2_worked_94 ?_
              refine lv_iload hx hb dX2_worked_97 (lv_at hl 0 rfl) ?_
              obtain ⟨g80, h⟩ := gd_o h hn
              refine g_iald K hW kLC_288 g80 rfl dX2_worked_99 ?_
              obtain ⟨j82, e83, h⟩ := lz_o h
              have hj84 : ∀ (u81 : Int32), j82 u81 = out → ∀ (H : Heap) (locs : List Loc), gWd G LC ad (gA LC ad) s.heap I J H locs → ∀ (ls : Array Slot), lv_has ls 12 [(0, .ref (ad 287)), (1, .ref (ad t0)), (2, .int u4), (3, .ref (ad 1)), (4, .ref (ad w1)), (5, .int u5), (6, .int u6), (7, .int u78), (9, .int u9)] → W p l e (gRm 3) s m args below meth c H locs 0 0 Q (F0 m 110 ls [.int u81]) := by
                intro u81 h H locs hW ls hl
                replace h := jn1 e83 h
                refine lv_istore (lv' := [(8, .int u81), (0, .ref (ad 287)), (1, .ref (ad t0)), (2, .int u4), (3, .ref (ad 1)), (4, .ref (ad w1)), (5, .int u5), (6, .int u6), (7, .int u78), (9, .int u9)]) hx hb dX2_worked_110 hl (by decide) rfl (fun ls hl => ?_)
                refine lv_goto (tgt := 272) hx hb dX2_worked_112 (by decide) ?_
                exact hj29 u78 u81 I h _ _ hW _ (lv_sub hl [1, 2, 3, 4, 5, 6, 7, 8, 0, 9] rfl)
              refine lv_if_ne (tgt := 108) hx hb dX2_worked_100 (by decide) (fun c85 => ?_) (fun c85 => ?_)
              · replace h := gi_f h c85
                refine lv_iload hx hb dX2_worked_108 (lv_at hl 1 rfl) ?_
                exact hj84 u22 h _ _ hW _ (lv_sub hl [4, 5, 6, 7, 8, 9, 10, 0, 11] rfl)
              · replace h := gi_t h c85
                refine lv_iload hx hb dX2_worked_103 (lv_at hl 2 rfl) ?_
                refine lv_goto (tgt := 110) hx hb dX2_worked_105 (by decide) ?_
                exact hj84 u20 h _ _ hW _ (lv_sub hl [4, 5, 6, 7, 8, 9, 10, 0, 11] rfl)
          · replace h := gi_t h c32
            refine lv_iload hx hb dX2_worked_69 (lv_at hl 1 rfl) ?_
            refine lv_istore (lv' := [(8, .int u20), (11, .int u20), (10, .int u18), (0, .ref (ad 287)), (1, .ref (ad t0)), (2, .int u4), (3, .ref (ad 1)), (4, .ref (ad w1)), (5, .int u5), (6, .int u6), (7, .int u7), (9, .int u9)]) hx hb dX2_worked_71 hl (by decide) rfl (fun ls hl => ?_)
            refine lv_goto (tgt := 272) hx hb dX2_worked_73 (by decide) ?_
            exact hj29 u7 u20 I h _ _ hW _ (lv_sub hl [3, 4, 5, 6, 7, 8, 9, 10, 0, 11] rfl)
noncomputable def fX2_worked (t0 : Nat) (w1 : Nat) (x2 : Int32) (x5 : Int32) (x6 : Int32) (I : gI) : Option (Int32 × gI) :=
  gd (vp_in x2 2) (lz ((I (t0 + 6) (x2).toNatClampNeg)) (fun (u2 : Int32) => bd (fX2_worked_14 t0 w1 FU x2 x5 x6 (0 : Int32) u2 (0 : Int32) I) (sm (fun (I88 : gI) => some ((0 : Int32), I88)) (sm (fun (I90 : gI) => some ((0 : Int32), I90)) (fun (I92 : gI) => some ((I92 288 0), I92))))))
set_option maxHeartbeats 4000000 in
set_option maxRecDepth 100000 in
theorem kX2_worked {l : Launch} {G : gG} {ad : Nat → Nat} (hok : gInj LC ad)  (t0 : Nat) (w1 : Nat) (ht0 : gAt LC t0 0 3) (hw1 : gAt LC w1 0 4) (x2 : Int32) (x5 : Int32) (x6 : Int32) (I : gI) (J : gJ) (r : Int32) (I' : gI) (h : fX2_worked t0 w1 x2 x5 x6 I = some (r, I')) : gMi l yX2_worked cX2_worked 12 (some .int) 3 G LC ad [.ref (ad 287), .ref (ad t0), .int x2, .ref (ad 1), .ref (ad w1), .int x5, .int x6] I J r True I' J := by
  refine gMi_of (lst := [(0, .ref (ad 287)), (1, .ref (ad t0)), (2, .int x2), (3, .ref (ad 1)), (4, .ref (ad w1)), (5, .int x5), (6, .int x6)]) (by decide) hok (Nat.le_of_ble_eq_true rfl) rfl ?_
  intro p e s m args below meth c Q ls K hW hl hfin
  have hn : (some (r, I') : Option (Int32 × gI)) ≠ none := Option.some_ne_none _
  have hx := K.1; have hb := K.2.1; have hown := K.2.2.2.1; have hts := K.2.2.2.2.1
  unfold fX2_worked at h
  refine lv_iconst (v := (0 : Int32)) hx hb dX2_worked_0 (by decide) ?_
  refine lv_istore (lv' := [(7, .int (0 : Int32)), (0, .ref (ad 287)), (1, .ref (ad t0)), (2, .int x2), (3, .ref (ad 1)), (4, .ref (ad w1)), (5, .int x5), (6, .int x6)]) hx hb dX2_worked_1 hl (by decide) rfl (fun ls hl => ?_)
  refine lv_aload_n hx hb dX2_worked_3 rfl (lv_at hl 2 rfl) ?_
  refine g_get K hW (t := 2) (ci := 3) (k := 5) (v := .ref (ad (t0 + 6))) ht0 rfl rfl i_X3 (by decide) q_320 rfl (gfv2 (rT_5 ht0)) dX2_worked_4 ?_
  refine lv_iload_n hx hb dX2_worked_7 rfl (lv_at hl 3 rfl) ?_
  obtain ⟨g1, h⟩ := gd_o h hn
  refine g_iald K hW (kT_5 ht0) g1 rfl dX2_worked_8 ?_
  obtain ⟨u2, e3, h⟩ := lz_o h
  refine g_nmi e3 ?_
  refine lv_istore (lv' := [(8, .int u2), (7, .int (0 : Int32)), (0, .ref (ad 287)), (1, .ref (ad t0)), (2, .int x2), (3, .ref (ad 1)), (4, .ref (ad w1)), (5, .int x5), (6, .int x6)]) hx hb dX2_worked_9 hl (by decide) rfl (fun ls hl => ?_)
  refine lv_iconst (v := (0 : Int32)) hx hb dX2_worked_11 (by decide) ?_
  refine lv_istore (lv' := [(9, .int (0 : Int32)), (8, .int u2), (7, .int (0 : Int32)), (0, .ref (ad 287)), (1, .ref (ad t0)), (2, .int x2), (3, .ref (ad 1)), (4, .ref (ad w1)), (5, .int x5), (6, .int x6)]) hx hb dX2_worked_12 hl (by decide) rfl (fun ls hl => ?_)
  obtain ⟨r86, e87, h⟩ := bd_o h hn
  refine tX2_worked_14 hok K t0 ht0 w1 hw1 FU x2 x5 x6 (0 : Int32) u2 (0 : Int32) I J (some r86) e87 (Option.some_ne_none _) _ _ hW _ (lv_sub hl [3, 4, 5, 6, 7, 8, 9, 2, 1, 0] rfl) ?_ ?_ ?_
  · intro I88 q89 H locs hW ls hl
    replace q89 := Option.some.inj q89
    subst q89
    replace h := sm_l h
    refine lv_iconst (v := (0 : Int32)) hx hb dX2_worked_143 (by decide) ?_
    obtain ⟨a1, a2⟩ := so2 h
    replace hW := gWd_nI a2 hW
    exact g_nmi a1 (hfin _ _ _ _ hW dX2_worked_144)
  · intro I90 q91 H locs hW ls hl
    replace q91 := Option.some.inj q91
    subst q91
    replace h := sm_r h
    replace h := sm_l h
    refine lv_iconst (v := (0 : Int32)) hx hb dX2_worked_200 (by decide) ?_
    obtain ⟨a1, a2⟩ := so2 h
    replace hW := gWd_nI a2 hW
    exact g_nmi a1 (hfin _ _ _ _ hW dX2_worked_201)
  · intro I92 q93 H locs hW ls hl
    replace q93 := Option.some.inj q93
    subst q93
    replace h := sm_r h
    replace h := sm_r h
    refine lv_aload_n hx hb dX2_worked_278 rfl (lv_at hl 0 rfl) ?_
    refine g_get K hW (t := 2) (ci := 2) (k := 0) (v := .ref (ad 288)) kLC_287 rfl rfl i_X2 (by decide) q_386 rfl (gfv2 rLC_287_0) dX2_worked_279 ?_
    refine lv_iconst (v := (0 : Int32)) hx hb dX2_worked_282 (by decide) ?_
    refine g_iald K hW kLC_288 in_0_64 tn_0 dX2_worked_283 ?_
    obtain ⟨a1, a2⟩ := so2 h
    replace hW := gWd_nI a2 hW
    exact g_nmi a1 (hfin _ _ _ _ hW dX2_worked_284)
noncomputable def fX5_writeDown (w0 : Nat) (x1 : Int32) (x2 : Int32) (x3 : Int32) (I : gI) : Option (gI) :=
  lz (fun (I1 : gI) => gd (vp_in (I1 w0 3) 25) (lz (wI I1 (w0 + 3) ((I1 w0 3)).toNatClampNeg ((((jshl (I1 w0 7) (14 : Int32)) ||| (jshl x1 (11 : Int32))) ||| (jshl x2 (7 : Int32))) ||| x3)) (fun (I7 : gI) => lz (wI I7 w0 3 ((I7 w0 3) + (1 : Int32))) (fun (I8 : gI) => some I8)))) (fun j2 => gi ((I w0 3) < (25 : Int32))
 (j2 I)
 (lz (cpI I (w0 + 3) 1 (w0 + 3) 0 24) (fun (I11 : gI) => lz (wI I11 w0 3 (24 : Int32)) (fun (I13 : gI) => j2 I13))))
set_option maxHeartbeats 4000000 in
set_option maxRecDepth 100000 in
theorem kX5_writeDown {l : Launch} {G : gG} {ad : Nat → Nat} (hok : gInj LC ad)  (w0 : Nat) (hw0 : gAt LC w0 0 4) (x1 : Int32) (x2 : Int32) (x3 : Int32) (I : gI) (J : gJ) (I' : gI) (h : fX5_writeDown w0 x1 x2 x3 I = some I') : gMv l yX5_writeDown cX5_writeDown 4 none 1 G LC ad [.ref (ad w0), .int x1, .int x2, .int x3] I J I' J := by
  refine gMv_of (lst := [(0, .ref (ad w0)), (1, .int x1), (2, .int x2), (3, .int x3)]) (by decide) hok (Nat.le_of_ble_eq_true rfl) rfl ?_
  intro p e s m args below meth c Q ls K hW hl hfin
  have hn : (some I' : Option (gI)) ≠ none := Option.some_ne_none _
  have hx := K.1; have hb := K.2.1; have hown := K.2.2.2.1; have hts := K.2.2.2.2.1
  unfold fX5_writeDown at h
  refine lv_aload_n hx hb dX5_writeDown_0 rfl (lv_at hl 0 rfl) ?_
  refine g_get K hW (t := 0) (ci := 4) (k := 3) (v := .int (I w0 3)) hw0 rfl rfl i_X5 (by decide) q_176 rfl rfl dX5_writeDown_1 ?_
  refine lv_bipush (v := (25 : Int32)) hx hb dX5_writeDown_4 (by decide) ?_
  obtain ⟨j2, e3, h⟩ := lz_o h
  have hj4 : ∀ (I1 : gI), j2 I1 = (some I') → ∀ (H : Heap) (locs : List Loc), gWd G LC ad (gA LC ad) s.heap I1 J H locs → ∀ (ls : Array Slot), lv_has ls 4 [(0, .ref (ad w0)), (1, .int x1), (2, .int x2), (3, .int x3)] → W p l e (gRm 1) s m args below meth c H locs 0 0 Q (F0 m 30 ls []) := by
    intro I1 h H locs hW ls hl
    replace h := jn1 e3 h
    refine lv_aload_n hx hb dX5_writeDown_30 rfl (lv_at hl 0 rfl) ?_
    refine g_get K hW (t := 2) (ci := 4) (k := 2) (v := .ref (ad (w0 + 3))) hw0 rfl rfl i_X5 (by decide) q_174 rfl (gfv2 (rW_2 hw0)) dX5_writeDown_31 ?_
    refine lv_aload_n hx hb dX5_writeDown_34 rfl (lv_at hl 0 rfl) ?_
    refine g_get K hW (t := 0) (ci := 4) (k := 3) (v := .int (I1 w0 3)) hw0 rfl rfl i_X5 (by decide) q_176 rfl rfl dX5_writeDown_35 ?_
    refine lv_aload_n hx hb dX5_writeDown_38 rfl (lv_at hl 0 rfl) ?_
    refine g_get K hW (t := 0) (ci := 4) (k := 7) (v := .int (I1 w0 7)) hw0 rfl rfl i_X5 (by decide) q_185 rfl rfl dX5_writeDown_39 ?_
    refine lv_bipush (v := (14 : Int32)) hx hb dX5_writeDown_42 (by decide) ?_
    refine g_ishl hx hb dX5_writeDown_44 ?_
    refine lv_iload_n hx hb dX5_writeDown_45 rfl (lv_at hl 1 rfl) ?_
    refine lv_bipush (v := (11 : Int32)) hx hb dX5_writeDown_46 (by decide) ?_
    refine g_ishl hx hb dX5_writeDown_48 ?_
    refine lv_ior hx hb dX5_writeDown_49 ?_
    refine lv_iload_n hx hb dX5_writeDown_50 rfl (lv_at hl 2 rfl) ?_
    refine lv_bipush (v := (7 : Int32)) hx hb dX5_writeDown_51 (by decide) ?_
    refine g_ishl hx hb dX5_writeDown_53 ?_
    refine lv_ior hx hb dX5_writeDown_54 ?_
    refine lv_iload_n hx hb dX5_writeDown_55 rfl (lv_at hl 3 rfl) ?_
    refine lv_ior hx hb dX5_writeDown_56 ?_
    obtain ⟨g5, h⟩ := gd_o h hn
    refine g_iast K hW (kW_2 hw0) g5 rfl dX5_writeDown_57 (fun H locs hW => ?_)
    obtain ⟨I7, e6, h⟩ := lz_o h
    replace hW := gWd_nI e6 hW
    refine lv_aload_n hx hb dX5_writeDown_58 rfl (lv_at hl 0 rfl) ?_
    refine lv_dup hx hb dX5_writeDown_59 rfl ?_
    refine g_get K hW (t := 0) (ci := 4) (k := 3) (v := .int (I7 w0 3)) hw0 rfl rfl i_X5 (by decide) q_176 rfl rfl dX5_writeDown_60 ?_
    refine lv_iconst (v := (1 : Int32)) hx hb dX5_writeDown_63 (by decide) ?_
    refine lv_iadd hx hb dX5_writeDown_64 ?_
    refine g_putI K hW (ci := 4) (k := 3) hw0 rfl rfl i_X5 tyX5_ok nmX5 (by decide) q_176 rfl rfl rfl rfl dX5_writeDown_65 (fun H locs hW => ?_)
    obtain ⟨I8, e9, h⟩ := lz_o h
    replace hW := gWd_nI e9 hW
    obtain a1 := so1 h
    replace hW := gWd_nI a1 hW
    exact hfin _ _ _ _ hW dX5_writeDown_68
  refine lv_icmp_lt (tgt := 30) hx hb dX5_writeDown_6 (by decide) (fun c10 => ?_) (fun c10 => ?_)
  · replace h := gi_t h c10
    exact hj4 I h _ _ hW _ (lv_sub hl [0, 1, 2, 3] rfl)
  · replace h := gi_f h c10
    refine lv_aload_n hx hb dX5_writeDown_9 rfl (lv_at hl 0 rfl) ?_
    refine g_get K hW (t := 2) (ci := 4) (k := 2) (v := .ref (ad (w0 + 3))) hw0 rfl rfl i_X5 (by decide) q_174 rfl (gfv2 (rW_2 hw0)) dX5_writeDown_10 ?_
    refine lv_iconst (v := (1 : Int32)) hx hb dX5_writeDown_13 (by decide) ?_
    refine lv_aload_n hx hb dX5_writeDown_14 rfl (lv_at hl 0 rfl) ?_
    refine g_get K hW (t := 2) (ci := 4) (k := 2) (v := .ref (ad (w0 + 3))) hw0 rfl rfl i_X5 (by decide) q_174 rfl (gfv2 (rW_2 hw0)) dX5_writeDown_15 ?_
    refine lv_iconst (v := (0 : Int32)) hx hb dX5_writeDown_18 (by decide) ?_
    refine lv_bipush (v := (24 : Int32)) hx hb dX5_writeDown_19 (by decide) ?_
    refine g_copy K hW (sp' := 1) (dp' := 0) (k' := 24) q_739 q_741 q_740 q_147 (kW_2 hw0) (kW_2 hw0) (by decide) (by decide) (by decide) (by decide) (by decide) (by decide) (by decide) hl (by decide) (by decide +kernel) dX5_writeDown_21 (fun H locs hW => ?_)
    obtain ⟨I11, e12, h⟩ := lz_o h
    replace hW := gWd_nI e12 hW
    refine lv_aload_n hx hb dX5_writeDown_24 rfl (lv_at hl 0 rfl) ?_
    refine lv_bipush (v := (24 : Int32)) hx hb dX5_writeDown_25 (by decide) ?_
    refine g_putI K hW (ci := 4) (k := 3) hw0 rfl rfl i_X5 tyX5_ok nmX5 (by decide) q_176 rfl rfl rfl rfl dX5_writeDown_27 (fun H locs hW => ?_)
    obtain ⟨I13, e14, h⟩ := lz_o h
    replace hW := gWd_nI e14 hW
    exact hj4 I13 h _ _ hW _ (lv_sub hl [0, 1, 2, 3] rfl)
noncomputable def fX5_dayOf  (x0 : Int32)  : Int32 :=
  (jshr x0 (14 : Int32))
set_option maxHeartbeats 4000000 in
set_option maxRecDepth 100000 in
theorem kX5_dayOf {l : Launch} {G : gG} {ad : Nat → Nat} (hok : gInj LC ad)    (x0 : Int32) (I : gI) (J : gJ) (r : Int32) (h : fX5_dayOf x0 = r) : gMi l yX5_dayOf cX5_dayOf 1 (some .int) 1 G LC ad [.int x0] I J r True I J := by
  refine gMi_of (lst := [(0, .int x0)]) (by decide) hok (Nat.le_of_ble_eq_true rfl) rfl ?_
  intro p e s m args below meth c Q ls K hW hl hfin
  have hx := K.1; have hb := K.2.1; have hown := K.2.2.2.1; have hts := K.2.2.2.2.1
  unfold fX5_dayOf at h
  refine lv_iload_n hx hb dX5_dayOf_0 rfl (lv_at hl 0 rfl) ?_
  refine lv_bipush (v := (14 : Int32)) hx hb dX5_dayOf_1 (by decide) ?_
  refine g_ishr hx hb dX5_dayOf_3 ?_
  obtain a1 := h.symm
  exact g_nmi a1 (hfin _ _ _ _ hW dX5_dayOf_4)
noncomputable def fX5_kindOf  (x0 : Int32)  : Int32 :=
  ((jshr x0 (11 : Int32)) &&& (7 : Int32))
set_option maxHeartbeats 4000000 in
set_option maxRecDepth 100000 in
theorem kX5_kindOf {l : Launch} {G : gG} {ad : Nat → Nat} (hok : gInj LC ad)    (x0 : Int32) (I : gI) (J : gJ) (r : Int32) (h : fX5_kindOf x0 = r) : gMi l yX5_kindOf cX5_kindOf 1 (some .int) 1 G LC ad [.int x0] I J r True I J := by
  refine gMi_of (lst := [(0, .int x0)]) (by decide) hok (Nat.le_of_ble_eq_true rfl) rfl ?_
  intro p e s m args below meth c Q ls K hW hl hfin
  have hx := K.1; have hb := K.2.1; have hown := K.2.2.2.1; have hts := K.2.2.2.2.1
  unfold fX5_kindOf at h
  refine lv_iload_n hx hb dX5_kindOf_0 rfl (lv_at hl 0 rfl) ?_
  refine lv_bipush (v := (11 : Int32)) hx hb dX5_kindOf_1 (by decide) ?_
  refine g_ishr hx hb dX5_kindOf_3 ?_
  refine lv_bipush (v := (7 : Int32)) hx hb dX5_kindOf_4 (by decide) ?_
  refine lv_iand hx hb dX5_kindOf_6 ?_
  obtain a1 := h.symm
  exact g_nmi a1 (hfin _ _ _ _ hW dX5_kindOf_7)
noncomputable def fX5_whomOf  (x0 : Int32)  : Int32 :=
  ((jshr x0 (7 : Int32)) &&& (15 : Int32))
set_option maxHeartbeats 4000000 in
set_option maxRecDepth 100000 in
theorem kX5_whomOf {l : Launch} {G : gG} {ad : Nat → Nat} (hok : gInj LC ad)    (x0 : Int32) (I : gI) (J : gJ) (r : Int32) (h : fX5_whomOf x0 = r) : gMi l yX5_whomOf cX5_whomOf 1 (some .int) 1 G LC ad [.int x0] I J r True I J := by
  refine gMi_of (lst := [(0, .int x0)]) (by decide) hok (Nat.le_of_ble_eq_true rfl) rfl ?_
  intro p e s m args below meth c Q ls K hW hl hfin
  have hx := K.1; have hb := K.2.1; have hown := K.2.2.2.1; have hts := K.2.2.2.2.1
  unfold fX5_whomOf at h
  refine lv_iload_n hx hb dX5_whomOf_0 rfl (lv_at hl 0 rfl) ?_
  refine lv_bipush (v := (7 : Int32)) hx hb dX5_whomOf_1 (by decide) ?_
  refine g_ishr hx hb dX5_whomOf_3 ?_
  refine lv_bipush (v := (15 : Int32)) hx hb dX5_whomOf_4 (by decide) ?_
  refine lv_iand hx hb dX5_whomOf_6 ?_
  obtain a1 := h.symm
  exact g_nmi a1 (hfin _ _ _ _ hW dX5_whomOf_7)
noncomputable def fX5_priceOf  (x0 : Int32)  : Int32 :=
  (x0 &&& (127 : Int32))
set_option maxHeartbeats 4000000 in
set_option maxRecDepth 100000 in
theorem kX5_priceOf {l : Launch} {G : gG} {ad : Nat → Nat} (hok : gInj LC ad)    (x0 : Int32) (I : gI) (J : gJ) (r : Int32) (h : fX5_priceOf x0 = r) : gMi l yX5_priceOf cX5_priceOf 1 (some .int) 1 G LC ad [.int x0] I J r True I J := by
  refine gMi_of (lst := [(0, .int x0)]) (by decide) hok (Nat.le_of_ble_eq_true rfl) rfl ?_
  intro p e s m args below meth c Q ls K hW hl hfin
  have hx := K.1; have hb := K.2.1; have hown := K.2.2.2.1; have hts := K.2.2.2.2.1
  unfold fX5_priceOf at h
  refine lv_iload_n hx hb dX5_priceOf_0 rfl (lv_at hl 0 rfl) ?_
  refine lv_bipush (v := (127 : Int32)) hx hb dX5_priceOf_1 (by decide) ?_
  refine lv_iand hx hb dX5_priceOf_3 ?_
  obtain a1 := h.symm
  exact g_nmi a1 (hfin _ _ _ _ hW dX5_priceOf_4)
noncomputable def fX6_isSort  (x0 : Int32)  : Int32 :=
  gi (x0 < 0)
 ((0 : Int32))
 (gi ((5 : Int32) ≤ x0)
 ((0 : Int32))
 ((1 : Int32)))
set_option maxHeartbeats 4000000 in
set_option maxRecDepth 100000 in
theorem kX6_isSort {l : Launch} {G : gG} {ad : Nat → Nat} (hok : gInj LC ad)    (x0 : Int32) (I : gI) (J : gJ) (r : Int32) (h : fX6_isSort x0 = r) : gMi l yX6_isSort cX6_isSort 1 (some .boolean) 1 G LC ad [.int x0] I J r (r = 0 ∨ r = 1) I J := by
  refine gMz_of (lst := [(0, .int x0)]) (by decide) hok (Nat.le_of_ble_eq_true rfl) rfl ?_
  intro p e s m args below meth c Q ls K hW hl hfin
  have hx := K.1; have hb := K.2.1; have hown := K.2.2.2.1; have hts := K.2.2.2.2.1
  unfold fX6_isSort at h
  refine lv_iload_n hx hb dX6_isSort_0 rfl (lv_at hl 0 rfl) ?_
  refine lv_if_lt (tgt := 13) hx hb dX6_isSort_1 (by decide) (fun c1 => ?_) (fun c1 => ?_)
  · replace h := gi_t h c1
    refine lv_iconst (v := (0 : Int32)) hx hb dX6_isSort_13 (by decide) ?_
    obtain a1 := h.symm
    exact g_nmi a1 (hfin _ _ _ _ (a1 ▸ (Or.inl rfl)) hW dX6_isSort_14)
  · replace h := gi_f h c1
    refine lv_iload_n hx hb dX6_isSort_4 rfl (lv_at hl 0 rfl) ?_
    refine lv_iconst (v := (5 : Int32)) hx hb dX6_isSort_5 (by decide) ?_
    refine lv_icmp_ge (tgt := 13) hx hb dX6_isSort_6 (by decide) (fun c2 => ?_) (fun c2 => ?_)
    · replace h := gi_t h c2
      refine lv_iconst (v := (0 : Int32)) hx hb dX6_isSort_13 (by decide) ?_
      obtain a1 := h.symm
      exact g_nmi a1 (hfin _ _ _ _ (a1 ▸ (Or.inl rfl)) hW dX6_isSort_14)
    · replace h := gi_f h c2
      refine lv_iconst (v := (1 : Int32)) hx hb dX6_isSort_9 (by decide) ?_
      refine lv_goto (tgt := 14) hx hb dX6_isSort_10 (by decide) ?_
      obtain a1 := h.symm
      exact g_nmi a1 (hfin _ _ _ _ (a1 ▸ (Or.inr rfl)) hW dX6_isSort_14)
theorem kLC_0 : gAt LC 0 0 5 := ⟨by decide, by decide +kernel⟩
theorem nm_X6_isSort : gNm yX6_isSort 1 := by decide +kernel
theorem rLC_0_0 : LC.2.2 0 0 = some 1 := by decide +kernel
theorem kLC_2 : gAt LC 2 1 5 := ⟨by decide, by decide +kernel⟩
theorem rLC_1_0 : LC.2.2 1 0 = some 2 := by decide +kernel
noncomputable def fX6_sort  (x1 : Int32) (x2 : Int32) (x3 : Int32) (I : gI) : Option (Int32 × gI) :=
  gi ((fX6_isSort x1) = 0)
 (some ((0 : Int32), I))
 (gi ((fX6_within x2 (0 : Int32) (9 : Int32)) = 0)
 (some ((0 : Int32), I))
 (gi ((fX6_within x3 (0 : Int32) (99 : Int32)) = 0)
 (some ((0 : Int32), I))
 (gd (vp_in x1 5) (lz (wI I 2 (x1).toNatClampNeg x2) (fun (I9 : gI) => lz (wI I9 3 (x1).toNatClampNeg x3) (fun (I11 : gI) => some ((1 : Int32), I11)))))))
set_option maxHeartbeats 4000000 in
set_option maxRecDepth 100000 in
theorem kX6_sort {l : Launch} {G : gG} {ad : Nat → Nat} (hok : gInj LC ad)    (x1 : Int32) (x2 : Int32) (x3 : Int32) (I : gI) (J : gJ) (r : Int32) (I' : gI) (h : fX6_sort x1 x2 x3 I = some (r, I')) : gMi l yX6_sort cX6_sort 4 (some .boolean) 2 G LC ad [.ref (ad 0), .int x1, .int x2, .int x3] I J r (r = 0 ∨ r = 1) I' J := by
  refine gMz_of (lst := [(0, .ref (ad 0)), (1, .int x1), (2, .int x2), (3, .int x3)]) (by decide) hok (Nat.le_of_ble_eq_true rfl) rfl ?_
  intro p e s m args below meth c Q ls K hW hl hfin
  have hn : (some (r, I') : Option (Int32 × gI)) ≠ none := Option.some_ne_none _
  have hx := K.1; have hb := K.2.1; have hown := K.2.2.2.1; have hts := K.2.2.2.2.1
  unfold fX6_sort at h
  refine lv_iload_n hx hb dX6_sort_0 rfl (lv_at hl 1 rfl) ?_
  refine g_callSi (rest := []) K hW hl (kX6_isSort (l := l) (G := G) (ad := ad) hok x1 I J (fX6_isSort x1) rfl) q_437 q_438 q_133 q_439 nm_X6_isSort ⟨Nat.le_of_ble_eq_true rfl, Nat.le_of_ble_eq_true rfl⟩ rfl rfl (Nat.le_of_ble_eq_true rfl) ⟨Nat.zero_le _, Nat.zero_le _⟩ dX6_sort_1 (fun z1 H locs hW => ?_)
  refine lv_if_eq (tgt := 27) hx hb dX6_sort_4 (by decide) (fun c2 => ?_) (fun c2 => ?_)
  · replace h := gi_t h c2
    refine lv_iconst (v := (0 : Int32)) hx hb dX6_sort_27 (by decide) ?_
    obtain ⟨a1, a2⟩ := so2 h
    replace hW := gWd_nI a2 hW
    exact g_nmi a1 (hfin _ _ _ _ (a1 ▸ (Or.inl rfl)) hW dX6_sort_28)
  · replace h := gi_f h c2
    refine lv_iload_n hx hb dX6_sort_7 rfl (lv_at hl 2 rfl) ?_
    refine lv_iconst (v := (0 : Int32)) hx hb dX6_sort_8 (by decide) ?_
    refine lv_bipush (v := (9 : Int32)) hx hb dX6_sort_9 (by decide) ?_
    refine g_callSi (rest := []) K hW hl (kX6_within (l := l) (G := G) (ad := ad) hok x2 (0 : Int32) (9 : Int32) I J (fX6_within x2 (0 : Int32) (9 : Int32)) rfl) q_440 q_441 q_133 q_442 nm_X6_within ⟨Nat.le_of_ble_eq_true rfl, Nat.le_of_ble_eq_true rfl⟩ rfl rfl (Nat.le_of_ble_eq_true rfl) ⟨Nat.zero_le _, Nat.zero_le _⟩ dX6_sort_11 (fun z3 H locs hW => ?_)
    refine lv_if_eq (tgt := 27) hx hb dX6_sort_14 (by decide) (fun c4 => ?_) (fun c4 => ?_)
    · replace h := gi_t h c4
      refine lv_iconst (v := (0 : Int32)) hx hb dX6_sort_27 (by decide) ?_
      obtain ⟨a1, a2⟩ := so2 h
      replace hW := gWd_nI a2 hW
      exact g_nmi a1 (hfin _ _ _ _ (a1 ▸ (Or.inl rfl)) hW dX6_sort_28)
    · replace h := gi_f h c4
      refine lv_iload_n hx hb dX6_sort_17 rfl (lv_at hl 3 rfl) ?_
      refine lv_iconst (v := (0 : Int32)) hx hb dX6_sort_18 (by decide) ?_
      refine lv_bipush (v := (99 : Int32)) hx hb dX6_sort_19 (by decide) ?_
      refine g_callSi (rest := []) K hW hl (kX6_within (l := l) (G := G) (ad := ad) hok x3 (0 : Int32) (99 : Int32) I J (fX6_within x3 (0 : Int32) (99 : Int32)) rfl) q_440 q_441 q_133 q_442 nm_X6_within ⟨Nat.le_of_ble_eq_true rfl, Nat.le_of_ble_eq_true rfl⟩ rfl rfl (Nat.le_of_ble_eq_true rfl) ⟨Nat.zero_le _, Nat.zero_le _⟩ dX6_sort_21 (fun z5 H locs hW => ?_)
      refine lv_if_ne (tgt := 29) hx hb dX6_sort_24 (by decide) (fun c6 => ?_) (fun c6 => ?_)
      · replace h := gi_f h c6
        refine lv_aload_n hx hb dX6_sort_29 rfl (lv_at hl 0 rfl) ?_
        refine g_get K hW (t := 2) (ci := 5) (k := 0) (v := .ref (ad 1)) kLC_0 rfl rfl i_X6 (by decide) q_393 rfl (gfv2 rLC_0_0) dX6_sort_30 ?_
        refine g_get K hW (t := 2) (ci := 0) (k := 0) (v := .ref (ad 2)) kLC_1 rfl rfl i_X0 (by decide) q_212 rfl (gfv2 rLC_1_0) dX6_sort_33 ?_
        refine lv_iload_n hx hb dX6_sort_36 rfl (lv_at hl 1 rfl) ?_
        refine lv_iload_n hx hb dX6_sort_37 rfl (lv_at hl 2 rfl) ?_
        obtain ⟨g7, h⟩ := gd_o h hn
        refine g_iast K hW kLC_2 g7 rfl dX6_sort_38 (fun H locs hW => ?_)
        obtain ⟨I9, e8, h⟩ := lz_o h
        replace hW := gWd_nI e8 hW
        refine lv_aload_n hx hb dX6_sort_39 rfl (lv_at hl 0 rfl) ?_
        refine g_get K hW (t := 2) (ci := 5) (k := 0) (v := .ref (ad 1)) kLC_0 rfl rfl i_X6 (by decide) q_393 rfl (gfv2 rLC_0_0) dX6_sort_40 ?_
        refine g_get K hW (t := 2) (ci := 0) (k := 1) (v := .ref (ad 3)) kLC_1 rfl rfl i_X0 (by decide) q_214 rfl (gfv2 rLC_1_1) dX6_sort_43 ?_
        refine lv_iload_n hx hb dX6_sort_46 rfl (lv_at hl 1 rfl) ?_
        refine lv_iload_n hx hb dX6_sort_47 rfl (lv_at hl 3 rfl) ?_
        refine g_iast K hW kLC_3 g7 rfl dX6_sort_48 (fun H locs hW => ?_)
        obtain ⟨I11, e10, h⟩ := lz_o h
        replace hW := gWd_nI e10 hW
        refine lv_iconst (v := (1 : Int32)) hx hb dX6_sort_49 (by decide) ?_
        obtain ⟨a1, a2⟩ := so2 h
        replace hW := gWd_nI a2 hW
        exact g_nmi a1 (hfin _ _ _ _ (a1 ▸ (Or.inr rfl)) hW dX6_sort_50)
      · replace h := gi_t h c6
        refine lv_iconst (v := (0 : Int32)) hx hb dX6_sort_27 (by decide) ?_
        obtain ⟨a1, a2⟩ := so2 h
        replace hW := gWd_nI a2 hW
        exact g_nmi a1 (hfin _ _ _ _ (a1 ▸ (Or.inl rfl)) hW dX6_sort_28)
noncomputable def fX6_isRun  (x0 : Int32) (x1 : Int32)  : Int32 :=
  gi (x0 < 0)
 ((0 : Int32))
 (gi (x1 < x0)
 ((0 : Int32))
 (gi ((12 : Int32) ≤ x1)
 ((0 : Int32))
 ((1 : Int32))))
set_option maxHeartbeats 4000000 in
set_option maxRecDepth 100000 in
theorem kX6_isRun {l : Launch} {G : gG} {ad : Nat → Nat} (hok : gInj LC ad)    (x0 : Int32) (x1 : Int32) (I : gI) (J : gJ) (r : Int32) (h : fX6_isRun x0 x1 = r) : gMi l yX6_isRun cX6_isRun 2 (some .boolean) 1 G LC ad [.int x0, .int x1] I J r (r = 0 ∨ r = 1) I J := by
  refine gMz_of (lst := [(0, .int x0), (1, .int x1)]) (by decide) hok (Nat.le_of_ble_eq_true rfl) rfl ?_
  intro p e s m args below meth c Q ls K hW hl hfin
  have hx := K.1; have hb := K.2.1; have hown := K.2.2.2.1; have hts := K.2.2.2.2.1
  unfold fX6_isRun at h
  refine lv_iload_n hx hb dX6_isRun_0 rfl (lv_at hl 0 rfl) ?_
  refine lv_if_lt (tgt := 19) hx hb dX6_isRun_1 (by decide) (fun c1 => ?_) (fun c1 => ?_)
  · replace h := gi_t h c1
    refine lv_iconst (v := (0 : Int32)) hx hb dX6_isRun_19 (by decide) ?_
    obtain a1 := h.symm
    exact g_nmi a1 (hfin _ _ _ _ (a1 ▸ (Or.inl rfl)) hW dX6_isRun_20)
  · replace h := gi_f h c1
    refine lv_iload_n hx hb dX6_isRun_4 rfl (lv_at hl 0 rfl) ?_
    refine lv_iload_n hx hb dX6_isRun_5 rfl (lv_at hl 1 rfl) ?_
    refine lv_icmp_gt (tgt := 19) hx hb dX6_isRun_6 (by decide) (fun c2 => ?_) (fun c2 => ?_)
    · replace h := gi_t h c2
      refine lv_iconst (v := (0 : Int32)) hx hb dX6_isRun_19 (by decide) ?_
      obtain a1 := h.symm
      exact g_nmi a1 (hfin _ _ _ _ (a1 ▸ (Or.inl rfl)) hW dX6_isRun_20)
    · replace h := gi_f h c2
      refine lv_iload_n hx hb dX6_isRun_9 rfl (lv_at hl 1 rfl) ?_
      refine lv_bipush (v := (12 : Int32)) hx hb dX6_isRun_10 (by decide) ?_
      refine lv_icmp_ge (tgt := 19) hx hb dX6_isRun_12 (by decide) (fun c3 => ?_) (fun c3 => ?_)
      · replace h := gi_t h c3
        refine lv_iconst (v := (0 : Int32)) hx hb dX6_isRun_19 (by decide) ?_
        obtain a1 := h.symm
        exact g_nmi a1 (hfin _ _ _ _ (a1 ▸ (Or.inl rfl)) hW dX6_isRun_20)
      · replace h := gi_f h c3
        refine lv_iconst (v := (1 : Int32)) hx hb dX6_isRun_15 (by decide) ?_
        refine lv_goto (tgt := 20) hx hb dX6_isRun_16 (by decide) ?_
        obtain a1 := h.symm
        exact g_nmi a1 (hfin _ _ _ _ (a1 ▸ (Or.inr rfl)) hW dX6_isRun_20)
