-- 12.m05: the reference: summedUp says name bidsOf bidsNow earnsOf write anew drawnBy canSell sellNow
theorem kLM_8 : gAt LM 8 3 330 := ⟨by decide, by decide +kernel⟩
theorem rLM_0_22 : LM.2.2 0 22 = some 8 := by decide +kernel
theorem nm_X7_joined : gNm yX7_joined 3 := by decide +kernel
theorem kLM_7 : gAt LM 7 2 330 := ⟨by decide, by decide +kernel⟩
theorem rLM_0_21 : LM.2.2 0 21 = some 7 := by decide +kernel
theorem nm_X7_isAsked : gNm yX7_isAsked 3 := by decide +kernel
theorem nm_X7_two : gNm yX7_two 3 := by decide +kernel
theorem nm_X7_ofOne : gNm yX7_ofOne 2 := by decide +kernel
theorem kLM_6 : gAt LM 6 1 8 := ⟨by decide, by decide +kernel⟩
theorem rLM_0_20 : LM.2.2 0 20 = some 6 := by decide +kernel
theorem in_0_330 : vp_in (0 : Int32) 330 := in_c (by decide +kernel) (by decide +kernel)
noncomputable def fX7_summedUp_38b  (rec : Int32 → Int32 → Int32 → Int32 → Int32 → gI → gJ → Option ((gI × gJ))) (u8 : Int32) (u9 : Int32) (u10 : Int32) (u11 : Int32) (u12 : Int32) (I : gI) (J : gJ) : Option ((gI × gJ)) :=
  gd (vp_in (u8 + (2 : Int32)) 2724) (gi ((I 3 ((u8 + (2 : Int32))).toNatClampNeg) ≤ u12)
 (some (I, J))
 (gd (vp_in (u9 + ((2 : Int32) * u12)) 2724) (lz ((I 3 ((u9 + ((2 : Int32) * u12))).toNatClampNeg)) (fun (u18 : Int32) => gd (vp_in ((u9 + ((2 : Int32) * u12)) + (1 : Int32)) 2724) (lz ((I 3 (((u9 + ((2 : Int32) * u12)) + (1 : Int32))).toNatClampNeg)) (fun (u21 : Int32) => lz (fun (u23 : Int32) => fun (u24 : Int32) => fun (I25 : gI) => fun (J26 : gJ) => lz ((u12 + (1 : Int32))) (fun (u30 : Int32) => rec u8 u9 u23 u24 u30 I25 J26)) (fun j27 => gi ((1 : Int32) < u18)
 (gi (u18 = (3 : Int32))
 (lz ((u10 + (-1 : Int32))) (fun (u82 : Int32) => lz ((u11 + (-1 : Int32))) (fun (u84 : Int32) => gd (vp_in u84 330) (gi ((I 8 (u84).toNatClampNeg) = 0)
 (gd (vp_in u82 330) (gd (vp_in (u82 - (1 : Int32)) 330) (lz (wJ J 7 ((u82 - (1 : Int32))).toNatClampNeg (J 7 (u82).toNatClampNeg)) (fun (J91 : gJ) => j27 u82 u84 I J91))))
 (j27 u82 u84 I J)))))
 (gi ((5 : Int32) < u18)
 (gi ((10 : Int32) ≤ u18)
 (gi ((20 : Int32) ≤ u18)
 (gi (u18 = (20 : Int32))
 (gd (vp_in (u11 - (1 : Int32)) 330) (lz (fun (u48 : Int32) => lz (wI I 8 ((u11 - (1 : Int32))).toNatClampNeg (nbool u48)) (fun (I53 : gI) => j27 u10 u11 I53 J)) (fun j49 => gi ((I 8 ((u11 - (1 : Int32))).toNatClampNeg) = 0)
 (j49 (1 : Int32))
 (j49 (0 : Int32)))))
 (lz ((u11 + (-1 : Int32))) (fun (u38 : Int32) => gd (vp_in (u38 - (1 : Int32)) 330) (gd (vp_in u38 330) (lz ((fX7_joined u18 (I 8 ((u38 - (1 : Int32))).toNatClampNeg) (I 8 (u38).toNatClampNeg))) (fun (u43 : Int32) => lz (wI I 8 ((u38 - (1 : Int32))).toNatClampNeg (nbool u43)) (fun (I46 : gI) => j27 u10 u38 I46 J)))))))
 (lz ((u10 + (-2 : Int32))) (fun (u55 : Int32) => gd (vp_in u55 330) (gd (vp_in (u55 + (1 : Int32)) 330) (lz ((fX7_isAsked u18 (J 7 (u55).toNatClampNeg) (J 7 ((u55 + (1 : Int32))).toNatClampNeg))) (fun (u60 : Int32) => gd (vp_in u11 330) (lz (wI I 8 (u11).toNatClampNeg (nbool u60)) (fun (I64 : gI) => lz ((u11 + (1 : Int32))) (fun (u65 : Int32) => j27 u55 u65 I64 J)))))))))
 (lz ((u10 + (-1 : Int32))) (fun (u67 : Int32) => gd (vp_in (u67 - (1 : Int32)) 330) (gd (vp_in u67 330) (bd (fX7_two u18 (J 7 ((u67 - (1 : Int32))).toNatClampNeg) (J 7 (u67).toNatClampNeg)) (fun (u71 : Int64) => lz (wJ J 7 ((u67 - (1 : Int32))).toNatClampNeg u71) (fun (J75 : gJ) => j27 u67 u11 I J75)))))))
 (gd (vp_in (u10 - (1 : Int32)) 330) (bd (fX7_ofOne u18 (J 7 ((u10 - (1 : Int32))).toNatClampNeg) I) (fun (u77 : Int64) => lz (wJ J 7 ((u10 - (1 : Int32))).toNatClampNeg u77) (fun (J81 : gJ) => j27 u10 u11 I J81))))))
 (lz (fun (u92 : Int64) => gd (vp_in u10 330) (lz (wJ J 7 (u10).toNatClampNeg u92) (fun (J98 : gJ) => lz ((u10 + (1 : Int32))) (fun (u99 : Int32) => j27 u99 u11 I J98)))) (fun j93 => gi (u18 = 0)
 (j93 (u21).toInt64)
 (gd (vp_in u21 8) (j93 ((I 6 (u21).toNatClampNeg)).toInt64)))))))))))
noncomputable def fX7_summedUp_38  : Nat → Int32 → Int32 → Int32 → Int32 → Int32 → gI → gJ → Option ((gI × gJ))
  | 0 => fun _ _ _ _ _ _ _ => none
  | n + 1 => fX7_summedUp_38b  (fX7_summedUp_38  n)
set_option maxHeartbeats 4000000 in
set_option maxRecDepth 100000 in
theorem tX7_summedUp_38 {l : Launch} {G : gG} {ad : Nat → Nat} {p : Program} {e : Env} {s : State} {m : MethodId} {args : Array Value} {below : List Frame} {meth : Method} {c : Code} {Q : State → Prop} (hok : gInj LM ad) (K : gCx G (gA LM ad) p s m args c cX7_summedUp 10 RX7)  : ∀ (n : Nat) (u8 : Int32) (u9 : Int32) (u10 : Int32) (u11 : Int32) (u12 : Int32) (I : gI) (J : gJ) (out : Option ((gI × gJ))), fX7_summedUp_38  n u8 u9 u10 u11 u12 I J = out → out ≠ none → ∀ (H : Heap) (locs : List Loc), gWd G LM ad (gA LM ad) s.heap I J H locs → ∀ (ls : Array Slot), lv_has ls 10 [(0, .ref (ad 0)), (3, .int u8), (4, .int u9), (5, .int u10), (6, .int u11), (7, .int u12)] → (∀ (I13 : gI) (J14 : gJ), some (I13, J14) = out → ∀ (H : Heap) (locs : List Loc), gWd G LM ad (gA LM ad) s.heap I13 J14 H locs → ∀ (ls : Array Slot), lv_has ls 10 [(0, .ref (ad 0))] → W p l e (gRm 3) s m args below meth c H locs 0 0 Q (F0 m 355 ls [])) → W p l e (gRm 3) s m args below meth c H locs 0 0 Q (F0 m 38 ls []) := by
  have hx := K.1; have hb := K.2.1; have hown := K.2.2.2.1; have hts := K.2.2.2.2.1
  intro n
  induction n with
  | zero => intro u8 u9 u10 u11 u12 I J out h hn; exact absurd h.symm hn
  | succ n ih =>
    intro u8 u9 u10 u11 u12 I J out h hn H locs hW ls hl hx1
    replace h : fX7_summedUp_38b  (fX7_summedUp_38  n) u8 u9 u10 u11 u12 I J = out := h
    unfold fX7_summedUp_38b at h
    refine lv_iload hx hb dX7_summedUp_38 (lv_at hl 5 rfl) ?_
    refine lv_aload_n hx hb dX7_summedUp_40 rfl (lv_at hl 0 rfl) ?_
    refine g_get K hW (t := 2) (ci := 6) (k := 2) (v := .ref (ad 3)) kLM_0 rfl rfl i_X7 (by decide) q_1079 rfl (gfv2 rLM_0_2) dX7_summedUp_41 ?_
    refine lv_iload_n hx hb dX7_summedUp_44 rfl (lv_at hl 1 rfl) ?_
    refine lv_iconst (v := (2 : Int32)) hx hb dX7_summedUp_45 (by decide) ?_
    refine lv_iadd hx hb dX7_summedUp_46 ?_
    obtain ⟨g15, h⟩ := gd_o h hn
    refine g_iald K hW kLM_3 g15 rfl dX7_summedUp_47 ?_
    refine lv_icmp_ge (tgt := 355) hx hb dX7_summedUp_48 (by decide) (fun c16 => ?_) (fun c16 => ?_)
    · replace h := gi_t h c16
      exact hx1 I J h _ _ hW _ (lv_sub hl [0] rfl)
    · replace h := gi_f h c16
      refine lv_aload_n hx hb dX7_summedUp_51 rfl (lv_at hl 0 rfl) ?_
      refine g_get K hW (t := 2) (ci := 6) (k := 2) (v := .ref (ad 3)) kLM_0 rfl rfl i_X7 (by decide) q_1079 rfl (gfv2 rLM_0_2) dX7_summedUp_52 ?_
      refine lv_iload hx hb dX7_summedUp_55 (lv_at hl 2 rfl) ?_
      refine lv_iconst (v := (2 : Int32)) hx hb dX7_summedUp_57 (by decide) ?_
      refine lv_iload hx hb dX7_summedUp_58 (lv_at hl 5 rfl) ?_
      refine lv_imul hx hb dX7_summedUp_60 ?_
      refine lv_iadd hx hb dX7_summedUp_61 ?_
      obtain ⟨g17, h⟩ := gd_o h hn
      refine g_iald K hW kLM_3 g17 rfl dX7_summedUp_62 ?_
      obtain ⟨u18, e19, h⟩ := lz_o h
      refine g_nmi e19 ?_
      refine lv_istore (lv' := [(8, .int u18), (0, .ref (ad 0)), (3, .int u8), (4, .int u9), (5, .int u10), (6, .int u11), (7, .int u12)]) hx hb dX7_summedUp_63 hl (by decide) rfl (fun ls hl => ?_)
      refine lv_aload_n hx hb dX7_summedUp_65 rfl (lv_at hl 1 rfl) ?_
      refine g_get K hW (t := 2) (ci := 6) (k := 2) (v := .ref (ad 3)) kLM_0 rfl rfl i_X7 (by decide) q_1079 rfl (gfv2 rLM_0_2) dX7_summedUp_66 ?_
      refine lv_iload hx hb dX7_summedUp_69 (lv_at hl 3 rfl) ?_
      refine lv_iconst (v := (2 : Int32)) hx hb dX7_summedUp_71 (by decide) ?_
      refine lv_iload hx hb dX7_summedUp_72 (lv_at hl 6 rfl) ?_
      refine lv_imul hx hb dX7_summedUp_74 ?_
      refine lv_iadd hx hb dX7_summedUp_75 ?_
      refine lv_iconst (v := (1 : Int32)) hx hb dX7_summedUp_76 (by decide) ?_
      refine lv_iadd hx hb dX7_summedUp_77 ?_
      obtain ⟨g20, h⟩ := gd_o h hn
      refine g_iald K hW kLM_3 g20 rfl dX7_summedUp_78 ?_
      obtain ⟨u21, e22, h⟩ := lz_o h
      refine g_nmi e22 ?_
      refine lv_istore (lv' := [(9, .int u21), (8, .int u18), (0, .ref (ad 0)), (3, .int u8), (4, .int u9), (5, .int u10), (6, .int u11), (7, .int u12)]) hx hb dX7_summedUp_79 hl (by decide) rfl (fun ls hl => ?_)
      refine lv_iload hx hb dX7_summedUp_81 (lv_at hl 1 rfl) ?_
      refine lv_iconst (v := (1 : Int32)) hx hb dX7_summedUp_83 (by decide) ?_
      obtain ⟨j27, e28, h⟩ := lz_o h
      have hj29 : ∀ (u23 : Int32) (u24 : Int32) (I25 : gI) (J26 : gJ), j27 u23 u24 I25 J26 = out → ∀ (H : Heap) (locs : List Loc), gWd G LM ad (gA LM ad) s.heap I25 J26 H locs → ∀ (ls : Array Slot), lv_has ls 10 [(0, .ref (ad 0)), (3, .int u8), (4, .int u9), (5, .int u23), (6, .int u24), (7, .int u12)] → W p l e (gRm 3) s m args below meth c H locs 0 0 Q (F0 m 349 ls []) := by
        intro u23 u24 I25 J26 h H locs hW ls hl
        replace h := jn4 e28 h
        obtain ⟨u30, e31, h⟩ := lz_o h
        refine lv_iinc (v := u30) (lv' := [(7, .int u30), (0, .ref (ad 0)), (3, .int u8), (4, .int u9), (5, .int u23), (6, .int u24)]) hx hb dX7_summedUp_349 hl (k := 5) rfl (by rw [e31]; rfl) (by decide) rfl (fun ls hl => ?_)
        refine lv_goto (tgt := 38) hx hb dX7_summedUp_352 (by decide) ?_
        exact ih u8 u9 u23 u24 u30 I25 J26 _ h hn _ _ hW _ (lv_sub hl [1, 2, 3, 4, 5, 0] rfl) hx1
      refine lv_icmp_gt (tgt := 119) hx hb dX7_summedUp_84 (by decide) (fun c32 => ?_) (fun c32 => ?_)
      · replace h := gi_t h c32
        refine lv_iload hx hb dX7_summedUp_119 (lv_at hl 1 rfl) ?_
        refine lv_iconst (v := (3 : Int32)) hx hb dX7_summedUp_121 (by decide) ?_
        refine lv_icmp_ne (tgt := 160) hx hb dX7_summedUp_122 (by decide) (fun c33 => ?_) (fun c33 => ?_)
        · replace h := gi_f h c33
          refine lv_iload hx hb dX7_summedUp_160 (lv_at hl 1 rfl) ?_
          refine lv_iconst (v := (5 : Int32)) hx hb dX7_summedUp_162 (by decide) ?_
          refine lv_icmp_gt (tgt := 193) hx hb dX7_summedUp_163 (by decide) (fun c34 => ?_) (fun c34 => ?_)
          · replace h := gi_t h c34
            refine lv_iload hx hb dX7_summedUp_193 (lv_at hl 1 rfl) ?_
            refine lv_bipush (v := (10 : Int32)) hx hb dX7_summedUp_195 (by decide) ?_
            refine lv_icmp_ge (tgt := 236) hx hb dX7_summedUp_197 (by decide) (fun c35 => ?_) (fun c35 => ?_)
            · replace h := gi_t h c35
              refine lv_iload hx hb dX7_summedUp_236 (lv_at hl 1 rfl) ?_
              refine lv_bipush (v := (20 : Int32)) hx hb dX7_summedUp_238 (by decide) ?_
              refine lv_icmp_ge (tgt := 280) hx hb dX7_summedUp_240 (by decide) (fun c36 => ?_) (fun c36 => ?_)
              · replace h := gi_t h c36
                refine lv_iload hx hb dX7_summedUp_280 (lv_at hl 1 rfl) ?_
                refine lv_bipush (v := (20 : Int32)) hx hb dX7_summedUp_282 (by decide) ?_
                refine lv_icmp_ne (tgt := 316) hx hb dX7_summedUp_284 (by decide) (fun c37 => ?_) (fun c37 => ?_)
                · replace h := gi_f h c37
                  obtain ⟨u38, e39, h⟩ := lz_o h
                  refine lv_iinc (v := u38) (lv' := [(6, .int u38), (9, .int u21), (8, .int u18), (0, .ref (ad 0)), (3, .int u8), (4, .int u9), (5, .int u10), (7, .int u12)]) hx hb dX7_summedUp_316 hl (k := 6) rfl (by rw [e39]; rfl) (by decide) rfl (fun ls hl => ?_)
                  refine lv_aload_n hx hb dX7_summedUp_319 rfl (lv_at hl 3 rfl) ?_
                  refine g_get K hW (t := 2) (ci := 6) (k := 22) (v := .ref (ad 8)) kLM_0 rfl rfl i_X7 (by decide) q_1099 rfl (gfv2 rLM_0_22) dX7_summedUp_320 ?_
                  refine lv_iload hx hb dX7_summedUp_323 (lv_at hl 0 rfl) ?_
                  refine lv_iconst (v := (1 : Int32)) hx hb dX7_summedUp_325 (by decide) ?_
                  refine lv_isub hx hb dX7_summedUp_326 ?_
                  refine lv_iload hx hb dX7_summedUp_327 (lv_at hl 2 rfl) ?_
                  refine lv_aload_n hx hb dX7_summedUp_329 rfl (lv_at hl 3 rfl) ?_
                  refine g_get K hW (t := 2) (ci := 6) (k := 22) (v := .ref (ad 8)) kLM_0 rfl rfl i_X7 (by decide) q_1099 rfl (gfv2 rLM_0_22) dX7_summedUp_330 ?_
                  refine lv_iload hx hb dX7_summedUp_333 (lv_at hl 0 rfl) ?_
                  refine lv_iconst (v := (1 : Int32)) hx hb dX7_summedUp_335 (by decide) ?_
                  refine lv_isub hx hb dX7_summedUp_336 ?_
                  obtain ⟨g40, h⟩ := gd_o h hn
                  refine g_zald K hW kLM_8 g40 rfl dX7_summedUp_337 ?_
                  refine lv_aload_n hx hb dX7_summedUp_338 rfl (lv_at hl 3 rfl) ?_
                  refine g_get K hW (t := 2) (ci := 6) (k := 22) (v := .ref (ad 8)) kLM_0 rfl rfl i_X7 (by decide) q_1099 rfl (gfv2 rLM_0_22) dX7_summedUp_339 ?_
                  refine lv_iload hx hb dX7_summedUp_342 (lv_at hl 0 rfl) ?_
                  obtain ⟨g41, h⟩ := gd_o h hn
                  refine g_zald K hW kLM_8 g41 rfl dX7_summedUp_344 ?_
                  refine g_callSi (rest := [.int (u38 - (1 : Int32)), .ref (ad 8)]) K hW hl (kX7_joined (l := l) (G := G) (ad := ad) hok u18 (I 8 ((u38 - (1 : Int32))).toNatClampNeg) (I 8 (u38).toNatClampNeg) I J (fX7_joined u18 (I 8 ((u38 - (1 : Int32))).toNatClampNeg) (I 8 (u38).toNatClampNeg)) rfl) q_1417 q_1418 q_139 q_1419 nm_X7_joined ⟨Nat.le_of_ble_eq_true rfl, Nat.le_of_ble_eq_true rfl⟩ rfl rfl (Nat.le_of_ble_eq_true rfl) ⟨Nat.zero_le _, Nat.zero_le _⟩ dX7_summedUp_345 (fun z42 H locs hW => ?_)
                  obtain ⟨u43, e44, h⟩ := lz_o h
                  refine g_nmi e44 ?_
                  refine g_zast K hW kLM_8 g40 rfl dX7_summedUp_348 (fun H locs hW => ?_)
                  obtain ⟨I46, e45, h⟩ := lz_o h
                  replace hW := gWd_nI e45 hW
                  exact hj29 u10 u38 I46 J h _ _ hW _ (lv_sub hl [3, 4, 5, 6, 0, 7] rfl)
                · replace h := gi_t h c37
                  refine lv_aload_n hx hb dX7_summedUp_287 rfl (lv_at hl 2 rfl) ?_
                  refine g_get K hW (t := 2) (ci := 6) (k := 22) (v := .ref (ad 8)) kLM_0 rfl rfl i_X7 (by decide) q_1099 rfl (gfv2 rLM_0_22) dX7_summedUp_288 ?_
                  refine lv_iload hx hb dX7_summedUp_291 (lv_at hl 6 rfl) ?_
                  refine lv_iconst (v := (1 : Int32)) hx hb dX7_summedUp_293 (by decide) ?_
                  refine lv_isub hx hb dX7_summedUp_294 ?_
                  refine lv_aload_n hx hb dX7_summedUp_295 rfl (lv_at hl 2 rfl) ?_
                  refine g_get K hW (t := 2) (ci := 6) (k := 22) (v := .ref (ad 8)) kLM_0 rfl rfl i_X7 (by decide) q_1099 rfl (gfv2 rLM_0_22) dX7_summedUp_296 ?_
                  refine lv_iload hx hb dX7_summedUp_299 (lv_at hl 6 rfl) ?_
                  refine lv_iconst (v := (1 : Int32)) hx hb dX7_summedUp_301 (by decide) ?_
                  refine lv_isub hx hb dX7_summedUp_302 ?_
                  obtain ⟨g47, h⟩ := gd_o h hn
                  refine g_zald K hW kLM_8 g47 rfl dX7_summedUp_303 ?_
                  obtain ⟨j49, e50, h⟩ := lz_o h
                  have hj51 : ∀ (u48 : Int32), j49 u48 = out → ∀ (H : Heap) (locs : List Loc), gWd G LM ad (gA LM ad) s.heap I J H locs → ∀ (ls : Array Slot), lv_has ls 10 [(0, .ref (ad 0)), (3, .int u8), (4, .int u9), (5, .int u10), (6, .int u11), (7, .int u12)] → W p l e (gRm 3) s m args below meth c H locs 0 0 Q (F0 m 312 ls [.int u48, .int (u11 - (1 : Int32)), .ref (ad 8)]) := by
                    intro u48 h H locs hW ls hl
                    replace h := jn1 e50 h
                    refine g_zast K hW kLM_8 g47 rfl dX7_summedUp_312 (fun H locs hW => ?_)
                    obtain ⟨I53, e52, h⟩ := lz_o h
                    replace hW := gWd_nI e52 hW
                    refine lv_goto (tgt := 349) hx hb dX7_summedUp_313 (by decide) ?_
                    exact hj29 u10 u11 I53 J h _ _ hW _ (lv_sub hl [0, 1, 2, 3, 4, 5] rfl)
                  refine lv_if_ne (tgt := 311) hx hb dX7_summedUp_304 (by decide) (fun c54 => ?_) (fun c54 => ?_)
                  · replace h := gi_f h c54
                    refine lv_iconst (v := (0 : Int32)) hx hb dX7_summedUp_311 (by decide) ?_
                    exact hj51 (0 : Int32) h _ _ hW _ (lv_sub hl [2, 3, 4, 5, 6, 7] rfl)
                  · replace h := gi_t h c54
                    refine lv_iconst (v := (1 : Int32)) hx hb dX7_summedUp_307 (by decide) ?_
                    refine lv_goto (tgt := 312) hx hb dX7_summedUp_308 (by decide) ?_
                    exact hj51 (1 : Int32) h _ _ hW _ (lv_sub hl [2, 3, 4, 5, 6, 7] rfl)
              · replace h := gi_f h c36
                obtain ⟨u55, e56, h⟩ := lz_o h
                refine lv_iinc (v := u55) (lv' := [(5, .int u55), (9, .int u21), (8, .int u18), (0, .ref (ad 0)), (3, .int u8), (4, .int u9), (6, .int u11), (7, .int u12)]) hx hb dX7_summedUp_243 hl (k := 5) rfl (by rw [e56]; rfl) (by decide) rfl (fun ls hl => ?_)
                refine lv_aload_n hx hb dX7_summedUp_246 rfl (lv_at hl 3 rfl) ?_
                refine g_get K hW (t := 2) (ci := 6) (k := 22) (v := .ref (ad 8)) kLM_0 rfl rfl i_X7 (by decide) q_1099 rfl (gfv2 rLM_0_22) dX7_summedUp_247 ?_
                refine lv_iload hx hb dX7_summedUp_250 (lv_at hl 6 rfl) ?_
                refine lv_iload hx hb dX7_summedUp_252 (lv_at hl 2 rfl) ?_
                refine lv_aload_n hx hb dX7_summedUp_254 rfl (lv_at hl 3 rfl) ?_
                refine g_get K hW (t := 2) (ci := 6) (k := 21) (v := .ref (ad 7)) kLM_0 rfl rfl i_X7 (by decide) q_1098 rfl (gfv2 rLM_0_21) dX7_summedUp_255 ?_
                refine lv_iload hx hb dX7_summedUp_258 (lv_at hl 0 rfl) ?_
                obtain ⟨g57, h⟩ := gd_o h hn
                refine g_lald K hW kLM_7 g57 rfl dX7_summedUp_260 ?_
                refine lv_aload_n hx hb dX7_summedUp_261 rfl (lv_at hl 3 rfl) ?_
                refine g_get K hW (t := 2) (ci := 6) (k := 21) (v := .ref (ad 7)) kLM_0 rfl rfl i_X7 (by decide) q_1098 rfl (gfv2 rLM_0_21) dX7_summedUp_262 ?_
                refine lv_iload hx hb dX7_summedUp_265 (lv_at hl 0 rfl) ?_
                refine lv_iconst (v := (1 : Int32)) hx hb dX7_summedUp_267 (by decide) ?_
                refine lv_iadd hx hb dX7_summedUp_268 ?_
                obtain ⟨g58, h⟩ := gd_o h hn
                refine g_lald K hW kLM_7 g58 rfl dX7_summedUp_269 ?_
                refine g_callSi (rest := [.int u11, .ref (ad 8)]) K hW hl (kX7_isAsked (l := l) (G := G) (ad := ad) hok u18 (J 7 (u55).toNatClampNeg) (J 7 ((u55 + (1 : Int32))).toNatClampNeg) I J (fX7_isAsked u18 (J 7 (u55).toNatClampNeg) (J 7 ((u55 + (1 : Int32))).toNatClampNeg)) rfl) q_1414 q_1415 q_139 q_1416 nm_X7_isAsked ⟨Nat.le_of_ble_eq_true rfl, Nat.le_of_ble_eq_true rfl⟩ rfl rfl (Nat.le_of_ble_eq_true rfl) ⟨Nat.zero_le _, Nat.zero_le _⟩ dX7_summedUp_270 (fun z59 H locs hW => ?_)
                obtain ⟨u60, e61, h⟩ := lz_o h
                refine g_nmi e61 ?_
                obtain ⟨g62, h⟩ := gd_o h hn
                refine g_zast K hW kLM_8 g62 rfl dX7_summedUp_273 (fun H locs hW => ?_)
                obtain ⟨I64, e63, h⟩ := lz_o h
                replace hW := gWd_nI e63 hW
                obtain ⟨u65, e66, h⟩ := lz_o h
                refine lv_iinc (v := u65) (lv' := [(6, .int u65), (5, .int u55), (9, .int u21), (8, .int u18), (0, .ref (ad 0)), (3, .int u8), (4, .int u9), (7, .int u12)]) hx hb dX7_summedUp_274 hl (k := 6) rfl (by rw [e66]; rfl) (by decide) rfl (fun ls hl => ?_)
                refine lv_goto (tgt := 349) hx hb dX7_summedUp_277 (by decide) ?_
                exact hj29 u55 u65 I64 J h _ _ hW _ (lv_sub hl [4, 5, 6, 1, 0, 7] rfl)
            · replace h := gi_f h c35
              obtain ⟨u67, e68, h⟩ := lz_o h
              refine lv_iinc (v := u67) (lv' := [(5, .int u67), (9, .int u21), (8, .int u18), (0, .ref (ad 0)), (3, .int u8), (4, .int u9), (6, .int u11), (7, .int u12)]) hx hb dX7_summedUp_200 hl (k := 5) rfl (by rw [e68]; rfl) (by decide) rfl (fun ls hl => ?_)
              refine lv_aload_n hx hb dX7_summedUp_203 rfl (lv_at hl 3 rfl) ?_
              refine g_get K hW (t := 2) (ci := 6) (k := 21) (v := .ref (ad 7)) kLM_0 rfl rfl i_X7 (by decide) q_1098 rfl (gfv2 rLM_0_21) dX7_summedUp_204 ?_
              refine lv_iload hx hb dX7_summedUp_207 (lv_at hl 0 rfl) ?_
              refine lv_iconst (v := (1 : Int32)) hx hb dX7_summedUp_209 (by decide) ?_
              refine lv_isub hx hb dX7_summedUp_210 ?_
              refine lv_iload hx hb dX7_summedUp_211 (lv_at hl 2 rfl) ?_
              refine lv_aload_n hx hb dX7_summedUp_213 rfl (lv_at hl 3 rfl) ?_
              refine g_get K hW (t := 2) (ci := 6) (k := 21) (v := .ref (ad 7)) kLM_0 rfl rfl i_X7 (by decide) q_1098 rfl (gfv2 rLM_0_21) dX7_summedUp_214 ?_
              refine lv_iload hx hb dX7_summedUp_217 (lv_at hl 0 rfl) ?_
              refine lv_iconst (v := (1 : Int32)) hx hb dX7_summedUp_219 (by decide) ?_
              refine lv_isub hx hb dX7_summedUp_220 ?_
              obtain ⟨g69, h⟩ := gd_o h hn
              refine g_lald K hW kLM_7 g69 rfl dX7_summedUp_221 ?_
              refine lv_aload_n hx hb dX7_summedUp_222 rfl (lv_at hl 3 rfl) ?_
              refine g_get K hW (t := 2) (ci := 6) (k := 21) (v := .ref (ad 7)) kLM_0 rfl rfl i_X7 (by decide) q_1098 rfl (gfv2 rLM_0_21) dX7_summedUp_223 ?_
              refine lv_iload hx hb dX7_summedUp_226 (lv_at hl 0 rfl) ?_
              obtain ⟨g70, h⟩ := gd_o h hn
              refine g_lald K hW kLM_7 g70 rfl dX7_summedUp_228 ?_
              obtain ⟨u71, e72, h⟩ := bd_o h hn
              refine g_callSl (rest := [.int (u67 - (1 : Int32)), .ref (ad 7)]) K hW hl (kX7_two (l := l) (G := G) (ad := ad) hok u18 (J 7 ((u67 - (1 : Int32))).toNatClampNeg) (J 7 (u67).toNatClampNeg) I J u71 e72) q_1406 q_1407 q_139 q_1408 nm_X7_two ⟨Nat.le_of_ble_eq_true rfl, Nat.le_of_ble_eq_true rfl⟩ rfl rfl (Nat.le_of_ble_eq_true rfl) ⟨Nat.zero_le _, Nat.zero_le _⟩ dX7_summedUp_229 (fun H locs hW => ?_)
              refine g_last K hW kLM_7 g69 rfl dX7_summedUp_232 (fun H locs hW => ?_)
              obtain ⟨J75, e74, h⟩ := lz_o h
              replace hW := gWd_nJ e74 hW
              refine lv_goto (tgt := 349) hx hb dX7_summedUp_233 (by decide) ?_
              exact hj29 u67 u11 I J75 h _ _ hW _ (lv_sub hl [3, 4, 5, 0, 6, 7] rfl)
          · replace h := gi_f h c34
            refine lv_aload_n hx hb dX7_summedUp_166 rfl (lv_at hl 2 rfl) ?_
            refine g_get K hW (t := 2) (ci := 6) (k := 21) (v := .ref (ad 7)) kLM_0 rfl rfl i_X7 (by decide) q_1098 rfl (gfv2 rLM_0_21) dX7_summedUp_167 ?_
            refine lv_iload hx hb dX7_summedUp_170 (lv_at hl 5 rfl) ?_
            refine lv_iconst (v := (1 : Int32)) hx hb dX7_summedUp_172 (by decide) ?_
            refine lv_isub hx hb dX7_summedUp_173 ?_
            refine lv_aload_n hx hb dX7_summedUp_174 rfl (lv_at hl 2 rfl) ?_
            refine lv_iload hx hb dX7_summedUp_175 (lv_at hl 1 rfl) ?_
            refine lv_aload_n hx hb dX7_summedUp_177 rfl (lv_at hl 2 rfl) ?_
            refine g_get K hW (t := 2) (ci := 6) (k := 21) (v := .ref (ad 7)) kLM_0 rfl rfl i_X7 (by decide) q_1098 rfl (gfv2 rLM_0_21) dX7_summedUp_178 ?_
            refine lv_iload hx hb dX7_summedUp_181 (lv_at hl 5 rfl) ?_
            refine lv_iconst (v := (1 : Int32)) hx hb dX7_summedUp_183 (by decide) ?_
            refine lv_isub hx hb dX7_summedUp_184 ?_
            obtain ⟨g76, h⟩ := gd_o h hn
            refine g_lald K hW kLM_7 g76 rfl dX7_summedUp_185 ?_
            obtain ⟨u77, e78, h⟩ := bd_o h hn
            refine g_callVl (rest := [.int (u10 - (1 : Int32)), .ref (ad 7)]) K hW hl (kX7_ofOne (l := l) (G := G) (ad := ad) hok u18 (J 7 ((u10 - (1 : Int32))).toNatClampNeg) I J u77 e78) kLM_0 rfl (gG_V q_1401 q_1403 q_92 q_139 q_1404) nm_X7_ofOne ⟨Nat.le_of_ble_eq_true rfl, Nat.le_of_ble_eq_true rfl⟩ rfl rfl (Nat.le_of_ble_eq_true rfl) ⟨Nat.zero_le _, Nat.zero_le _⟩ dX7_summedUp_186 (fun H locs hW => ?_)
            refine g_last K hW kLM_7 g76 rfl dX7_summedUp_189 (fun H locs hW => ?_)
            obtain ⟨J81, e80, h⟩ := lz_o h
            replace hW := gWd_nJ e80 hW
            refine lv_goto (tgt := 349) hx hb dX7_summedUp_190 (by decide) ?_
            exact hj29 u10 u11 I J81 h _ _ hW _ (lv_sub hl [2, 3, 4, 5, 6, 7] rfl)
        · replace h := gi_t h c33
          obtain ⟨u82, e83, h⟩ := lz_o h
          refine lv_iinc (v := u82) (lv' := [(5, .int u82), (9, .int u21), (8, .int u18), (0, .ref (ad 0)), (3, .int u8), (4, .int u9), (6, .int u11), (7, .int u12)]) hx hb dX7_summedUp_125 hl (k := 5) rfl (by rw [e83]; rfl) (by decide) rfl (fun ls hl => ?_)
          obtain ⟨u84, e85, h⟩ := lz_o h
          refine lv_iinc (v := u84) (lv' := [(6, .int u84), (5, .int u82), (9, .int u21), (8, .int u18), (0, .ref (ad 0)), (3, .int u8), (4, .int u9), (7, .int u12)]) hx hb dX7_summedUp_128 hl (k := 6) rfl (by rw [e85]; rfl) (by decide) rfl (fun ls hl => ?_)
          refine lv_aload_n hx hb dX7_summedUp_131 rfl (lv_at hl 4 rfl) ?_
          refine g_get K hW (t := 2) (ci := 6) (k := 22) (v := .ref (ad 8)) kLM_0 rfl rfl i_X7 (by decide) q_1099 rfl (gfv2 rLM_0_22) dX7_summedUp_132 ?_
          refine lv_iload hx hb dX7_summedUp_135 (lv_at hl 0 rfl) ?_
          obtain ⟨g86, h⟩ := gd_o h hn
          refine g_zald K hW kLM_8 g86 rfl dX7_summedUp_137 ?_
          refine lv_if_ne (tgt := 349) hx hb dX7_summedUp_138 (by decide) (fun c87 => ?_) (fun c87 => ?_)
          · replace h := gi_f h c87
            exact hj29 u82 u84 I J h _ _ hW _ (lv_sub hl [4, 5, 6, 1, 0, 7] rfl)
          · replace h := gi_t h c87
            refine lv_aload_n hx hb dX7_summedUp_141 rfl (lv_at hl 4 rfl) ?_
            refine g_get K hW (t := 2) (ci := 6) (k := 21) (v := .ref (ad 7)) kLM_0 rfl rfl i_X7 (by decide) q_1098 rfl (gfv2 rLM_0_21) dX7_summedUp_142 ?_
            refine lv_iload hx hb dX7_summedUp_145 (lv_at hl 1 rfl) ?_
            refine lv_iconst (v := (1 : Int32)) hx hb dX7_summedUp_147 (by decide) ?_
            refine lv_isub hx hb dX7_summedUp_148 ?_
            refine lv_aload_n hx hb dX7_summedUp_149 rfl (lv_at hl 4 rfl) ?_
            refine g_get K hW (t := 2) (ci := 6) (k := 21) (v := .ref (ad 7)) kLM_0 rfl rfl i_X7 (by decide) q_1098 rfl (gfv2 rLM_0_21) dX7_summedUp_150 ?_
            refine lv_iload hx hb dX7_summedUp_153 (lv_at hl 1 rfl) ?_
            obtain ⟨g88, h⟩ := gd_o h hn
            refine g_lald K hW kLM_7 g88 rfl dX7_summedUp_155 ?_
            obtain ⟨g89, h⟩ := gd_o h hn
            refine g_last K hW kLM_7 g89 rfl dX7_summedUp_156 (fun H locs hW => ?_)
            obtain ⟨J91, e90, h⟩ := lz_o h
            replace hW := gWd_nJ e90 hW
            refine lv_goto (tgt := 349) hx hb dX7_summedUp_157 (by decide) ?_
            exact hj29 u82 u84 I J91 h _ _ hW _ (lv_sub hl [4, 5, 6, 1, 0, 7] rfl)
      · replace h := gi_f h c32
        refine lv_aload_n hx hb dX7_summedUp_87 rfl (lv_at hl 2 rfl) ?_
        refine g_get K hW (t := 2) (ci := 6) (k := 21) (v := .ref (ad 7)) kLM_0 rfl rfl i_X7 (by decide) q_1098 rfl (gfv2 rLM_0_21) dX7_summedUp_88 ?_
        refine lv_iload hx hb dX7_summedUp_91 (lv_at hl 5 rfl) ?_
        refine lv_iload hx hb dX7_summedUp_93 (lv_at hl 1 rfl) ?_
        obtain ⟨j93, e94, h⟩ := lz_o h
        have hj95 : ∀ (u92 : Int64), j93 u92 = out → ∀ (H : Heap) (locs : List Loc), gWd G LM ad (gA LM ad) s.heap I J H locs → ∀ (ls : Array Slot), lv_has ls 10 [(0, .ref (ad 0)), (3, .int u8), (4, .int u9), (5, .int u10), (6, .int u11), (7, .int u12)] → W p l e (gRm 3) s m args below meth c H locs 0 0 Q (F0 m 112 ls [.long u92, .int u10, .ref (ad 7)]) := by
          intro u92 h H locs hW ls hl
          replace h := jn1 e94 h
          obtain ⟨g96, h⟩ := gd_o h hn
          refine g_last K hW kLM_7 g96 rfl dX7_summedUp_112 (fun H locs hW => ?_)
          obtain ⟨J98, e97, h⟩ := lz_o h
          replace hW := gWd_nJ e97 hW
          obtain ⟨u99, e100, h⟩ := lz_o h
          refine lv_iinc (v := u99) (lv' := [(5, .int u99), (0, .ref (ad 0)), (3, .int u8), (4, .int u9), (6, .int u11), (7, .int u12)]) hx hb dX7_summedUp_113 hl (k := 3) rfl (by rw [e100]; rfl) (by decide) rfl (fun ls hl => ?_)
          refine lv_goto (tgt := 349) hx hb dX7_summedUp_116 (by decide) ?_
          exact hj29 u99 u11 I J98 h _ _ hW _ (lv_sub hl [1, 2, 3, 0, 4, 5] rfl)
        refine lv_if_ne (tgt := 104) hx hb dX7_summedUp_95 (by decide) (fun c101 => ?_) (fun c101 => ?_)
        · replace h := gi_f h c101
          refine lv_aload_n hx hb dX7_summedUp_104 rfl (lv_at hl 2 rfl) ?_
          refine g_get K hW (t := 2) (ci := 6) (k := 20) (v := .ref (ad 6)) kLM_0 rfl rfl i_X7 (by decide) q_1097 rfl (gfv2 rLM_0_20) dX7_summedUp_105 ?_
          refine lv_iload hx hb dX7_summedUp_108 (lv_at hl 0 rfl) ?_
          obtain ⟨g102, h⟩ := gd_o h hn
          refine g_iald K hW kLM_6 g102 rfl dX7_summedUp_110 ?_
          refine lv_i2l hx hb dX7_summedUp_111 rfl ?_
          exact hj95 ((I 6 (u21).toNatClampNeg)).toInt64 h _ _ hW _ (lv_sub hl [2, 3, 4, 5, 6, 7] rfl)
        · replace h := gi_t h c101
          refine lv_iload hx hb dX7_summedUp_98 (lv_at hl 0 rfl) ?_
          refine lv_i2l hx hb dX7_summedUp_100 rfl ?_
          refine lv_goto (tgt := 112) hx hb dX7_summedUp_101 (by decide) ?_
          exact hj95 (u21).toInt64 h _ _ hW _ (lv_sub hl [2, 3, 4, 5, 6, 7] rfl)
noncomputable def fX7_summedUp  (x1 : Int32) (x2 : Int32) (I : gI) (J : gJ) : Option (Int64 × gI × gJ) :=
  lz (((((681 : Int32) * x1) + (1 : Int32)) + ((3 : Int32) * x2))) (fun (u1 : Int32) => lz ((((681 : Int32) * x1) + (73 : Int32))) (fun (u3 : Int32) => gd (vp_in (u1 + (1 : Int32)) 2724) (lz ((I 3 ((u1 + (1 : Int32))).toNatClampNeg)) (fun (u6 : Int32) => bd (fX7_summedUp_38 FU u1 u3 (0 : Int32) (0 : Int32) u6 I J) (pr (fun (I105 : gI) (J106 : gJ) => some ((J106 7 0), I105, J106)))))))
set_option maxHeartbeats 4000000 in
set_option maxRecDepth 100000 in
theorem kX7_summedUp {l : Launch} {G : gG} {ad : Nat → Nat} (hok : gInj LM ad)    (x1 : Int32) (x2 : Int32) (I : gI) (J : gJ) (r : Int64) (I' : gI) (J' : gJ) (h : fX7_summedUp x1 x2 I J = some (r, I', J')) : gMl l yX7_summedUp cX7_summedUp 10 (some .long) 3 G LM ad [.ref (ad 0), .int x1, .int x2] I J r I' J' := by
  refine gMl_of (lst := [(0, .ref (ad 0)), (1, .int x1), (2, .int x2)]) (by decide) hok (Nat.le_of_ble_eq_true rfl) rfl ?_
  intro p e s m args below meth c Q ls K hW hl hfin
  have hn : (some (r, I', J') : Option (Int64 × gI × gJ)) ≠ none := Option.some_ne_none _
  have hx := K.1; have hb := K.2.1; have hown := K.2.2.2.1; have hts := K.2.2.2.2.1
  unfold fX7_summedUp at h
  refine lv_sipush (v := (681 : Int32)) hx hb dX7_summedUp_0 (by decide) ?_
  refine lv_iload_n hx hb dX7_summedUp_3 rfl (lv_at hl 1 rfl) ?_
  refine lv_imul hx hb dX7_summedUp_4 ?_
  refine lv_iconst (v := (1 : Int32)) hx hb dX7_summedUp_5 (by decide) ?_
  refine lv_iadd hx hb dX7_summedUp_6 ?_
  refine lv_iconst (v := (3 : Int32)) hx hb dX7_summedUp_7 (by decide) ?_
  refine lv_iload_n hx hb dX7_summedUp_8 rfl (lv_at hl 2 rfl) ?_
  refine lv_imul hx hb dX7_summedUp_9 ?_
  refine lv_iadd hx hb dX7_summedUp_10 ?_
  obtain ⟨u1, e2, h⟩ := lz_o h
  refine g_nmi e2 ?_
  refine lv_istore_n (lv' := [(3, .int u1), (0, .ref (ad 0)), (1, .int x1), (2, .int x2)]) hx hb dX7_summedUp_11 rfl hl (by decide) rfl (fun ls hl => ?_)
  refine lv_sipush (v := (681 : Int32)) hx hb dX7_summedUp_12 (by decide) ?_
  refine lv_iload_n hx hb dX7_summedUp_15 rfl (lv_at hl 2 rfl) ?_
  refine lv_imul hx hb dX7_summedUp_16 ?_
  refine lv_bipush (v := (73 : Int32)) hx hb dX7_summedUp_17 (by decide) ?_
  refine lv_iadd hx hb dX7_summedUp_19 ?_
  obtain ⟨u3, e4, h⟩ := lz_o h
  refine g_nmi e4 ?_
  refine lv_istore (lv' := [(4, .int u3), (3, .int u1), (0, .ref (ad 0)), (1, .int x1), (2, .int x2)]) hx hb dX7_summedUp_20 hl (by decide) rfl (fun ls hl => ?_)
  refine lv_iconst (v := (0 : Int32)) hx hb dX7_summedUp_22 (by decide) ?_
  refine lv_istore (lv' := [(5, .int (0 : Int32)), (4, .int u3), (3, .int u1), (0, .ref (ad 0)), (1, .int x1), (2, .int x2)]) hx hb dX7_summedUp_23 hl (by decide) rfl (fun ls hl => ?_)
  refine lv_iconst (v := (0 : Int32)) hx hb dX7_summedUp_25 (by decide) ?_
  refine lv_istore (lv' := [(6, .int (0 : Int32)), (5, .int (0 : Int32)), (4, .int u3), (3, .int u1), (0, .ref (ad 0)), (1, .int x1), (2, .int x2)]) hx hb dX7_summedUp_26 hl (by decide) rfl (fun ls hl => ?_)
  refine lv_aload_n hx hb dX7_summedUp_28 rfl (lv_at hl 4 rfl) ?_
  refine g_get K hW (t := 2) (ci := 6) (k := 2) (v := .ref (ad 3)) kLM_0 rfl rfl i_X7 (by decide) q_1079 rfl (gfv2 rLM_0_2) dX7_summedUp_29 ?_
  refine lv_iload_n hx hb dX7_summedUp_32 rfl (lv_at hl 3 rfl) ?_
  refine lv_iconst (v := (1 : Int32)) hx hb dX7_summedUp_33 (by decide) ?_
  refine lv_iadd hx hb dX7_summedUp_34 ?_
  obtain ⟨g5, h⟩ := gd_o h hn
  refine g_iald K hW kLM_3 g5 rfl dX7_summedUp_35 ?_
  obtain ⟨u6, e7, h⟩ := lz_o h
  refine g_nmi e7 ?_
  refine lv_istore (lv' := [(7, .int u6), (6, .int (0 : Int32)), (5, .int (0 : Int32)), (4, .int u3), (3, .int u1), (0, .ref (ad 0)), (1, .int x1), (2, .int x2)]) hx hb dX7_summedUp_36 hl (by decide) rfl (fun ls hl => ?_)
  obtain ⟨r103, e104, h⟩ := bd_o h hn
  refine tX7_summedUp_38 hok K FU u1 u3 (0 : Int32) (0 : Int32) u6 I J (some r103) e104 (Option.some_ne_none _) _ _ hW _ (lv_sub hl [5, 4, 3, 2, 1, 0] rfl) ?_
  · intro I105 J106 q107 H locs hW ls hl
    replace q107 := Option.some.inj q107
    subst q107
    replace h := pr_o h
    refine lv_aload_n hx hb dX7_summedUp_355 rfl (lv_at hl 0 rfl) ?_
    refine g_get K hW (t := 2) (ci := 6) (k := 21) (v := .ref (ad 7)) kLM_0 rfl rfl i_X7 (by decide) q_1098 rfl (gfv2 rLM_0_21) dX7_summedUp_356 ?_
    refine lv_iconst (v := (0 : Int32)) hx hb dX7_summedUp_359 (by decide) ?_
    refine g_lald K hW kLM_7 in_0_330 tn_0 dX7_summedUp_360 ?_
    obtain ⟨a1, a2, a3⟩ := so3 h
    replace hW := gWd_nI a2 hW
    replace hW := gWd_nJ a3 hW
    exact g_nml a1 (hfin _ _ _ _ hW dX7_summedUp_361)
theorem nm_X7_summedUp : gNm yX7_summedUp 2 := by decide +kernel
theorem nm_X7_held : gNm yX7_held 3 := by decide +kernel
noncomputable def fX7_says_3b  (rec : Int32 → Int32 → Int32 → Int32 → Int32 → Int32 → gI → Option ((Int32) ⊕ (Unit))) (u1 : Int32) (u2 : Int32) (u3 : Int32) (u4 : Int32) (u5 : Int32) (u6 : Int32) (I : gI) : Option ((Int32) ⊕ (Unit)) :=
  gi (u1 < 0)
 (some (Sum.inr ()))
 (gd (vp_in ((681 : Int32) * u1) 2724) (gi ((I 3 (((681 : Int32) * u1)).toNatClampNeg) ≤ u6)
 (some (Sum.inr ()))
 (gd (vp_in ((((681 : Int32) * u1) + (1 : Int32)) + ((3 : Int32) * u6)) 2724) (gi ((I 3 (((((681 : Int32) * u1) + (1 : Int32)) + ((3 : Int32) * u6))).toNatClampNeg) = u2)
 (some (Sum.inl u6))
 (lz ((u6 + (1 : Int32))) (fun (u13 : Int32) => rec u1 u2 u3 u4 u5 u13 I))))))
noncomputable def fX7_says_3  : Nat → Int32 → Int32 → Int32 → Int32 → Int32 → Int32 → gI → Option ((Int32) ⊕ (Unit))
  | 0 => fun _ _ _ _ _ _ _ => none
  | n + 1 => fX7_says_3b  (fX7_says_3  n)
set_option maxHeartbeats 4000000 in
set_option maxRecDepth 100000 in
theorem tX7_says_3 {l : Launch} {G : gG} {ad : Nat → Nat} {p : Program} {e : Env} {s : State} {m : MethodId} {args : Array Value} {below : List Frame} {meth : Method} {c : Code} {Q : State → Prop} (hok : gInj LM ad) (K : gCx G (gA LM ad) p s m args c cX7_says 7 RX7)  : ∀ (n : Nat) (u1 : Int32) (u2 : Int32) (u3 : Int32) (u4 : Int32) (u5 : Int32) (u6 : Int32) (I : gI) (J : gJ) (out : Option ((Int32) ⊕ (Unit))), fX7_says_3  n u1 u2 u3 u4 u5 u6 I = out → out ≠ none → ∀ (H : Heap) (locs : List Loc), gWd G LM ad (gA LM ad) s.heap I J H locs → ∀ (ls : Array Slot), lv_has ls 7 [(0, .ref (ad 0)), (1, .int u1), (2, .int u2), (3, .int u3), (4, .int u4), (5, .int u5), (6, .int u6)] → (∀ (y7 : Int32), some (Sum.inl y7) = out → ∀ (H : Heap) (locs : List Loc), gWd G LM ad (gA LM ad) s.heap I J H locs → ∀ (ls : Array Slot), lv_has ls 7 [(0, .ref (ad 0)), (1, .int u1), (4, .int u4), (5, .int u5), (6, .int y7)] → W p l e (gRm 4) s m args below meth c H locs 0 0 Q (F0 m 43 ls [])) → (some (Sum.inr ()) = out → ∀ (H : Heap) (locs : List Loc), gWd G LM ad (gA LM ad) s.heap I J H locs → ∀ (ls : Array Slot), lv_has ls 7 [(3, .int u3)] → W p l e (gRm 4) s m args below meth c H locs 0 0 Q (F0 m 64 ls [])) → W p l e (gRm 4) s m args below meth c H locs 0 0 Q (F0 m 3 ls []) := by
  have hx := K.1; have hb := K.2.1; have hown := K.2.2.2.1; have hts := K.2.2.2.2.1
  intro n
  induction n with
  | zero => intro u1 u2 u3 u4 u5 u6 I J out h hn; exact absurd h.symm hn
  | succ n ih =>
    intro u1 u2 u3 u4 u5 u6 I J out h hn H locs hW ls hl hx1 hx2
    replace h : fX7_says_3b  (fX7_says_3  n) u1 u2 u3 u4 u5 u6 I = out := h
    unfold fX7_says_3b at h
    refine lv_iload_n hx hb dX7_says_3 rfl (lv_at hl 1 rfl) ?_
    refine lv_if_lt (tgt := 64) hx hb dX7_says_4 (by decide) (fun c8 => ?_) (fun c8 => ?_)
    · replace h := gi_t h c8
      exact hx2 h _ _ hW _ (lv_sub hl [3] rfl)
    · replace h := gi_f h c8
      refine lv_iload hx hb dX7_says_7 (lv_at hl 6 rfl) ?_
      refine lv_aload_n hx hb dX7_says_9 rfl (lv_at hl 0 rfl) ?_
      refine g_get K hW (t := 2) (ci := 6) (k := 2) (v := .ref (ad 3)) kLM_0 rfl rfl i_X7 (by decide) q_1079 rfl (gfv2 rLM_0_2) dX7_says_10 ?_
      refine lv_sipush (v := (681 : Int32)) hx hb dX7_says_13 (by decide) ?_
      refine lv_iload_n hx hb dX7_says_16 rfl (lv_at hl 1 rfl) ?_
      refine lv_imul hx hb dX7_says_17 ?_
      obtain ⟨g9, h⟩ := gd_o h hn
      refine g_iald K hW kLM_3 g9 rfl dX7_says_18 ?_
      refine lv_icmp_ge (tgt := 64) hx hb dX7_says_19 (by decide) (fun c10 => ?_) (fun c10 => ?_)
      · replace h := gi_t h c10
        exact hx2 h _ _ hW _ (lv_sub hl [3] rfl)
      · replace h := gi_f h c10
        refine lv_aload_n hx hb dX7_says_22 rfl (lv_at hl 0 rfl) ?_
        refine g_get K hW (t := 2) (ci := 6) (k := 2) (v := .ref (ad 3)) kLM_0 rfl rfl i_X7 (by decide) q_1079 rfl (gfv2 rLM_0_2) dX7_says_23 ?_
        refine lv_sipush (v := (681 : Int32)) hx hb dX7_says_26 (by decide) ?_
        refine lv_iload_n hx hb dX7_says_29 rfl (lv_at hl 1 rfl) ?_
        refine lv_imul hx hb dX7_says_30 ?_
        refine lv_iconst (v := (1 : Int32)) hx hb dX7_says_31 (by decide) ?_
        refine lv_iadd hx hb dX7_says_32 ?_
        refine lv_iconst (v := (3 : Int32)) hx hb dX7_says_33 (by decide) ?_
        refine lv_iload hx hb dX7_says_34 (lv_at hl 6 rfl) ?_
        refine lv_imul hx hb dX7_says_36 ?_
        refine lv_iadd hx hb dX7_says_37 ?_
        obtain ⟨g11, h⟩ := gd_o h hn
        refine g_iald K hW kLM_3 g11 rfl dX7_says_38 ?_
        refine lv_iload_n hx hb dX7_says_39 rfl (lv_at hl 2 rfl) ?_
        refine lv_icmp_ne (tgt := 58) hx hb dX7_says_40 (by decide) (fun c12 => ?_) (fun c12 => ?_)
        · replace h := gi_f h c12
          obtain ⟨u13, e14, h⟩ := lz_o h
          refine lv_iinc (v := u13) (lv' := [(6, .int u13), (0, .ref (ad 0)), (1, .int u1), (2, .int u2), (3, .int u3), (4, .int u4), (5, .int u5)]) hx hb dX7_says_58 hl (k := 6) rfl (by rw [e14]; rfl) (by decide) rfl (fun ls hl => ?_)
          refine lv_goto (tgt := 3) hx hb dX7_says_61 (by decide) ?_
          exact ih u1 u2 u3 u4 u5 u13 I J _ h hn _ _ hW _ (lv_sub hl [1, 2, 3, 4, 5, 6, 0] rfl) hx1 hx2
        · replace h := gi_t h c12
          exact hx1 u6 h _ _ hW _ (lv_sub hl [0, 1, 4, 5, 6] rfl)
noncomputable def fX7_says  (x1 : Int32) (x2 : Int32) (x3 : Int32) (x4 : Int32) (x5 : Int32) (I : gI) (J : gJ) : Option (Int32 × gI × gJ) :=
  bd (fX7_says_3 FU x1 x2 x3 x4 x5 (0 : Int32) I) (sm (fun (u17 : Int32) => bd (fX7_summedUp x1 u17 I J) (pr (fun (u19 : Int64) => pr (fun (I20 : gI) (J21 : gJ) => some ((fX7_held u19 x4 x5), I20, J21))))) (fun _ => some (x3, I, J)))
set_option maxHeartbeats 4000000 in
set_option maxRecDepth 100000 in
theorem kX7_says {l : Launch} {G : gG} {ad : Nat → Nat} (hok : gInj LM ad)    (x1 : Int32) (x2 : Int32) (x3 : Int32) (x4 : Int32) (x5 : Int32) (I : gI) (J : gJ) (r : Int32) (I' : gI) (J' : gJ) (h : fX7_says x1 x2 x3 x4 x5 I J = some (r, I', J')) : gMi l yX7_says cX7_says 7 (some .int) 4 G LM ad [.ref (ad 0), .int x1, .int x2, .int x3, .int x4, .int x5] I J r True I' J' := by
  refine gMi_of (lst := [(0, .ref (ad 0)), (1, .int x1), (2, .int x2), (3, .int x3), (4, .int x4), (5, .int x5)]) (by decide) hok (Nat.le_of_ble_eq_true rfl) rfl ?_
  intro p e s m args below meth c Q ls K hW hl hfin
  have hn : (some (r, I', J') : Option (Int32 × gI × gJ)) ≠ none := Option.some_ne_none _
  have hx := K.1; have hb := K.2.1; have hown := K.2.2.2.1; have hts := K.2.2.2.2.1
  unfold fX7_says at h
  refine lv_iconst (v := (0 : Int32)) hx hb dX7_says_0 (by decide) ?_
  refine lv_istore (lv' := [(6, .int (0 : Int32)), (0, .ref (ad 0)), (1, .int x1), (2, .int x2), (3, .int x3), (4, .int x4), (5, .int x5)]) hx hb dX7_says_1 hl (by decide) rfl (fun ls hl => ?_)
  obtain ⟨r15, e16, h⟩ := bd_o h hn
  refine tX7_says_3 hok K FU x1 x2 x3 x4 x5 (0 : Int32) I J (some r15) e16 (Option.some_ne_none _) _ _ hW _ (lv_sub hl [1, 2, 3, 4, 5, 6, 0] rfl) ?_ ?_
  · intro u17 q18 H locs hW ls hl
    replace q18 := Option.some.inj q18
    subst q18
    replace h := sm_l h
    refine lv_aload_n hx hb dX7_says_43 rfl (lv_at hl 0 rfl) ?_
    refine lv_iload_n hx hb dX7_says_44 rfl (lv_at hl 1 rfl) ?_
    refine lv_iload hx hb dX7_says_45 (lv_at hl 4 rfl) ?_
    obtain ⟨⟨u19, I20, J21⟩, e22, h⟩ := bd_o h hn
    replace h := pr_o h
    replace h := pr_o h
    refine g_callVl (rest := []) K hW hl (kX7_summedUp (l := l) (G := G) (ad := ad) hok x1 u17 I J u19 I20 J21 e22) kLM_0 rfl (gG_V q_1397 q_1399 q_91 q_139 q_1400) nm_X7_summedUp ⟨Nat.le_of_ble_eq_true rfl, Nat.le_of_ble_eq_true rfl⟩ rfl rfl (Nat.le_of_ble_eq_true rfl) ⟨Nat.zero_le _, Nat.zero_le _⟩ dX7_says_47 (fun H locs hW => ?_)
    refine lv_iload hx hb dX7_says_50 (lv_at hl 2 rfl) ?_
    refine lv_iload hx hb dX7_says_52 (lv_at hl 3 rfl) ?_
    refine g_callSi (rest := []) K hW hl (kX7_held (l := l) (G := G) (ad := ad) hok u19 x4 x5 I20 J21 (fX7_held u19 x4 x5) rfl) q_1420 q_1421 q_139 q_1422 nm_X7_held ⟨Nat.le_of_ble_eq_true rfl, Nat.le_of_ble_eq_true rfl⟩ rfl rfl (Nat.le_of_ble_eq_true rfl) ⟨Nat.zero_le _, Nat.zero_le _⟩ dX7_says_54 (fun z24 H locs hW => ?_)
    obtain ⟨a1, a2, a3⟩ := so3 h
    replace hW := gWd_nI a2 hW
    replace hW := gWd_nJ a3 hW
    exact g_nmi a1 (hfin _ _ _ _ hW dX7_says_57)
  · intro q25 H locs hW ls hl
    replace q25 := Option.some.inj q25
    subst q25
    replace h := sm_r h
    refine lv_iload_n hx hb dX7_says_64 rfl (lv_at hl 0 rfl) ?_
    obtain ⟨a1, a2, a3⟩ := so3 h
    replace hW := gWd_nI a2 hW
    replace hW := gWd_nJ a3 hW
    exact g_nmi a1 (hfin _ _ _ _ hW dX7_says_65)
theorem in_6_1592 : vp_in (6 : Int32) 1592 := in_c (by decide +kernel) (by decide +kernel)
theorem tn_6 : (6 : Int32).toNatClampNeg = 6 := by decide +kernel
theorem in_0_8 : vp_in (0 : Int32) 8 := in_c (by decide +kernel) (by decide +kernel)
theorem in_1_8 : vp_in (1 : Int32) 8 := in_c (by decide +kernel) (by decide +kernel)
theorem in_2_8 : vp_in (2 : Int32) 8 := in_c (by decide +kernel) (by decide +kernel)
theorem in_3_8 : vp_in (3 : Int32) 8 := in_c (by decide +kernel) (by decide +kernel)
theorem tn_3 : (3 : Int32).toNatClampNeg = 3 := by decide +kernel
theorem in_4_8 : vp_in (4 : Int32) 8 := in_c (by decide +kernel) (by decide +kernel)
theorem tn_4 : (4 : Int32).toNatClampNeg = 4 := by decide +kernel
theorem nm_X7_freeNow : gNm yX7_freeNow 0 := by decide +kernel
theorem in_5_8 : vp_in (5 : Int32) 8 := in_c (by decide +kernel) (by decide +kernel)
theorem tn_5 : (5 : Int32).toNatClampNeg = 5 := by decide +kernel
theorem nm_X7_doesWant : gNm yX7_doesWant 2 := by decide +kernel
theorem in_6_8 : vp_in (6 : Int32) 8 := in_c (by decide +kernel) (by decide +kernel)
theorem nm_X7_hasNow : gNm yX7_hasNow 1 := by decide +kernel
theorem in_7_8 : vp_in (7 : Int32) 8 := in_c (by decide +kernel) (by decide +kernel)
theorem tn_7 : (7 : Int32).toNatClampNeg = 7 := by decide +kernel
noncomputable def fX7_name  (x1 : Int32) (x2 : Int32) (I : gI) : Option (gI) :=
  lz (wI I 6 0 (I 1 6)) (fun (I2 : gI) => lz (wI I2 6 1 x1) (fun (I4 : gI) => lz (wI I4 6 2 x2) (fun (I6 : gI) => bd (fX7_longOf x1 I6) (fun (u7 : Int32) => lz (wI I6 6 3 u7) (fun (I11 : gI) => gd (vp_in ((23 : Int32) + x1) 1592) (lz (wI I11 6 4 (I11 1 (((23 : Int32) + x1)).toNatClampNeg)) (fun (I14 : gI) => bd (fX7_freeNow I14) (fun (u15 : Int32) => bd (fX7_bits u15) (fun (u18 : Int32) => lz (wI I14 6 5 u18) (fun (I22 : gI) => bd (fX7_doesWant x1 x2 I22) (fun (u23 : Int32) => lz (fun (u26 : Int32) => lz (wI I22 6 6 u26) (fun (I31 : gI) => bd (fX7_hasNow x1 I31) (fun (u32 : Int32) => lz (wI I31 6 7 u32) (fun (I36 : gI) => some I36)))) (fun j27 => gi (u23 = 0)
 (j27 (0 : Int32))
 (j27 (1 : Int32))))))))))))))
set_option maxHeartbeats 4000000 in
set_option maxRecDepth 100000 in
theorem kX7_name {l : Launch} {G : gG} {ad : Nat → Nat} (hok : gInj LM ad)    (x1 : Int32) (x2 : Int32) (I : gI) (J : gJ) (I' : gI) (h : fX7_name x1 x2 I = some I') : gMv l yX7_name cX7_name 3 none 3 G LM ad [.ref (ad 0), .int x1, .int x2] I J I' J := by
  refine gMv_of (lst := [(0, .ref (ad 0)), (1, .int x1), (2, .int x2)]) (by decide) hok (Nat.le_of_ble_eq_true rfl) rfl ?_
  intro p e s m args below meth c Q ls K hW hl hfin
  have hn : (some I' : Option (gI)) ≠ none := Option.some_ne_none _
  have hx := K.1; have hb := K.2.1; have hown := K.2.2.2.1; have hts := K.2.2.2.2.1
  unfold fX7_name at h
  refine lv_aload_n hx hb dX7_name_0 rfl (lv_at hl 0 rfl) ?_
  refine g_get K hW (t := 2) (ci := 6) (k := 20) (v := .ref (ad 6)) kLM_0 rfl rfl i_X7 (by decide) q_1097 rfl (gfv2 rLM_0_20) dX7_name_1 ?_
  refine lv_iconst (v := (0 : Int32)) hx hb dX7_name_4 (by decide) ?_
  refine lv_aload_n hx hb dX7_name_5 rfl (lv_at hl 0 rfl) ?_
  refine g_get K hW (t := 2) (ci := 6) (k := 0) (v := .ref (ad 1)) kLM_0 rfl rfl i_X7 (by decide) q_1077 rfl (gfv2 rLM_0_0) dX7_name_6 ?_
  refine lv_bipush (v := (6 : Int32)) hx hb dX7_name_9 (by decide) ?_
  refine g_iald K hW kLM_1 in_6_1592 tn_6 dX7_name_11 ?_
  refine g_iast K hW kLM_6 in_0_8 tn_0 dX7_name_12 (fun H locs hW => ?_)
  obtain ⟨I2, e1, h⟩ := lz_o h
  replace hW := gWd_nI e1 hW
  refine lv_aload_n hx hb dX7_name_13 rfl (lv_at hl 0 rfl) ?_
  refine g_get K hW (t := 2) (ci := 6) (k := 20) (v := .ref (ad 6)) kLM_0 rfl rfl i_X7 (by decide) q_1097 rfl (gfv2 rLM_0_20) dX7_name_14 ?_
  refine lv_iconst (v := (1 : Int32)) hx hb dX7_name_17 (by decide) ?_
  refine lv_iload_n hx hb dX7_name_18 rfl (lv_at hl 1 rfl) ?_
  refine g_iast K hW kLM_6 in_1_8 tn_1 dX7_name_19 (fun H locs hW => ?_)
  obtain ⟨I4, e3, h⟩ := lz_o h
  replace hW := gWd_nI e3 hW
  refine lv_aload_n hx hb dX7_name_20 rfl (lv_at hl 0 rfl) ?_
  refine g_get K hW (t := 2) (ci := 6) (k := 20) (v := .ref (ad 6)) kLM_0 rfl rfl i_X7 (by decide) q_1097 rfl (gfv2 rLM_0_20) dX7_name_21 ?_
  refine lv_iconst (v := (2 : Int32)) hx hb dX7_name_24 (by decide) ?_
  refine lv_iload_n hx hb dX7_name_25 rfl (lv_at hl 2 rfl) ?_
  refine g_iast K hW kLM_6 in_2_8 tn_2 dX7_name_26 (fun H locs hW => ?_)
  obtain ⟨I6, e5, h⟩ := lz_o h
  replace hW := gWd_nI e5 hW
  refine lv_aload_n hx hb dX7_name_27 rfl (lv_at hl 0 rfl) ?_
  refine g_get K hW (t := 2) (ci := 6) (k := 20) (v := .ref (ad 6)) kLM_0 rfl rfl i_X7 (by decide) q_1097 rfl (gfv2 rLM_0_20) dX7_name_28 ?_
  refine lv_iconst (v := (3 : Int32)) hx hb dX7_name_31 (by decide) ?_
  refine lv_aload_n hx hb dX7_name_32 rfl (lv_at hl 0 rfl) ?_
  refine lv_iload_n hx hb dX7_name_33 rfl (lv_at hl 1 rfl) ?_
  obtain ⟨u7, e8, h⟩ := bd_o h hn
  refine g_callVi (rest := [.int (3 : Int32), .ref (ad 6)]) K hW hl (kX7_longOf (l := l) (G := G) (ad := ad) hok x1 I6 J u7 e8) kLM_0 rfl (gG_V q_1362 q_1364 q_83 q_139 q_1365) nm_X7_longOf ⟨Nat.le_of_ble_eq_true rfl, Nat.le_of_ble_eq_true rfl⟩ rfl rfl (Nat.le_of_ble_eq_true rfl) ⟨Nat.zero_le _, Nat.zero_le _⟩ dX7_name_34 (fun z9 H locs hW => ?_)
  refine g_iast K hW kLM_6 in_3_8 tn_3 dX7_name_37 (fun H locs hW => ?_)
  obtain ⟨I11, e10, h⟩ := lz_o h
  replace hW := gWd_nI e10 hW
  refine lv_aload_n hx hb dX7_name_38 rfl (lv_at hl 0 rfl) ?_
  refine g_get K hW (t := 2) (ci := 6) (k := 20) (v := .ref (ad 6)) kLM_0 rfl rfl i_X7 (by decide) q_1097 rfl (gfv2 rLM_0_20) dX7_name_39 ?_
  refine lv_iconst (v := (4 : Int32)) hx hb dX7_name_42 (by decide) ?_
  refine lv_aload_n hx hb dX7_name_43 rfl (lv_at hl 0 rfl) ?_
  refine g_get K hW (t := 2) (ci := 6) (k := 0) (v := .ref (ad 1)) kLM_0 rfl rfl i_X7 (by decide) q_1077 rfl (gfv2 rLM_0_0) dX7_name_44 ?_
  refine lv_bipush (v := (23 : Int32)) hx hb dX7_name_47 (by decide) ?_
  refine lv_iload_n hx hb dX7_name_49 rfl (lv_at hl 1 rfl) ?_
  refine lv_iadd hx hb dX7_name_50 ?_
  obtain ⟨g12, h⟩ := gd_o h hn
  refine g_iald K hW kLM_1 g12 rfl dX7_name_51 ?_
  refine g_iast K hW kLM_6 in_4_8 tn_4 dX7_name_52 (fun H locs hW => ?_)
  obtain ⟨I14, e13, h⟩ := lz_o h
  replace hW := gWd_nI e13 hW
  refine lv_aload_n hx hb dX7_name_53 rfl (lv_at hl 0 rfl) ?_
  refine g_get K hW (t := 2) (ci := 6) (k := 20) (v := .ref (ad 6)) kLM_0 rfl rfl i_X7 (by decide) q_1097 rfl (gfv2 rLM_0_20) dX7_name_54 ?_
  refine lv_iconst (v := (5 : Int32)) hx hb dX7_name_57 (by decide) ?_
  refine lv_aload_n hx hb dX7_name_58 rfl (lv_at hl 0 rfl) ?_
  obtain ⟨u15, e16, h⟩ := bd_o h hn
  refine g_callVi (rest := [.int (5 : Int32), .ref (ad 6)]) K hW hl (kX7_freeNow (l := l) (G := G) (ad := ad) hok I14 J u15 e16) kLM_0 rfl (gG_V q_1366 q_1368 q_84 q_139 q_1369) nm_X7_freeNow ⟨Nat.le_of_ble_eq_true rfl, Nat.le_of_ble_eq_true rfl⟩ rfl rfl (Nat.le_of_ble_eq_true rfl) ⟨Nat.zero_le _, Nat.zero_le _⟩ dX7_name_59 (fun z17 H locs hW => ?_)
  obtain ⟨u18, e19, h⟩ := bd_o h hn
  refine g_callSi (rest := [.int (5 : Int32), .ref (ad 6)]) K hW hl (kX7_bits (l := l) (G := G) (ad := ad) hok u15 I14 J u18 e19) q_1382 q_1383 q_139 q_1384 nm_X7_bits ⟨Nat.le_of_ble_eq_true rfl, Nat.le_of_ble_eq_true rfl⟩ rfl rfl (Nat.le_of_ble_eq_true rfl) ⟨Nat.zero_le _, Nat.zero_le _⟩ dX7_name_62 (fun z20 H locs hW => ?_)
  refine g_iast K hW kLM_6 in_5_8 tn_5 dX7_name_65 (fun H locs hW => ?_)
  obtain ⟨I22, e21, h⟩ := lz_o h
  replace hW := gWd_nI e21 hW
  refine lv_aload_n hx hb dX7_name_66 rfl (lv_at hl 0 rfl) ?_
  refine g_get K hW (t := 2) (ci := 6) (k := 20) (v := .ref (ad 6)) kLM_0 rfl rfl i_X7 (by decide) q_1097 rfl (gfv2 rLM_0_20) dX7_name_67 ?_
  refine lv_bipush (v := (6 : Int32)) hx hb dX7_name_70 (by decide) ?_
  refine lv_aload_n hx hb dX7_name_72 rfl (lv_at hl 0 rfl) ?_
  refine lv_iload_n hx hb dX7_name_73 rfl (lv_at hl 1 rfl) ?_
  refine lv_iload_n hx hb dX7_name_74 rfl (lv_at hl 2 rfl) ?_
  obtain ⟨u23, e24, h⟩ := bd_o h hn
  refine g_callVi (rest := [.int (6 : Int32), .ref (ad 6)]) K hW hl (kX7_doesWant (l := l) (G := G) (ad := ad) hok x1 x2 I22 J u23 e24) kLM_0 rfl (gG_V q_1354 q_1356 q_81 q_139 q_1357) nm_X7_doesWant ⟨Nat.le_of_ble_eq_true rfl, Nat.le_of_ble_eq_true rfl⟩ rfl rfl (Nat.le_of_ble_eq_true rfl) ⟨Nat.zero_le _, Nat.zero_le _⟩ dX7_name_75 (fun z25 H locs hW => ?_)
  obtain ⟨j27, e28, h⟩ := lz_o h
  have hj29 : ∀ (u26 : Int32), j27 u26 = (some I') → ∀ (H : Heap) (locs : List Loc), gWd G LM ad (gA LM ad) s.heap I22 J H locs → ∀ (ls : Array Slot), lv_has ls 3 [(0, .ref (ad 0)), (1, .int x1)] → W p l e (gRm 3) s m args below meth c H locs 0 0 Q (F0 m 86 ls [.int u26, .int (6 : Int32), .ref (ad 6)]) := by
    intro u26 h H locs hW ls hl
    replace h := jn1 e28 h
    refine g_iast K hW kLM_6 in_6_8 tn_6 dX7_name_86 (fun H locs hW => ?_)
    obtain ⟨I31, e30, h⟩ := lz_o h
    replace hW := gWd_nI e30 hW
    refine lv_aload_n hx hb dX7_name_87 rfl (lv_at hl 0 rfl) ?_
    refine g_get K hW (t := 2) (ci := 6) (k := 20) (v := .ref (ad 6)) kLM_0 rfl rfl i_X7 (by decide) q_1097 rfl (gfv2 rLM_0_20) dX7_name_88 ?_
    refine lv_bipush (v := (7 : Int32)) hx hb dX7_name_91 (by decide) ?_
    refine lv_aload_n hx hb dX7_name_93 rfl (lv_at hl 0 rfl) ?_
    refine lv_iload_n hx hb dX7_name_94 rfl (lv_at hl 1 rfl) ?_
    obtain ⟨u32, e33, h⟩ := bd_o h hn
    refine g_callVi (rest := [.int (7 : Int32), .ref (ad 6)]) K hW hl (kX7_hasNow (l := l) (G := G) (ad := ad) hok x1 I31 J u32 e33) kLM_0 rfl (gG_V q_1385 q_1387 q_88 q_139 q_1388) nm_X7_hasNow ⟨Nat.le_of_ble_eq_true rfl, Nat.le_of_ble_eq_true rfl⟩ rfl rfl (Nat.le_of_ble_eq_true rfl) ⟨Nat.zero_le _, Nat.zero_le _⟩ dX7_name_95 (fun z34 H locs hW => ?_)
    refine g_iast K hW kLM_6 in_7_8 tn_7 dX7_name_98 (fun H locs hW => ?_)
    obtain ⟨I36, e35, h⟩ := lz_o h
    replace hW := gWd_nI e35 hW
    obtain a1 := so1 h
    replace hW := gWd_nI a1 hW
    exact hfin _ _ _ _ hW dX7_name_99
  refine lv_if_eq (tgt := 85) hx hb dX7_name_78 (by decide) (fun c37 => ?_) (fun c37 => ?_)
  · replace h := gi_t h c37
    refine lv_iconst (v := (0 : Int32)) hx hb dX7_name_85 (by decide) ?_
    exact hj29 (0 : Int32) h _ _ hW _ (lv_sub hl [0, 1] rfl)
  · replace h := gi_f h c37
    refine lv_iconst (v := (1 : Int32)) hx hb dX7_name_81 (by decide) ?_
    refine lv_goto (tgt := 86) hx hb dX7_name_82 (by decide) ?_
    exact hj29 (1 : Int32) h _ _ hW _ (lv_sub hl [0, 1] rfl)
theorem nm_X7_name : gNm yX7_name 2 := by decide +kernel
theorem nm_X7_says : gNm yX7_says 5 := by decide +kernel
noncomputable def fX7_bidsOf  (x1 : Int32) (x2 : Int32) (x3 : Int32) (I : gI) (J : gJ) : Option (Int32 × gI × gJ) :=
  bd (fX7_name x2 x3 I) (fun (I1 : gI) => gd (vp_in ((34 : Int32) + x3) 1592) (bd (fX7_longOf x2 I1) (fun (u5 : Int32) => bd (fX7_says x1 (0 : Int32) (((I1 1 (((34 : Int32) + x3)).toNatClampNeg) * u5) / (12 : Int32)) (0 : Int32) (99 : Int32) I1 J) (pr (fun (u8 : Int32) => pr (fun (I9 : gI) (J10 : gJ) => some (u8, I9, J10)))))))
set_option maxHeartbeats 4000000 in
set_option maxRecDepth 100000 in
theorem kX7_bidsOf {l : Launch} {G : gG} {ad : Nat → Nat} (hok : gInj LM ad)    (x1 : Int32) (x2 : Int32) (x3 : Int32) (I : gI) (J : gJ) (r : Int32) (I' : gI) (J' : gJ) (h : fX7_bidsOf x1 x2 x3 I J = some (r, I', J')) : gMi l yX7_bidsOf cX7_bidsOf 4 (some .int) 5 G LM ad [.ref (ad 0), .int x1, .int x2, .int x3] I J r True I' J' := by
  refine gMi_of (lst := [(0, .ref (ad 0)), (1, .int x1), (2, .int x2), (3, .int x3)]) (by decide) hok (Nat.le_of_ble_eq_true rfl) rfl ?_
  intro p e s m args below meth c Q ls K hW hl hfin
  have hn : (some (r, I', J') : Option (Int32 × gI × gJ)) ≠ none := Option.some_ne_none _
  have hx := K.1; have hb := K.2.1; have hown := K.2.2.2.1; have hts := K.2.2.2.2.1
  unfold fX7_bidsOf at h
  refine lv_aload_n hx hb dX7_bidsOf_0 rfl (lv_at hl 0 rfl) ?_
  refine lv_iload_n hx hb dX7_bidsOf_1 rfl (lv_at hl 2 rfl) ?_
  refine lv_iload_n hx hb dX7_bidsOf_2 rfl (lv_at hl 3 rfl) ?_
  obtain ⟨I1, e2, h⟩ := bd_o h hn
  refine g_callVv (rest := []) K hW hl (kX7_name (l := l) (G := G) (ad := ad) hok x2 x3 I J I1 e2) kLM_0 rfl (gG_V q_1378 q_1380 q_87 q_139 q_1381) nm_X7_name ⟨Nat.le_of_ble_eq_true rfl, Nat.le_of_ble_eq_true rfl⟩ rfl rfl (Nat.le_of_ble_eq_true rfl) ⟨Nat.zero_le _, Nat.zero_le _⟩ dX7_bidsOf_3 (fun H locs hW => ?_)
  refine lv_aload_n hx hb dX7_bidsOf_6 rfl (lv_at hl 0 rfl) ?_
  refine lv_iload_n hx hb dX7_bidsOf_7 rfl (lv_at hl 1 rfl) ?_
  refine lv_iconst (v := (0 : Int32)) hx hb dX7_bidsOf_8 (by decide) ?_
  refine lv_aload_n hx hb dX7_bidsOf_9 rfl (lv_at hl 0 rfl) ?_
  refine g_get K hW (t := 2) (ci := 6) (k := 0) (v := .ref (ad 1)) kLM_0 rfl rfl i_X7 (by decide) q_1077 rfl (gfv2 rLM_0_0) dX7_bidsOf_10 ?_
  refine lv_bipush (v := (34 : Int32)) hx hb dX7_bidsOf_13 (by decide) ?_
  refine lv_iload_n hx hb dX7_bidsOf_15 rfl (lv_at hl 3 rfl) ?_
  refine lv_iadd hx hb dX7_bidsOf_16 ?_
  obtain ⟨g4, h⟩ := gd_o h hn
  refine g_iald K hW kLM_1 g4 rfl dX7_bidsOf_17 ?_
  refine lv_aload_n hx hb dX7_bidsOf_18 rfl (lv_at hl 0 rfl) ?_
  refine lv_iload_n hx hb dX7_bidsOf_19 rfl (lv_at hl 2 rfl) ?_
  obtain ⟨u5, e6, h⟩ := bd_o h hn
  refine g_callVi (rest := [.int (I1 1 (((34 : Int32) + x3)).toNatClampNeg), .int (0 : Int32), .int x1, .ref (ad 0)]) K hW hl (kX7_longOf (l := l) (G := G) (ad := ad) hok x2 I1 J u5 e6) kLM_0 rfl (gG_V q_1362 q_1364 q_83 q_139 q_1365) nm_X7_longOf ⟨Nat.le_of_ble_eq_true rfl, Nat.le_of_ble_eq_true rfl⟩ rfl rfl (Nat.le_of_ble_eq_true rfl) ⟨Nat.zero_le _, Nat.zero_le _⟩ dX7_bidsOf_20 (fun z7 H locs hW => ?_)
  refine lv_imul hx hb dX7_bidsOf_23 ?_
  refine lv_bipush (v := (12 : Int32)) hx hb dX7_bidsOf_24 (by decide) ?_
  refine lv_idiv hx hb dX7_bidsOf_26 (by decide) ?_
  refine lv_iconst (v := (0 : Int32)) hx hb dX7_bidsOf_27 (by decide) ?_
  refine lv_bipush (v := (99 : Int32)) hx hb dX7_bidsOf_28 (by decide) ?_
  obtain ⟨⟨u8, I9, J10⟩, e11, h⟩ := bd_o h hn
  replace h := pr_o h
  replace h := pr_o h
  refine g_callVi (rest := []) K hW hl (kX7_says (l := l) (G := G) (ad := ad) hok x1 (0 : Int32) (((I1 1 (((34 : Int32) + x3)).toNatClampNeg) * u5) / (12 : Int32)) (0 : Int32) (99 : Int32) I1 J u8 I9 J10 e11) kLM_0 rfl (gG_V q_1393 q_1395 q_90 q_139 q_1396) nm_X7_says ⟨Nat.le_of_ble_eq_true rfl, Nat.le_of_ble_eq_true rfl⟩ rfl rfl (Nat.le_of_ble_eq_true rfl) ⟨Nat.zero_le _, Nat.zero_le _⟩ dX7_bidsOf_30 (fun z12 H locs hW => ?_)
  obtain ⟨a1, a2, a3⟩ := so3 h
  replace hW := gWd_nI a2 hW
  replace hW := gWd_nJ a3 hW
  exact g_nmi a1 (hfin _ _ _ _ hW dX7_bidsOf_33)
theorem in_9_1592 : vp_in (9 : Int32) 1592 := in_c (by decide +kernel) (by decide +kernel)
theorem tn_9 : (9 : Int32).toNatClampNeg = 9 := by decide +kernel
theorem nm_X7_bidsOf : gNm yX7_bidsOf 3 := by decide +kernel
noncomputable def fX7_bidsNow  (x1 : Int32) (I : gI) (J : gJ) : Option (Int32 × gI × gJ) :=
  bd (fX7_bidsOf (I 1 2) x1 (I 1 9) I J) (pr (fun (u1 : Int32) => pr (fun (I2 : gI) (J3 : gJ) => some (u1, I2, J3))))
set_option maxHeartbeats 4000000 in
set_option maxRecDepth 100000 in
theorem kX7_bidsNow {l : Launch} {G : gG} {ad : Nat → Nat} (hok : gInj LM ad)    (x1 : Int32) (I : gI) (J : gJ) (r : Int32) (I' : gI) (J' : gJ) (h : fX7_bidsNow x1 I J = some (r, I', J')) : gMi l yX7_bidsNow cX7_bidsNow 2 (some .int) 6 G LM ad [.ref (ad 0), .int x1] I J r True I' J' := by
  refine gMi_of (lst := [(0, .ref (ad 0)), (1, .int x1)]) (by decide) hok (Nat.le_of_ble_eq_true rfl) rfl ?_
  intro p e s m args below meth c Q ls K hW hl hfin
  have hn : (some (r, I', J') : Option (Int32 × gI × gJ)) ≠ none := Option.some_ne_none _
  have hx := K.1; have hb := K.2.1; have hown := K.2.2.2.1; have hts := K.2.2.2.2.1
  unfold fX7_bidsNow at h
  refine lv_aload_n hx hb dX7_bidsNow_0 rfl (lv_at hl 0 rfl) ?_
  refine lv_aload_n hx hb dX7_bidsNow_1 rfl (lv_at hl 0 rfl) ?_
  refine g_get K hW (t := 2) (ci := 6) (k := 0) (v := .ref (ad 1)) kLM_0 rfl rfl i_X7 (by decide) q_1077 rfl (gfv2 rLM_0_0) dX7_bidsNow_2 ?_
  refine lv_iconst (v := (2 : Int32)) hx hb dX7_bidsNow_5 (by decide) ?_
  refine g_iald K hW kLM_1 in_2_1592 tn_2 dX7_bidsNow_6 ?_
  refine lv_iload_n hx hb dX7_bidsNow_7 rfl (lv_at hl 1 rfl) ?_
  refine lv_aload_n hx hb dX7_bidsNow_8 rfl (lv_at hl 0 rfl) ?_
  refine g_get K hW (t := 2) (ci := 6) (k := 0) (v := .ref (ad 1)) kLM_0 rfl rfl i_X7 (by decide) q_1077 rfl (gfv2 rLM_0_0) dX7_bidsNow_9 ?_
  refine lv_bipush (v := (9 : Int32)) hx hb dX7_bidsNow_12 (by decide) ?_
  refine g_iald K hW kLM_1 in_9_1592 tn_9 dX7_bidsNow_14 ?_
  obtain ⟨⟨u1, I2, J3⟩, e4, h⟩ := bd_o h hn
  replace h := pr_o h
  replace h := pr_o h
  refine g_callVi (rest := []) K hW hl (kX7_bidsOf (l := l) (G := G) (ad := ad) hok (I 1 2) x1 (I 1 9) I J u1 I2 J3 e4) kLM_0 rfl (gG_V q_1374 q_1376 q_86 q_139 q_1377) nm_X7_bidsOf ⟨Nat.le_of_ble_eq_true rfl, Nat.le_of_ble_eq_true rfl⟩ rfl rfl (Nat.le_of_ble_eq_true rfl) ⟨Nat.zero_le _, Nat.zero_le _⟩ dX7_bidsNow_15 (fun z5 H locs hW => ?_)
  obtain ⟨a1, a2, a3⟩ := so3 h
  replace hW := gWd_nI a2 hW
  replace hW := gWd_nJ a3 hW
  exact g_nmi a1 (hfin _ _ _ _ hW dX7_bidsNow_18)
noncomputable def fX7_earnsOf  (x1 : Int32) (I : gI) (J : gJ) : Option (Int32 × gI × gJ) :=
  bd (fX7_name x1 (I 1 9) I) (fun (I1 : gI) => bd (fX7_says (I1 1 2) (1 : Int32) (1 : Int32) (-9 : Int32) (9 : Int32) I1 J) (pr (fun (u4 : Int32) => pr (fun (I5 : gI) (J6 : gJ) => some (u4, I5, J6)))))
set_option maxHeartbeats 4000000 in
set_option maxRecDepth 100000 in
theorem kX7_earnsOf {l : Launch} {G : gG} {ad : Nat → Nat} (hok : gInj LM ad)    (x1 : Int32) (I : gI) (J : gJ) (r : Int32) (I' : gI) (J' : gJ) (h : fX7_earnsOf x1 I J = some (r, I', J')) : gMi l yX7_earnsOf cX7_earnsOf 2 (some .int) 5 G LM ad [.ref (ad 0), .int x1] I J r True I' J' := by
  refine gMi_of (lst := [(0, .ref (ad 0)), (1, .int x1)]) (by decide) hok (Nat.le_of_ble_eq_true rfl) rfl ?_
  intro p e s m args below meth c Q ls K hW hl hfin
  have hn : (some (r, I', J') : Option (Int32 × gI × gJ)) ≠ none := Option.some_ne_none _
  have hx := K.1; have hb := K.2.1; have hown := K.2.2.2.1; have hts := K.2.2.2.2.1
  unfold fX7_earnsOf at h
  refine lv_aload_n hx hb dX7_earnsOf_0 rfl (lv_at hl 0 rfl) ?_
  refine lv_iload_n hx hb dX7_earnsOf_1 rfl (lv_at hl 1 rfl) ?_
  refine lv_aload_n hx hb dX7_earnsOf_2 rfl (lv_at hl 0 rfl) ?_
  refine g_get K hW (t := 2) (ci := 6) (k := 0) (v := .ref (ad 1)) kLM_0 rfl rfl i_X7 (by decide) q_1077 rfl (gfv2 rLM_0_0) dX7_earnsOf_3 ?_
  refine lv_bipush (v := (9 : Int32)) hx hb dX7_earnsOf_6 (by decide) ?_
  refine g_iald K hW kLM_1 in_9_1592 tn_9 dX7_earnsOf_8 ?_
  obtain ⟨I1, e2, h⟩ := bd_o h hn
  refine g_callVv (rest := []) K hW hl (kX7_name (l := l) (G := G) (ad := ad) hok x1 (I 1 9) I J I1 e2) kLM_0 rfl (gG_V q_1378 q_1380 q_87 q_139 q_1381) nm_X7_name ⟨Nat.le_of_ble_eq_true rfl, Nat.le_of_ble_eq_true rfl⟩ rfl rfl (Nat.le_of_ble_eq_true rfl) ⟨Nat.zero_le _, Nat.zero_le _⟩ dX7_earnsOf_9 (fun H locs hW => ?_)
  refine lv_aload_n hx hb dX7_earnsOf_12 rfl (lv_at hl 0 rfl) ?_
  refine lv_aload_n hx hb dX7_earnsOf_13 rfl (lv_at hl 0 rfl) ?_
  refine g_get K hW (t := 2) (ci := 6) (k := 0) (v := .ref (ad 1)) kLM_0 rfl rfl i_X7 (by decide) q_1077 rfl (gfv2 rLM_0_0) dX7_earnsOf_14 ?_
  refine lv_iconst (v := (2 : Int32)) hx hb dX7_earnsOf_17 (by decide) ?_
  refine g_iald K hW kLM_1 in_2_1592 tn_2 dX7_earnsOf_18 ?_
  refine lv_iconst (v := (1 : Int32)) hx hb dX7_earnsOf_19 (by decide) ?_
  refine lv_iconst (v := (1 : Int32)) hx hb dX7_earnsOf_20 (by decide) ?_
  refine lv_bipush (v := (-9 : Int32)) hx hb dX7_earnsOf_21 (by decide) ?_
  refine lv_bipush (v := (9 : Int32)) hx hb dX7_earnsOf_23 (by decide) ?_
  obtain ⟨⟨u4, I5, J6⟩, e7, h⟩ := bd_o h hn
  replace h := pr_o h
  replace h := pr_o h
  refine g_callVi (rest := []) K hW hl (kX7_says (l := l) (G := G) (ad := ad) hok (I1 1 2) (1 : Int32) (1 : Int32) (-9 : Int32) (9 : Int32) I1 J u4 I5 J6 e7) kLM_0 rfl (gG_V q_1393 q_1395 q_90 q_139 q_1396) nm_X7_says ⟨Nat.le_of_ble_eq_true rfl, Nat.le_of_ble_eq_true rfl⟩ rfl rfl (Nat.le_of_ble_eq_true rfl) ⟨Nat.zero_le _, Nat.zero_le _⟩ dX7_earnsOf_25 (fun z8 H locs hW => ?_)
  obtain ⟨a1, a2, a3⟩ := so3 h
  replace hW := gWd_nI a2 hW
  replace hW := gWd_nJ a3 hW
  exact g_nmi a1 (hfin _ _ _ _ hW dX7_earnsOf_28)
theorem in_10_1592 : vp_in (10 : Int32) 1592 := in_c (by decide +kernel) (by decide +kernel)
theorem tn_10 : (10 : Int32).toNatClampNeg = 10 := by decide +kernel
noncomputable def fX7_write_23b  (rec : Int32 → Int32 → Int32 → Int32 → gI → Option ((gI))) (u12 : Int32) (u13 : Int32) (u14 : Int32) (u15 : Int32) (I : gI) : Option ((gI)) :=
  gi ((25 : Int32) ≤ u15)
 (some I)
 (gd (vp_in ((1567 : Int32) + u15) 1592) (gd (vp_in (((1567 : Int32) + u15) - (1 : Int32)) 1592) (lz (wI I 1 ((((1567 : Int32) + u15) - (1 : Int32))).toNatClampNeg (I 1 (((1567 : Int32) + u15)).toNatClampNeg)) (fun (I21 : gI) => lz ((u15 + (1 : Int32))) (fun (u22 : Int32) => rec u12 u13 u14 u22 I21)))))
noncomputable def fX7_write_23  : Nat → Int32 → Int32 → Int32 → Int32 → gI → Option ((gI))
  | 0 => fun _ _ _ _ _ => none
  | n + 1 => fX7_write_23b  (fX7_write_23  n)
set_option maxHeartbeats 4000000 in
set_option maxRecDepth 100000 in
theorem tX7_write_23 {l : Launch} {G : gG} {ad : Nat → Nat} {p : Program} {e : Env} {s : State} {m : MethodId} {args : Array Value} {below : List Frame} {meth : Method} {c : Code} {Q : State → Prop} (hok : gInj LM ad) (K : gCx G (gA LM ad) p s m args c cX7_write 5 RX7)  : ∀ (n : Nat) (u12 : Int32) (u13 : Int32) (u14 : Int32) (u15 : Int32) (I : gI) (J : gJ) (out : Option ((gI))), fX7_write_23  n u12 u13 u14 u15 I = out → out ≠ none → ∀ (H : Heap) (locs : List Loc), gWd G LM ad (gA LM ad) s.heap I J H locs → ∀ (ls : Array Slot), lv_has ls 5 [(0, .ref (ad 0)), (1, .int u12), (2, .int u13), (3, .int u14), (4, .int u15)] → (∀ (I16 : gI), some I16 = out → ∀ (H : Heap) (locs : List Loc), gWd G LM ad (gA LM ad) s.heap I16 J H locs → ∀ (ls : Array Slot), lv_has ls 5 [(0, .ref (ad 0)), (1, .int u12), (2, .int u13), (3, .int u14)] → W p l e (gRm 1) s m args below meth c H locs 0 0 Q (F0 m 60 ls [])) → W p l e (gRm 1) s m args below meth c H locs 0 0 Q (F0 m 23 ls []) := by
  have hx := K.1; have hb := K.2.1; have hown := K.2.2.2.1; have hts := K.2.2.2.2.1
  intro n
  induction n with
  | zero => intro u12 u13 u14 u15 I J out h hn; exact absurd h.symm hn
  | succ n ih =>
    intro u12 u13 u14 u15 I J out h hn H locs hW ls hl hx1
    replace h : fX7_write_23b  (fX7_write_23  n) u12 u13 u14 u15 I = out := h
    unfold fX7_write_23b at h
    refine lv_iload hx hb dX7_write_23 (lv_at hl 4 rfl) ?_
    refine lv_bipush (v := (25 : Int32)) hx hb dX7_write_25 (by decide) ?_
    refine lv_icmp_ge (tgt := 60) hx hb dX7_write_27 (by decide) (fun c17 => ?_) (fun c17 => ?_)
    · replace h := gi_t h c17
      exact hx1 I h _ _ hW _ (lv_sub hl [0, 1, 2, 3] rfl)
    · replace h := gi_f h c17
      refine lv_aload_n hx hb dX7_write_30 rfl (lv_at hl 0 rfl) ?_
      refine g_get K hW (t := 2) (ci := 6) (k := 0) (v := .ref (ad 1)) kLM_0 rfl rfl i_X7 (by decide) q_1077 rfl (gfv2 rLM_0_0) dX7_write_31 ?_
      refine lv_sipush (v := (1567 : Int32)) hx hb dX7_write_34 (by decide) ?_
      refine lv_iload hx hb dX7_write_37 (lv_at hl 4 rfl) ?_
      refine lv_iadd hx hb dX7_write_39 ?_
      refine lv_iconst (v := (1 : Int32)) hx hb dX7_write_40 (by decide) ?_
      refine lv_isub hx hb dX7_write_41 ?_
      refine lv_aload_n hx hb dX7_write_42 rfl (lv_at hl 0 rfl) ?_
      refine g_get K hW (t := 2) (ci := 6) (k := 0) (v := .ref (ad 1)) kLM_0 rfl rfl i_X7 (by decide) q_1077 rfl (gfv2 rLM_0_0) dX7_write_43 ?_
      refine lv_sipush (v := (1567 : Int32)) hx hb dX7_write_46 (by decide) ?_
      refine lv_iload hx hb dX7_write_49 (lv_at hl 4 rfl) ?_
      refine lv_iadd hx hb dX7_write_51 ?_
      obtain ⟨g18, h⟩ := gd_o h hn
      refine g_iald K hW kLM_1 g18 rfl dX7_write_52 ?_
      obtain ⟨g19, h⟩ := gd_o h hn
      refine g_iast K hW kLM_1 g19 rfl dX7_write_53 (fun H locs hW => ?_)
      obtain ⟨I21, e20, h⟩ := lz_o h
      replace hW := gWd_nI e20 hW
      obtain ⟨u22, e23, h⟩ := lz_o h
      refine lv_iinc (v := u22) (lv' := [(4, .int u22), (0, .ref (ad 0)), (1, .int u12), (2, .int u13), (3, .int u14)]) hx hb dX7_write_54 hl (k := 4) rfl (by rw [e23]; rfl) (by decide) rfl (fun ls hl => ?_)
      refine lv_goto (tgt := 23) hx hb dX7_write_57 (by decide) ?_
      exact ih u12 u13 u14 u22 I21 J _ h hn _ _ hW _ (lv_sub hl [1, 2, 3, 4, 0] rfl) hx1
noncomputable def fX7_write  (x1 : Int32) (x2 : Int32) (x3 : Int32) (I : gI) : Option (gI) :=
  gi ((I 0 23) = 0)
 (some I)
 (lz (fun (I2 : gI) => gd (vp_in ((1567 : Int32) + (I2 1 10)) 1592) (lz (wI I2 1 (((1567 : Int32) + (I2 1 10))).toNatClampNeg (((((((I2 1 6) * (5 : Int32)) + x1) * (12 : Int32)) + x2) * (100 : Int32)) + x3)) (fun (I8 : gI) => lz (wI I8 1 10 ((I8 1 10) + (1 : Int32))) (fun (I10 : gI) => some I10)))) (fun j3 => gi ((I 1 10) = (25 : Int32))
 (bd (fX7_write_23 FU x1 x2 x3 (1 : Int32) I) (fun (I26 : gI) => lz (wI I26 1 10 ((I26 1 10) - (1 : Int32))) (fun (I29 : gI) => j3 I29)))
 (j3 I)))
set_option maxHeartbeats 4000000 in
set_option maxRecDepth 100000 in
theorem kX7_write {l : Launch} {G : gG} {ad : Nat → Nat} (hok : gInj LM ad)    (x1 : Int32) (x2 : Int32) (x3 : Int32) (I : gI) (J : gJ) (I' : gI) (h : fX7_write x1 x2 x3 I = some I') : gMv l yX7_write cX7_write 5 none 1 G LM ad [.ref (ad 0), .int x1, .int x2, .int x3] I J I' J := by
  refine gMv_of (lst := [(0, .ref (ad 0)), (1, .int x1), (2, .int x2), (3, .int x3)]) (by decide) hok (Nat.le_of_ble_eq_true rfl) rfl ?_
  intro p e s m args below meth c Q ls K hW hl hfin
  have hn : (some I' : Option (gI)) ≠ none := Option.some_ne_none _
  have hx := K.1; have hb := K.2.1; have hown := K.2.2.2.1; have hts := K.2.2.2.2.1
  unfold fX7_write at h
  refine lv_aload_n hx hb dX7_write_0 rfl (lv_at hl 0 rfl) ?_
  refine g_get K hW (t := 0) (ci := 6) (k := 23) (v := .int (I 0 23)) kLM_0 rfl rfl i_X7 (by decide) q_1100 rfl rfl dX7_write_1 ?_
  refine lv_if_ne (tgt := 8) hx hb dX7_write_4 (by decide) (fun c1 => ?_) (fun c1 => ?_)
  · replace h := gi_f h c1
    refine lv_aload_n hx hb dX7_write_8 rfl (lv_at hl 0 rfl) ?_
    refine g_get K hW (t := 2) (ci := 6) (k := 0) (v := .ref (ad 1)) kLM_0 rfl rfl i_X7 (by decide) q_1077 rfl (gfv2 rLM_0_0) dX7_write_9 ?_
    refine lv_bipush (v := (10 : Int32)) hx hb dX7_write_12 (by decide) ?_
    refine g_iald K hW kLM_1 in_10_1592 tn_10 dX7_write_14 ?_
    refine lv_bipush (v := (25 : Int32)) hx hb dX7_write_15 (by decide) ?_
    obtain ⟨j3, e4, h⟩ := lz_o h
    have hj5 : ∀ (I2 : gI), j3 I2 = (some I') → ∀ (H : Heap) (locs : List Loc), gWd G LM ad (gA LM ad) s.heap I2 J H locs → ∀ (ls : Array Slot), lv_has ls 5 [(0, .ref (ad 0)), (1, .int x1), (2, .int x2), (3, .int x3)] → W p l e (gRm 1) s m args below meth c H locs 0 0 Q (F0 m 71 ls []) := by
      intro I2 h H locs hW ls hl
      replace h := jn1 e4 h
      refine lv_aload_n hx hb dX7_write_71 rfl (lv_at hl 0 rfl) ?_
      refine g_get K hW (t := 2) (ci := 6) (k := 0) (v := .ref (ad 1)) kLM_0 rfl rfl i_X7 (by decide) q_1077 rfl (gfv2 rLM_0_0) dX7_write_72 ?_
      refine lv_sipush (v := (1567 : Int32)) hx hb dX7_write_75 (by decide) ?_
      refine lv_aload_n hx hb dX7_write_78 rfl (lv_at hl 0 rfl) ?_
      refine g_get K hW (t := 2) (ci := 6) (k := 0) (v := .ref (ad 1)) kLM_0 rfl rfl i_X7 (by decide) q_1077 rfl (gfv2 rLM_0_0) dX7_write_79 ?_
      refine lv_bipush (v := (10 : Int32)) hx hb dX7_write_82 (by decide) ?_
      refine g_iald K hW kLM_1 in_10_1592 tn_10 dX7_write_84 ?_
      refine lv_iadd hx hb dX7_write_85 ?_
      refine lv_aload_n hx hb dX7_write_86 rfl (lv_at hl 0 rfl) ?_
      refine g_get K hW (t := 2) (ci := 6) (k := 0) (v := .ref (ad 1)) kLM_0 rfl rfl i_X7 (by decide) q_1077 rfl (gfv2 rLM_0_0) dX7_write_87 ?_
      refine lv_bipush (v := (6 : Int32)) hx hb dX7_write_90 (by decide) ?_
      refine g_iald K hW kLM_1 in_6_1592 tn_6 dX7_write_92 ?_
      refine lv_iconst (v := (5 : Int32)) hx hb dX7_write_93 (by decide) ?_
      refine lv_imul hx hb dX7_write_94 ?_
      refine lv_iload_n hx hb dX7_write_95 rfl (lv_at hl 1 rfl) ?_
      refine lv_iadd hx hb dX7_write_96 ?_
      refine lv_bipush (v := (12 : Int32)) hx hb dX7_write_97 (by decide) ?_
      refine lv_imul hx hb dX7_write_99 ?_
      refine lv_iload_n hx hb dX7_write_100 rfl (lv_at hl 2 rfl) ?_
      refine lv_iadd hx hb dX7_write_101 ?_
      refine lv_bipush (v := (100 : Int32)) hx hb dX7_write_102 (by decide) ?_
      refine lv_imul hx hb dX7_write_104 ?_
      refine lv_iload_n hx hb dX7_write_105 rfl (lv_at hl 3 rfl) ?_
      refine lv_iadd hx hb dX7_write_106 ?_
      obtain ⟨g6, h⟩ := gd_o h hn
      refine g_iast K hW kLM_1 g6 rfl dX7_write_107 (fun H locs hW => ?_)
      obtain ⟨I8, e7, h⟩ := lz_o h
      replace hW := gWd_nI e7 hW
      refine lv_aload_n hx hb dX7_write_108 rfl (lv_at hl 0 rfl) ?_
      refine g_get K hW (t := 2) (ci := 6) (k := 0) (v := .ref (ad 1)) kLM_0 rfl rfl i_X7 (by decide) q_1077 rfl (gfv2 rLM_0_0) dX7_write_109 ?_
      refine lv_bipush (v := (10 : Int32)) hx hb dX7_write_112 (by decide) ?_
      refine lv_dup2_11 hx hb dX7_write_114 rfl rfl ?_
      refine g_iald K hW kLM_1 in_10_1592 tn_10 dX7_write_115 ?_
      refine lv_iconst (v := (1 : Int32)) hx hb dX7_write_116 (by decide) ?_
      refine lv_iadd hx hb dX7_write_117 ?_
      refine g_iast K hW kLM_1 in_10_1592 tn_10 dX7_write_118 (fun H locs hW => ?_)
      obtain ⟨I10, e9, h⟩ := lz_o h
      replace hW := gWd_nI e9 hW
      obtain a1 := so1 h
      replace hW := gWd_nI a1 hW
      exact hfin _ _ _ _ hW dX7_write_119
    refine lv_icmp_ne (tgt := 71) hx hb dX7_write_17 (by decide) (fun c11 => ?_) (fun c11 => ?_)
    · replace h := gi_f h c11
      exact hj5 I h _ _ hW _ (lv_sub hl [0, 1, 2, 3] rfl)
    · replace h := gi_t h c11
      refine lv_iconst (v := (1 : Int32)) hx hb dX7_write_20 (by decide) ?_
      refine lv_istore (lv' := [(4, .int (1 : Int32)), (0, .ref (ad 0)), (1, .int x1), (2, .int x2), (3, .int x3)]) hx hb dX7_write_21 hl (by decide) rfl (fun ls hl => ?_)
      obtain ⟨r24, e25, h⟩ := bd_o h hn
      refine tX7_write_23 hok K FU x1 x2 x3 (1 : Int32) I J (some r24) e25 (Option.some_ne_none _) _ _ hW _ (lv_sub hl [1, 2, 3, 4, 0] rfl) ?_
      · intro I26 q27 H locs hW ls hl
        replace q27 := Option.some.inj q27
        subst q27
        refine lv_aload_n hx hb dX7_write_60 rfl (lv_at hl 0 rfl) ?_
        refine g_get K hW (t := 2) (ci := 6) (k := 0) (v := .ref (ad 1)) kLM_0 rfl rfl i_X7 (by decide) q_1077 rfl (gfv2 rLM_0_0) dX7_write_61 ?_
        refine lv_bipush (v := (10 : Int32)) hx hb dX7_write_64 (by decide) ?_
        refine lv_dup2_11 hx hb dX7_write_66 rfl rfl ?_
        refine g_iald K hW kLM_1 in_10_1592 tn_10 dX7_write_67 ?_
        refine lv_iconst (v := (1 : Int32)) hx hb dX7_write_68 (by decide) ?_
        refine lv_isub hx hb dX7_write_69 ?_
        refine g_iast K hW kLM_1 in_10_1592 tn_10 dX7_write_70 (fun H locs hW => ?_)
        obtain ⟨I29, e28, h⟩ := lz_o h
        replace hW := gWd_nI e28 hW
        exact hj5 I29 h _ _ hW _ (lv_sub hl [0, 1, 2, 3] rfl)
  · replace h := gi_t h c1
    obtain a1 := so1 h
    replace hW := gWd_nI a1 hW
    exact hfin _ _ _ _ hW dX7_write_7
theorem in_7_1592 : vp_in (7 : Int32) 1592 := in_c (by decide +kernel) (by decide +kernel)
noncomputable def fX7_anew   (I : gI) : gI :=
  lz (wI I 1 7 ((jlrem ((((I 1 7)).toInt64 * (719 : Int64)) + (587 : Int64)) (31039 : Int64))).toInt32) (fun (I2 : gI) => I2)
set_option maxHeartbeats 4000000 in
set_option maxRecDepth 100000 in
theorem kX7_anew {l : Launch} {G : gG} {ad : Nat → Nat} (hok : gInj LM ad)     (I : gI) (J : gJ) (I' : gI) (h : fX7_anew I = I') : gMv l yX7_anew cX7_anew 1 none 1 G LM ad [.ref (ad 0)] I J I' J := by
  refine gMv_of (lst := [(0, .ref (ad 0))]) (by decide) hok (Nat.le_of_ble_eq_true rfl) rfl ?_
  intro p e s m args below meth c Q ls K hW hl hfin
  have hx := K.1; have hb := K.2.1; have hown := K.2.2.2.1; have hts := K.2.2.2.2.1
  unfold fX7_anew at h
  refine lv_aload_n hx hb dX7_anew_0 rfl (lv_at hl 0 rfl) ?_
  refine g_get K hW (t := 2) (ci := 6) (k := 0) (v := .ref (ad 1)) kLM_0 rfl rfl i_X7 (by decide) q_1077 rfl (gfv2 rLM_0_0) dX7_anew_1 ?_
  refine lv_bipush (v := (7 : Int32)) hx hb dX7_anew_4 (by decide) ?_
  refine lv_aload_n hx hb dX7_anew_6 rfl (lv_at hl 0 rfl) ?_
  refine g_get K hW (t := 2) (ci := 6) (k := 0) (v := .ref (ad 1)) kLM_0 rfl rfl i_X7 (by decide) q_1077 rfl (gfv2 rLM_0_0) dX7_anew_7 ?_
  refine lv_bipush (v := (7 : Int32)) hx hb dX7_anew_10 (by decide) ?_
  refine g_iald K hW kLM_1 in_7_1592 tn_7 dX7_anew_12 ?_
  refine lv_i2l hx hb dX7_anew_13 rfl ?_
  refine lv_ldc2 (v := (719 : Int64)) hx hb hown (hts _ q_1502) dX7_anew_14 ?_
  refine lv_lmul hx hb dX7_anew_17 ?_
  refine lv_ldc2 (v := (587 : Int64)) hx hb hown (hts _ q_1503) dX7_anew_18 ?_
  refine lv_ladd hx hb dX7_anew_21 ?_
  refine lv_ldc2 (v := (31039 : Int64)) hx hb hown (hts _ q_1504) dX7_anew_22 ?_
  refine g_lrem hx hb dX7_anew_25 (by decide) ?_
  refine lv_l2i hx hb dX7_anew_26 rfl ?_
  refine g_iast K hW kLM_1 in_7_1592 tn_7 dX7_anew_27 (fun H locs hW => ?_)
  obtain ⟨I2, e1, h⟩ := lz_o h
  replace hW := gWd_nI e1 hW
  obtain a1 := h.symm
  replace hW := gWd_nI a1 hW
  exact hfin _ _ _ _ hW dX7_anew_28
theorem nm_X7_anew : gNm yX7_anew 0 := by decide +kernel
noncomputable def fX7_drawnBy  (x1 : Int32) (I : gI) : Option (Int32 × gI) :=
  gd (¬ x1 = 0) (lz ((jrem (I 1 7) x1)) (fun (u2 : Int32) => lz (fX7_anew I) (fun (I4 : gI) => some (u2, I4))))
set_option maxHeartbeats 4000000 in
set_option maxRecDepth 100000 in
theorem kX7_drawnBy {l : Launch} {G : gG} {ad : Nat → Nat} (hok : gInj LM ad)    (x1 : Int32) (I : gI) (J : gJ) (r : Int32) (I' : gI) (h : fX7_drawnBy x1 I = some (r, I')) : gMi l yX7_drawnBy cX7_drawnBy 3 (some .int) 2 G LM ad [.ref (ad 0), .int x1] I J r True I' J := by
  refine gMi_of (lst := [(0, .ref (ad 0)), (1, .int x1)]) (by decide) hok (Nat.le_of_ble_eq_true rfl) rfl ?_
  intro p e s m args below meth c Q ls K hW hl hfin
  have hn : (some (r, I') : Option (Int32 × gI)) ≠ none := Option.some_ne_none _
  have hx := K.1; have hb := K.2.1; have hown := K.2.2.2.1; have hts := K.2.2.2.2.1
  unfold fX7_drawnBy at h
  refine lv_aload_n hx hb dX7_drawnBy_0 rfl (lv_at hl 0 rfl) ?_
  refine g_get K hW (t := 2) (ci := 6) (k := 0) (v := .ref (ad 1)) kLM_0 rfl rfl i_X7 (by decide) q_1077 rfl (gfv2 rLM_0_0) dX7_drawnBy_1 ?_
  refine lv_bipush (v := (7 : Int32)) hx hb dX7_drawnBy_4 (by decide) ?_
  refine g_iald K hW kLM_1 in_7_1592 tn_7 dX7_drawnBy_6 ?_
  refine lv_iload_n hx hb dX7_drawnBy_7 rfl (lv_at hl 1 rfl) ?_
  obtain ⟨g1, h⟩ := gd_o h hn
  refine g_irem hx hb dX7_drawnBy_8 g1 ?_
  obtain ⟨u2, e3, h⟩ := lz_o h
  refine g_nmi e3 ?_
  refine lv_istore_n (lv' := [(2, .int u2), (0, .ref (ad 0)), (1, .int x1)]) hx hb dX7_drawnBy_9 rfl hl (by decide) rfl (fun ls hl => ?_)
  refine lv_aload_n hx hb dX7_drawnBy_10 rfl (lv_at hl 1 rfl) ?_
  obtain ⟨I4, e5, h⟩ := lz_o h
  refine g_callVv (rest := []) K hW hl (kX7_anew (l := l) (G := G) (ad := ad) hok I J I4 e5.symm) kLM_0 rfl (gG_V q_1498 q_1500 q_107 q_139 q_1501) nm_X7_anew ⟨Nat.le_of_ble_eq_true rfl, Nat.le_of_ble_eq_true rfl⟩ rfl rfl (Nat.le_of_ble_eq_true rfl) ⟨Nat.zero_le _, Nat.zero_le _⟩ dX7_drawnBy_11 (fun H locs hW => ?_)
  refine lv_iload_n hx hb dX7_drawnBy_14 rfl (lv_at hl 0 rfl) ?_
  obtain ⟨a1, a2⟩ := so2 h
  replace hW := gWd_nI a2 hW
  exact g_nmi a1 (hfin _ _ _ _ hW dX7_drawnBy_15)
theorem nm_X7_isBuyer : gNm yX7_isBuyer 1 := by decide +kernel
theorem nm_X7_slicesOf : gNm yX7_slicesOf 1 := by decide +kernel
theorem nm_X7_bidsNow : gNm yX7_bidsNow 1 := by decide +kernel
noncomputable def fX7_canSell  (x1 : Int32) (I : gI) (J : gJ) : Option (Int32 × gI × gJ) :=
  gi ((fX7_isBuyer x1 I) = 0)
 (some ((0 : Int32), I, J))
 (bd (fX7_doesWant x1 (I 1 9) I) (fun (u3 : Int32) => gi (u3 = 0)
 (some ((0 : Int32), I, J))
 (bd (fX7_slicesOf x1 I) (fun (u7 : Int32) => bd (fX7_freeNow I) (fun (u10 : Int32) => gi ((u7 &&& (u10 ^^^ (-1 : Int32))) = 0)
 (gd (vp_in ((23 : Int32) + x1) 1592) (bd (fX7_bidsNow x1 I J) (pr (fun (u15 : Int32) => pr (fun (I16 : gI) (J17 : gJ) => gi ((I 1 (((23 : Int32) + x1)).toNatClampNeg) < u15)
 (some ((0 : Int32), I16, J17))
 (some ((1 : Int32), I16, J17)))))))
 (some ((0 : Int32), I, J)))))))
set_option maxHeartbeats 4000000 in
set_option maxRecDepth 100000 in
theorem kX7_canSell {l : Launch} {G : gG} {ad : Nat → Nat} (hok : gInj LM ad)    (x1 : Int32) (I : gI) (J : gJ) (r : Int32) (I' : gI) (J' : gJ) (h : fX7_canSell x1 I J = some (r, I', J')) : gMi l yX7_canSell cX7_canSell 2 (some .boolean) 7 G LM ad [.ref (ad 0), .int x1] I J r (r = 0 ∨ r = 1) I' J' := by
  refine gMz_of (lst := [(0, .ref (ad 0)), (1, .int x1)]) (by decide) hok (Nat.le_of_ble_eq_true rfl) rfl ?_
  intro p e s m args below meth c Q ls K hW hl hfin
  have hn : (some (r, I', J') : Option (Int32 × gI × gJ)) ≠ none := Option.some_ne_none _
  have hx := K.1; have hb := K.2.1; have hown := K.2.2.2.1; have hts := K.2.2.2.2.1
  unfold fX7_canSell at h
  refine lv_aload_n hx hb dX7_canSell_0 rfl (lv_at hl 0 rfl) ?_
  refine lv_iload_n hx hb dX7_canSell_1 rfl (lv_at hl 1 rfl) ?_
  refine g_callVi (rest := []) K hW hl (kX7_isBuyer (l := l) (G := G) (ad := ad) hok x1 I J (fX7_isBuyer x1 I) rfl) kLM_0 rfl (gG_V q_1350 q_1352 q_80 q_139 q_1353) nm_X7_isBuyer ⟨Nat.le_of_ble_eq_true rfl, Nat.le_of_ble_eq_true rfl⟩ rfl rfl (Nat.le_of_ble_eq_true rfl) ⟨Nat.zero_le _, Nat.zero_le _⟩ dX7_canSell_2 (fun z1 H locs hW => ?_)
  refine lv_if_eq (tgt := 59) hx hb dX7_canSell_5 (by decide) (fun c2 => ?_) (fun c2 => ?_)
  · replace h := gi_t h c2
    refine lv_iconst (v := (0 : Int32)) hx hb dX7_canSell_59 (by decide) ?_
    obtain ⟨a1, a2, a3⟩ := so3 h
    replace hW := gWd_nI a2 hW
    replace hW := gWd_nJ a3 hW
    exact g_nmi a1 (hfin _ _ _ _ (a1 ▸ (Or.inl rfl)) hW dX7_canSell_60)
  · replace h := gi_f h c2
    refine lv_aload_n hx hb dX7_canSell_8 rfl (lv_at hl 0 rfl) ?_
    refine lv_iload_n hx hb dX7_canSell_9 rfl (lv_at hl 1 rfl) ?_
    refine lv_aload_n hx hb dX7_canSell_10 rfl (lv_at hl 0 rfl) ?_
    refine g_get K hW (t := 2) (ci := 6) (k := 0) (v := .ref (ad 1)) kLM_0 rfl rfl i_X7 (by decide) q_1077 rfl (gfv2 rLM_0_0) dX7_canSell_11 ?_
    refine lv_bipush (v := (9 : Int32)) hx hb dX7_canSell_14 (by decide) ?_
    refine g_iald K hW kLM_1 in_9_1592 tn_9 dX7_canSell_16 ?_
    obtain ⟨u3, e4, h⟩ := bd_o h hn
    refine g_callVi (rest := []) K hW hl (kX7_doesWant (l := l) (G := G) (ad := ad) hok x1 (I 1 9) I J u3 e4) kLM_0 rfl (gG_V q_1354 q_1356 q_81 q_139 q_1357) nm_X7_doesWant ⟨Nat.le_of_ble_eq_true rfl, Nat.le_of_ble_eq_true rfl⟩ rfl rfl (Nat.le_of_ble_eq_true rfl) ⟨Nat.zero_le _, Nat.zero_le _⟩ dX7_canSell_17 (fun z5 H locs hW => ?_)
    refine lv_if_eq (tgt := 59) hx hb dX7_canSell_20 (by decide) (fun c6 => ?_) (fun c6 => ?_)
    · replace h := gi_t h c6
      refine lv_iconst (v := (0 : Int32)) hx hb dX7_canSell_59 (by decide) ?_
      obtain ⟨a1, a2, a3⟩ := so3 h
      replace hW := gWd_nI a2 hW
      replace hW := gWd_nJ a3 hW
      exact g_nmi a1 (hfin _ _ _ _ (a1 ▸ (Or.inl rfl)) hW dX7_canSell_60)
    · replace h := gi_f h c6
      refine lv_aload_n hx hb dX7_canSell_23 rfl (lv_at hl 0 rfl) ?_
      refine lv_iload_n hx hb dX7_canSell_24 rfl (lv_at hl 1 rfl) ?_
      obtain ⟨u7, e8, h⟩ := bd_o h hn
      refine g_callVi (rest := []) K hW hl (kX7_slicesOf (l := l) (G := G) (ad := ad) hok x1 I J u7 e8) kLM_0 rfl (gG_V q_1358 q_1360 q_82 q_139 q_1361) nm_X7_slicesOf ⟨Nat.le_of_ble_eq_true rfl, Nat.le_of_ble_eq_true rfl⟩ rfl rfl (Nat.le_of_ble_eq_true rfl) ⟨Nat.zero_le _, Nat.zero_le _⟩ dX7_canSell_25 (fun z9 H locs hW => ?_)
      refine lv_aload_n hx hb dX7_canSell_28 rfl (lv_at hl 0 rfl) ?_
      obtain ⟨u10, e11, h⟩ := bd_o h hn
      refine g_callVi (rest := [.int u7]) K hW hl (kX7_freeNow (l := l) (G := G) (ad := ad) hok I J u10 e11) kLM_0 rfl (gG_V q_1366 q_1368 q_84 q_139 q_1369) nm_X7_freeNow ⟨Nat.le_of_ble_eq_true rfl, Nat.le_of_ble_eq_true rfl⟩ rfl rfl (Nat.le_of_ble_eq_true rfl) ⟨Nat.zero_le _, Nat.zero_le _⟩ dX7_canSell_29 (fun z12 H locs hW => ?_)
      refine lv_iconst (v := (-1 : Int32)) hx hb dX7_canSell_32 (by decide) ?_
      refine lv_ixor hx hb dX7_canSell_33 ?_
      refine lv_iand hx hb dX7_canSell_34 ?_
      refine lv_if_ne (tgt := 59) hx hb dX7_canSell_35 (by decide) (fun c13 => ?_) (fun c13 => ?_)
      · replace h := gi_f h c13
        refine lv_iconst (v := (0 : Int32)) hx hb dX7_canSell_59 (by decide) ?_
        obtain ⟨a1, a2, a3⟩ := so3 h
        replace hW := gWd_nI a2 hW
        replace hW := gWd_nJ a3 hW
        exact g_nmi a1 (hfin _ _ _ _ (a1 ▸ (Or.inl rfl)) hW dX7_canSell_60)
      · replace h := gi_t h c13
        refine lv_aload_n hx hb dX7_canSell_38 rfl (lv_at hl 0 rfl) ?_
        refine g_get K hW (t := 2) (ci := 6) (k := 0) (v := .ref (ad 1)) kLM_0 rfl rfl i_X7 (by decide) q_1077 rfl (gfv2 rLM_0_0) dX7_canSell_39 ?_
        refine lv_bipush (v := (23 : Int32)) hx hb dX7_canSell_42 (by decide) ?_
        refine lv_iload_n hx hb dX7_canSell_44 rfl (lv_at hl 1 rfl) ?_
        refine lv_iadd hx hb dX7_canSell_45 ?_
        obtain ⟨g14, h⟩ := gd_o h hn
        refine g_iald K hW kLM_1 g14 rfl dX7_canSell_46 ?_
        refine lv_aload_n hx hb dX7_canSell_47 rfl (lv_at hl 0 rfl) ?_
        refine lv_iload_n hx hb dX7_canSell_48 rfl (lv_at hl 1 rfl) ?_
        obtain ⟨⟨u15, I16, J17⟩, e18, h⟩ := bd_o h hn
        replace h := pr_o h
        replace h := pr_o h
        refine g_callVi (rest := [.int (I 1 (((23 : Int32) + x1)).toNatClampNeg)]) K hW hl (kX7_bidsNow (l := l) (G := G) (ad := ad) hok x1 I J u15 I16 J17 e18) kLM_0 rfl (gG_V q_1370 q_1372 q_85 q_139 q_1373) nm_X7_bidsNow ⟨Nat.le_of_ble_eq_true rfl, Nat.le_of_ble_eq_true rfl⟩ rfl rfl (Nat.le_of_ble_eq_true rfl) ⟨Nat.zero_le _, Nat.zero_le _⟩ dX7_canSell_49 (fun z19 H locs hW => ?_)
        refine lv_icmp_lt (tgt := 59) hx hb dX7_canSell_52 (by decide) (fun c20 => ?_) (fun c20 => ?_)
        · replace h := gi_t h c20
          refine lv_iconst (v := (0 : Int32)) hx hb dX7_canSell_59 (by decide) ?_
          obtain ⟨a1, a2, a3⟩ := so3 h
          replace hW := gWd_nI a2 hW
          replace hW := gWd_nJ a3 hW
          exact g_nmi a1 (hfin _ _ _ _ (a1 ▸ (Or.inl rfl)) hW dX7_canSell_60)
        · replace h := gi_f h c20
          refine lv_iconst (v := (1 : Int32)) hx hb dX7_canSell_55 (by decide) ?_
          refine lv_goto (tgt := 60) hx hb dX7_canSell_56 (by decide) ?_
          obtain ⟨a1, a2, a3⟩ := so3 h
          replace hW := gWd_nI a2 hW
          replace hW := gWd_nJ a3 hW
          exact g_nmi a1 (hfin _ _ _ _ (a1 ▸ (Or.inr rfl)) hW dX7_canSell_60)
theorem in_8_1592 : vp_in (8 : Int32) 1592 := in_c (by decide +kernel) (by decide +kernel)
theorem tn_8 : (8 : Int32).toNatClampNeg = 8 := by decide +kernel
theorem nm_X7_write : gNm yX7_write 3 := by decide +kernel
noncomputable def fX7_sellNow_52b  (rec : Int32 → Int32 → Int32 → gI → Option ((gI))) (u17 : Int32) (u18 : Int32) (u19 : Int32) (I : gI) : Option ((gI)) :=
  gd (vp_in ((51 : Int32) + u17) 1592) (gi ((I 1 (((51 : Int32) + u17)).toNatClampNeg) < u19)
 (some I)
 (gd (vp_in ((11 : Int32) + u19) 1592) (lz (wI I 1 (((11 : Int32) + u19)).toNatClampNeg u17) (fun (I25 : gI) => lz ((u19 + (1 : Int32))) (fun (u26 : Int32) => rec u17 u18 u26 I25)))))
noncomputable def fX7_sellNow_52  : Nat → Int32 → Int32 → Int32 → gI → Option ((gI))
  | 0 => fun _ _ _ _ => none
  | n + 1 => fX7_sellNow_52b  (fX7_sellNow_52  n)
set_option maxHeartbeats 4000000 in
set_option maxRecDepth 100000 in
theorem tX7_sellNow_52 {l : Launch} {G : gG} {ad : Nat → Nat} {p : Program} {e : Env} {s : State} {m : MethodId} {args : Array Value} {below : List Frame} {meth : Method} {c : Code} {Q : State → Prop} (hok : gInj LM ad) (K : gCx G (gA LM ad) p s m args c cX7_sellNow 4 RX7)  : ∀ (n : Nat) (u17 : Int32) (u18 : Int32) (u19 : Int32) (I : gI) (J : gJ) (out : Option ((gI))), fX7_sellNow_52  n u17 u18 u19 I = out → out ≠ none → ∀ (H : Heap) (locs : List Loc), gWd G LM ad (gA LM ad) s.heap I J H locs → ∀ (ls : Array Slot), lv_has ls 4 [(0, .ref (ad 0)), (1, .int u17), (2, .int u18), (3, .int u19)] → (∀ (I20 : gI), some I20 = out → ∀ (H : Heap) (locs : List Loc), gWd G LM ad (gA LM ad) s.heap I20 J H locs → ∀ (ls : Array Slot), lv_has ls 4 [(0, .ref (ad 0)), (1, .int u17), (2, .int u18)] → W p l e (gRm 7) s m args below meth c H locs 0 0 Q (F0 m 81 ls [])) → W p l e (gRm 7) s m args below meth c H locs 0 0 Q (F0 m 52 ls []) := by
  have hx := K.1; have hb := K.2.1; have hown := K.2.2.2.1; have hts := K.2.2.2.2.1
  intro n
  induction n with
  | zero => intro u17 u18 u19 I J out h hn; exact absurd h.symm hn
  | succ n ih =>
    intro u17 u18 u19 I J out h hn H locs hW ls hl hx1
    replace h : fX7_sellNow_52b  (fX7_sellNow_52  n) u17 u18 u19 I = out := h
    unfold fX7_sellNow_52b at h
    refine lv_iload_n hx hb dX7_sellNow_52 rfl (lv_at hl 3 rfl) ?_
    refine lv_aload_n hx hb dX7_sellNow_53 rfl (lv_at hl 0 rfl) ?_
    refine g_get K hW (t := 2) (ci := 6) (k := 0) (v := .ref (ad 1)) kLM_0 rfl rfl i_X7 (by decide) q_1077 rfl (gfv2 rLM_0_0) dX7_sellNow_54 ?_
    refine lv_bipush (v := (51 : Int32)) hx hb dX7_sellNow_57 (by decide) ?_
    refine lv_iload_n hx hb dX7_sellNow_59 rfl (lv_at hl 1 rfl) ?_
    refine lv_iadd hx hb dX7_sellNow_60 ?_
    obtain ⟨g21, h⟩ := gd_o h hn
    refine g_iald K hW kLM_1 g21 rfl dX7_sellNow_61 ?_
    refine lv_icmp_gt (tgt := 81) hx hb dX7_sellNow_62 (by decide) (fun c22 => ?_) (fun c22 => ?_)
    · replace h := gi_t h c22
      exact hx1 I h _ _ hW _ (lv_sub hl [0, 1, 2] rfl)
    · replace h := gi_f h c22
      refine lv_aload_n hx hb dX7_sellNow_65 rfl (lv_at hl 0 rfl) ?_
      refine g_get K hW (t := 2) (ci := 6) (k := 0) (v := .ref (ad 1)) kLM_0 rfl rfl i_X7 (by decide) q_1077 rfl (gfv2 rLM_0_0) dX7_sellNow_66 ?_
      refine lv_bipush (v := (11 : Int32)) hx hb dX7_sellNow_69 (by decide) ?_
      refine lv_iload_n hx hb dX7_sellNow_71 rfl (lv_at hl 3 rfl) ?_
      refine lv_iadd hx hb dX7_sellNow_72 ?_
      refine lv_iload_n hx hb dX7_sellNow_73 rfl (lv_at hl 1 rfl) ?_
      obtain ⟨g23, h⟩ := gd_o h hn
      refine g_iast K hW kLM_1 g23 rfl dX7_sellNow_74 (fun H locs hW => ?_)
      obtain ⟨I25, e24, h⟩ := lz_o h
      replace hW := gWd_nI e24 hW
      obtain ⟨u26, e27, h⟩ := lz_o h
      refine lv_iinc (v := u26) (lv' := [(3, .int u26), (0, .ref (ad 0)), (1, .int u17), (2, .int u18)]) hx hb dX7_sellNow_75 hl (k := 3) rfl (by rw [e27]; rfl) (by decide) rfl (fun ls hl => ?_)
      refine lv_goto (tgt := 52) hx hb dX7_sellNow_78 (by decide) ?_
      exact ih u17 u18 u26 I25 J _ h hn _ _ hW _ (lv_sub hl [1, 2, 3, 0] rfl) hx1
noncomputable def fX7_sellNow  (x1 : Int32) (I : gI) (J : gJ) : Option (Int32 × gI × gJ) :=
  bd (fX7_bidsNow x1 I J) (pr (fun (u1 : Int32) => pr (fun (I2 : gI) (J3 : gJ) => lz (((23 : Int32) + x1)) (fun (u6 : Int32) => gd (vp_in u6 1592) (lz (wI I2 1 (u6).toNatClampNeg ((I2 1 (u6).toNatClampNeg) - u1)) (fun (I10 : gI) => lz (wI I10 1 8 (fX7_held (((I10 1 8) + u1)).toInt64 (0 : Int32) (99999 : Int32))) (fun (I13 : gI) => gd (vp_in ((45 : Int32) + x1) 1592) (lz ((I13 1 (((45 : Int32) + x1)).toNatClampNeg)) (fun (u15 : Int32) => bd (fX7_sellNow_52 FU x1 u1 u15 I13) (fun (I30 : gI) => bd (fX7_write (0 : Int32) x1 u1 I30) (fun (I32 : gI) => some (u1, I32, J3))))))))))))
set_option maxHeartbeats 4000000 in
set_option maxRecDepth 100000 in
theorem kX7_sellNow {l : Launch} {G : gG} {ad : Nat → Nat} (hok : gInj LM ad)    (x1 : Int32) (I : gI) (J : gJ) (r : Int32) (I' : gI) (J' : gJ) (h : fX7_sellNow x1 I J = some (r, I', J')) : gMi l yX7_sellNow cX7_sellNow 4 (some .int) 7 G LM ad [.ref (ad 0), .int x1] I J r True I' J' := by
  refine gMi_of (lst := [(0, .ref (ad 0)), (1, .int x1)]) (by decide) hok (Nat.le_of_ble_eq_true rfl) rfl ?_
  intro p e s m args below meth c Q ls K hW hl hfin
  have hn : (some (r, I', J') : Option (Int32 × gI × gJ)) ≠ none := Option.some_ne_none _
  have hx := K.1; have hb := K.2.1; have hown := K.2.2.2.1; have hts := K.2.2.2.2.1
  unfold fX7_sellNow at h
  refine lv_aload_n hx hb dX7_sellNow_0 rfl (lv_at hl 0 rfl) ?_
  refine lv_iload_n hx hb dX7_sellNow_1 rfl (lv_at hl 1 rfl) ?_
  obtain ⟨⟨u1, I2, J3⟩, e4, h⟩ := bd_o h hn
  replace h := pr_o h
  replace h := pr_o h
  refine g_callVi (rest := []) K hW hl (kX7_bidsNow (l := l) (G := G) (ad := ad) hok x1 I J u1 I2 J3 e4) kLM_0 rfl (gG_V q_1370 q_1372 q_85 q_139 q_1373) nm_X7_bidsNow ⟨Nat.le_of_ble_eq_true rfl, Nat.le_of_ble_eq_true rfl⟩ rfl rfl (Nat.le_of_ble_eq_true rfl) ⟨Nat.zero_le _, Nat.zero_le _⟩ dX7_sellNow_2 (fun z5 H locs hW => ?_)
  refine lv_istore_n (lv' := [(2, .int u1), (0, .ref (ad 0)), (1, .int x1)]) hx hb dX7_sellNow_5 rfl hl (by decide) rfl (fun ls hl => ?_)
  refine lv_aload_n hx hb dX7_sellNow_6 rfl (lv_at hl 1 rfl) ?_
  refine g_get K hW (t := 2) (ci := 6) (k := 0) (v := .ref (ad 1)) kLM_0 rfl rfl i_X7 (by decide) q_1077 rfl (gfv2 rLM_0_0) dX7_sellNow_7 ?_
  refine lv_bipush (v := (23 : Int32)) hx hb dX7_sellNow_10 (by decide) ?_
  refine lv_iload_n hx hb dX7_sellNow_12 rfl (lv_at hl 2 rfl) ?_
  refine lv_iadd hx hb dX7_sellNow_13 ?_
  obtain ⟨u6, e7, h⟩ := lz_o h
  refine g_nmi e7 ?_
  refine lv_dup2_11 hx hb dX7_sellNow_14 rfl rfl ?_
  obtain ⟨g8, h⟩ := gd_o h hn
  refine g_iald K hW kLM_1 g8 rfl dX7_sellNow_15 ?_
  refine lv_iload_n hx hb dX7_sellNow_16 rfl (lv_at hl 0 rfl) ?_
  refine lv_isub hx hb dX7_sellNow_17 ?_
  refine g_iast K hW kLM_1 g8 rfl dX7_sellNow_18 (fun H locs hW => ?_)
  obtain ⟨I10, e9, h⟩ := lz_o h
  replace hW := gWd_nI e9 hW
  refine lv_aload_n hx hb dX7_sellNow_19 rfl (lv_at hl 1 rfl) ?_
  refine g_get K hW (t := 2) (ci := 6) (k := 0) (v := .ref (ad 1)) kLM_0 rfl rfl i_X7 (by decide) q_1077 rfl (gfv2 rLM_0_0) dX7_sellNow_20 ?_
  refine lv_bipush (v := (8 : Int32)) hx hb dX7_sellNow_23 (by decide) ?_
  refine lv_aload_n hx hb dX7_sellNow_25 rfl (lv_at hl 1 rfl) ?_
  refine g_get K hW (t := 2) (ci := 6) (k := 0) (v := .ref (ad 1)) kLM_0 rfl rfl i_X7 (by decide) q_1077 rfl (gfv2 rLM_0_0) dX7_sellNow_26 ?_
  refine lv_bipush (v := (8 : Int32)) hx hb dX7_sellNow_29 (by decide) ?_
  refine g_iald K hW kLM_1 in_8_1592 tn_8 dX7_sellNow_31 ?_
  refine lv_iload_n hx hb dX7_sellNow_32 rfl (lv_at hl 0 rfl) ?_
  refine lv_iadd hx hb dX7_sellNow_33 ?_
  refine lv_i2l hx hb dX7_sellNow_34 rfl ?_
  refine lv_iconst (v := (0 : Int32)) hx hb dX7_sellNow_35 (by decide) ?_
  refine lv_ldc (v := (99999 : Int32)) hx hb hown (hts _ q_1212) dX7_sellNow_36 ?_
  refine g_callSi (rest := [.int (8 : Int32), .ref (ad 1)]) K hW hl (kX7_held (l := l) (G := G) (ad := ad) hok (((I10 1 8) + u1)).toInt64 (0 : Int32) (99999 : Int32) I10 J3 (fX7_held (((I10 1 8) + u1)).toInt64 (0 : Int32) (99999 : Int32)) rfl) q_1420 q_1421 q_139 q_1422 nm_X7_held ⟨Nat.le_of_ble_eq_true rfl, Nat.le_of_ble_eq_true rfl⟩ rfl rfl (Nat.le_of_ble_eq_true rfl) ⟨Nat.zero_le _, Nat.zero_le _⟩ dX7_sellNow_38 (fun z11 H locs hW => ?_)
  refine g_iast K hW kLM_1 in_8_1592 tn_8 dX7_sellNow_41 (fun H locs hW => ?_)
  obtain ⟨I13, e12, h⟩ := lz_o h
  replace hW := gWd_nI e12 hW
  refine lv_aload_n hx hb dX7_sellNow_42 rfl (lv_at hl 1 rfl) ?_
  refine g_get K hW (t := 2) (ci := 6) (k := 0) (v := .ref (ad 1)) kLM_0 rfl rfl i_X7 (by decide) q_1077 rfl (gfv2 rLM_0_0) dX7_sellNow_43 ?_
  refine lv_bipush (v := (45 : Int32)) hx hb dX7_sellNow_46 (by decide) ?_
  refine lv_iload_n hx hb dX7_sellNow_48 rfl (lv_at hl 2 rfl) ?_
  refine lv_iadd hx hb dX7_sellNow_49 ?_
  obtain ⟨g14, h⟩ := gd_o h hn
  refine g_iald K hW kLM_1 g14 rfl dX7_sellNow_50 ?_
  obtain ⟨u15, e16, h⟩ := lz_o h
  refine g_nmi e16 ?_
  refine lv_istore_n (lv' := [(3, .int u15), (2, .int u1), (0, .ref (ad 0)), (1, .int x1)]) hx hb dX7_sellNow_51 rfl hl (by decide) rfl (fun ls hl => ?_)
  obtain ⟨r28, e29, h⟩ := bd_o h hn
  refine tX7_sellNow_52 hok K FU x1 u1 u15 I13 J3 (some r28) e29 (Option.some_ne_none _) _ _ hW _ (lv_sub hl [2, 3, 1, 0] rfl) ?_
  · intro I30 q31 H locs hW ls hl
    replace q31 := Option.some.inj q31
    subst q31
    refine lv_aload_n hx hb dX7_sellNow_81 rfl (lv_at hl 0 rfl) ?_
    refine lv_iconst (v := (0 : Int32)) hx hb dX7_sellNow_82 (by decide) ?_
    refine lv_iload_n hx hb dX7_sellNow_83 rfl (lv_at hl 1 rfl) ?_
    refine lv_iload_n hx hb dX7_sellNow_84 rfl (lv_at hl 2 rfl) ?_
    obtain ⟨I32, e33, h⟩ := bd_o h hn
    refine g_callVv (rest := []) K hW hl (kX7_write (l := l) (G := G) (ad := ad) hok (0 : Int32) x1 u1 I30 J3 I32 e33) kLM_0 rfl (gG_V q_1431 q_1433 q_95 q_139 q_1434) nm_X7_write ⟨Nat.le_of_ble_eq_true rfl, Nat.le_of_ble_eq_true rfl⟩ rfl rfl (Nat.le_of_ble_eq_true rfl) ⟨Nat.zero_le _, Nat.zero_le _⟩ dX7_sellNow_85 (fun H locs hW => ?_)
    refine lv_iload_n hx hb dX7_sellNow_88 rfl (lv_at hl 2 rfl) ?_
    obtain ⟨a1, a2, a3⟩ := so3 h
    replace hW := gWd_nI a2 hW
    replace hW := gWd_nJ a3 hW
    exact g_nmi a1 (hfin _ _ _ _ hW dX7_sellNow_89)
