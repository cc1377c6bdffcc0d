-- 15: charAt of the one text constant
noncomputable def fJ0_charAt_5068e (x1 : Int32) : Option Int32 := gd (vp_in x1 120) (some (ji2c ((tokB.getD x1.toNatClampNeg 0) &&& (255 : Int32))))
theorem nm_J3 : gNm yJ3_checkIndex_8e157 3 := by decide +kernel
theorem nm_J0c : gNm yJ0_checkIndex_df160 2 := by decide +kernel
theorem nm_J1 : gNm yJ1_charAt_3b067 2 := by decide +kernel
theorem nm_J0l : gNm yJ0_isLatin1_aae02 0 := by decide +kernel
theorem nm_J0a : gNm yJ0_charAt_5068e 1 := by decide +kernel
theorem kJ3 {l : Launch} {G : gG} {ad : Nat → Nat} (hok : gInj LC ad) (x0 : Int32) (v : Value) (hv : v = .null ∨ ∃ a, v = .ref a) (I : gI) (J : gJ) (h : vp_in x0 120) : gMi l yJ3_checkIndex_8e157 cJ3_checkIndex_8e157 3 (some .int) 1 G LC ad [.int x0, .int (120 : Int32), v] I J x0 True I J := by
  have hlen : (lg_sl [.int x0, .int (120 : Int32), v]).length ≤ 3 := by rcases hv with rfl | ⟨a, rfl⟩ <;> exact Nat.le_of_ble_eq_true rfl
  refine gMi_of (lst := [(0, .int x0), (1, .int (120 : Int32)), (2, v)]) (by decide) hok hlen (by rcases hv with rfl | ⟨a, rfl⟩ <;> rfl) ?_
  intro p e s m args below meth c Q ls K hW hl hfin
  have hx := K.1; have hb := K.2.1
  refine lv_iload_n hx hb dJ3_checkIndex_8e157_0 rfl (lv_at hl 0 rfl) ?_
  refine lv_if_lt (tgt := 9) hx hb dJ3_checkIndex_8e157_1 (by decide) (fun c1 => ?_) (fun c1 => ?_)
  · exact absurd (Or.inl c1) h
  refine lv_iload_n hx hb dJ3_checkIndex_8e157_4 rfl (lv_at hl 0 rfl) ?_
  refine lv_iload_n hx hb dJ3_checkIndex_8e157_5 rfl (lv_at hl 1 rfl) ?_
  refine lv_icmp_lt (tgt := 16) hx hb dJ3_checkIndex_8e157_6 (by decide) (fun c2 => ?_) (fun c2 => ?_)
  · refine lv_iload_n hx hb dJ3_checkIndex_8e157_16 rfl (lv_at hl 0 rfl) ?_
    exact hfin _ _ _ _ hW dJ3_checkIndex_8e157_17
  · obtain ⟨j, hj, rfl⟩ := vp_in_of h (by decide)
    exact absurd (nI_lt (a := j) (b := 120) hj (by decide)) c2
theorem kJ0c {l : Launch} {G : gG} {ad : Nat → Nat} (hok : gInj LC ad) (x0 : Int32) (I : gI) (J : gJ) (h : vp_in x0 120) : gMv l yJ0_checkIndex_df160 cJ0_checkIndex_df160 2 none 2 G LC ad [.int x0, .int (120 : Int32)] I J I J := by
  refine gMv_of (lst := [(0, .int x0), (1, .int (120 : Int32))]) (by decide) hok (Nat.le_of_ble_eq_true rfl) rfl ?_
  intro p e s m args below meth c Q ls K hW hl hfin
  have hx := K.1; have hb := K.2.1; have hown := K.2.2.2.1; have hts := K.2.2.2.2.1
  refine lv_iload_n hx hb dJ0_checkIndex_df160_0 rfl (lv_at hl 0 rfl) ?_
  refine lv_iload_n hx hb dJ0_checkIndex_df160_1 rfl (lv_at hl 1 rfl) ?_
  refine va_gets hx hb K.2.2.2.2.2.2.2.2.2.2 hW.2.2 hown (hts _ q_530) (fun _ h9 => h9) dJ0_checkIndex_df160_2 ?_
  refine g_callSi (rest := []) K hW hl (kJ3 (l := l) (G := G) (ad := ad) hok x0 (va_rf G.2.2.2.2.2) (by cases G.2.2.2.2.2 with | none => exact Or.inl rfl | some a => exact Or.inr ⟨a, rfl⟩) I J h) q_532 q_533 q_143 q_534 nm_J3 ⟨Nat.le_of_ble_eq_true rfl, Nat.le_of_ble_eq_true rfl⟩ rfl rfl (Nat.le_of_ble_eq_true rfl) ⟨Nat.zero_le _, Nat.zero_le _⟩ dJ0_checkIndex_df160_5 (fun z H locs hW => ?_)
  refine lv_pop hx hb dJ0_checkIndex_df160_8 rfl ?_
  exact hfin _ _ _ _ hW dJ0_checkIndex_df160_9
theorem kJ1 {l : Launch} {G : gG} {ad : Nat → Nat} (hok : gInj LC ad) (x1 : Int32) (I : gI) (J : gJ) (h : vp_in x1 120) : gMi l yJ1_charAt_3b067 cJ1_charAt_3b067 2 (some .char) 3 G LC ad [.ref G.2.2.2.2.1, .int x1] I J (ji2c ((tokB.getD x1.toNatClampNeg 0) &&& (255 : Int32))) True I J := by
  refine gMc_of (lst := [(0, .ref G.2.2.2.2.1), (1, .int x1)]) (by decide) hok (Nat.le_of_ble_eq_true rfl) rfl (pk_nc _) ?_
  intro p e s m args below meth c Q ls K hW hl hfin
  have hx := K.1; have hb := K.2.1; have hown := K.2.2.2.1; have hts := K.2.2.2.2.1
  have hT : va_T .byte G.2.2.2.2.1 120 (fun j => .int (tokB.getD j 0)) (gA LC ad) s s.heap := (K.2.2.2.2.2.2.2.1.1 0 (by decide)).2.2.2
  refine lv_iload_n hx hb dJ1_charAt_3b067_0 rfl (lv_at hl 1 rfl) ?_
  refine lv_aload_n hx hb dJ1_charAt_3b067_1 rfl (lv_at hl 0 rfl) ?_
  refine va_tlen (v := (120 : Int32)) hx hb hT hW.2.2 (by decide) dJ1_charAt_3b067_2 ?_
  refine g_callSv (rest := []) K hW hl (kJ0c (l := l) (G := G) (ad := ad) hok x1 I J h) q_527 q_528 q_141 q_529 nm_J0c ⟨Nat.le_of_ble_eq_true rfl, Nat.le_of_ble_eq_true rfl⟩ rfl rfl (Nat.le_of_ble_eq_true rfl) ⟨Nat.zero_le _, Nat.zero_le _⟩ dJ1_charAt_3b067_3 (fun H locs hW => ?_)
  refine lv_aload_n hx hb dJ1_charAt_3b067_6 rfl (lv_at hl 0 rfl) ?_
  refine lv_iload_n hx hb dJ1_charAt_3b067_7 rfl (lv_at hl 1 rfl) ?_
  refine va_tb hx hb hT hW.2.2 h rfl dJ1_charAt_3b067_8 ?_
  refine lv_sipush (v := (255 : Int32)) hx hb dJ1_charAt_3b067_9 (by decide) ?_
  refine lv_iand hx hb dJ1_charAt_3b067_12 ?_
  refine g_i2c hx hb dJ1_charAt_3b067_13 ?_
  exact hfin _ _ _ _ hW dJ1_charAt_3b067_14
theorem kJ0l {l : Launch} {G : gG} {ad : Nat → Nat} (hok : gInj LC ad) (I : gI) (J : gJ) : gMi l yJ0_isLatin1_aae02 cJ0_isLatin1_aae02 1 (some .boolean) 1 G LC ad [.ref G.2.2.2.1] I J (1 : Int32) ((1 : Int32) = 0 ∨ (1 : Int32) = 1) I J := by
  refine gMz_of (lst := [(0, .ref G.2.2.2.1)]) (by decide) hok (Nat.le_of_ble_eq_true rfl) rfl ?_
  intro p e s m args below meth c Q ls K hW hl hfin
  have hx := K.1; have hb := K.2.1; have hown := K.2.2.2.1; have hts := K.2.2.2.2.1
  have hE := (K.2.2.2.2.2.2.2.1.1 0 (by decide)).2.1
  refine va_gets hx hb K.2.2.2.2.2.2.2.2.2.1 hW.2.2 hown (hts _ q_522) (fun _ h9 => h9) dJ0_isLatin1_aae02_0 ?_
  refine lv_if_eq (tgt := 17) hx hb dJ0_isLatin1_aae02_3 (by decide) (fun c1 => ?_) (fun c1 => ?_)
  · exact absurd c1 (by decide)
  refine lv_aload_n hx hb dJ0_isLatin1_aae02_6 rfl (lv_at hl 0 rfl) ?_
  refine vk_getf hx hb hE hW.2.2 hown (hts _ q_1793) (fun _ h9 => h9) dJ0_isLatin1_aae02_7 ?_
  refine lv_if_ne (tgt := 17) hx hb dJ0_isLatin1_aae02_10 (by decide) (fun c1 => ?_) (fun c1 => ?_)
  · exact absurd rfl c1
  refine lv_iconst (v := (1 : Int32)) hx hb dJ0_isLatin1_aae02_13 (by decide) ?_
  refine lv_goto (tgt := 18) hx hb dJ0_isLatin1_aae02_14 (by decide) ?_
  exact hfin _ _ _ _ (Or.inr rfl) hW dJ0_isLatin1_aae02_18
theorem g_preT {s : State} {H : Heap} {G : gG} {ad : Nat → Nat} {A : Nat → Prop} {I : gI} {J : gJ} {locs : List Loc} {p : Program} {m : MethodId} {args : Array Value} {c : Code} {cc : ByteArray} {nL : Nat} {own : String} {As : List Value} (K : gCx G A p s m args c cc nL own) (hW : gWd G LC ad A s.heap I J H locs) : PreV s H RJ0 G.2.2.2.1 (va_Pc (.ref G.2.2.2.1 :: As) (gWo G LC ad I J)) As :=
  ⟨gWo_blind, vk_recv K.2.2.2.2.2.2.2.1 (i := 0) (by decide) hW.2.2, (g_preS (As := .ref G.2.2.2.1 :: As) K hW).2⟩
theorem kJ0_charAt_5068e {l : Launch} {G : gG} {ad : Nat → Nat} (hok : gInj LC ad) (x1 : Int32) (I : gI) (J : gJ) (r : Int32) (h : fJ0_charAt_5068e x1 = some r) : gMi l yJ0_charAt_5068e cJ0_charAt_5068e 2 (some .char) 4 G LC ad [.ref G.2.2.2.1, .int x1] I J r True I J := by
  obtain ⟨h1, h2⟩ := gd_o h (Option.some_ne_none _)
  obtain rfl := so1 h2
  refine gMc_of (lst := [(0, .ref G.2.2.2.1), (1, .int x1)]) (by decide) hok (Nat.le_of_ble_eq_true rfl) rfl (pk_nc _) ?_
  intro p e s m args below meth c Q ls K hW hl hfin
  have hx := K.1; have hb := K.2.1; have hown := K.2.2.2.1; have hts := K.2.2.2.2.1
  have hE := (K.2.2.2.2.2.2.2.1.1 0 (by decide)).2.2.1
  refine lv_aload_n hx hb dJ0_charAt_5068e_0 rfl (lv_at hl 0 rfl) ?_
  refine g_runi hW (va_runV (As := []) (rest := []) (gCx_fix K) (kJ0l (l := l) (G := G) (ad := ad) hok I J) (cwV 0 K.2.2.2.2.1 (gG_V q_518 q_519 q_520 q_141 q_521) rfl rfl rfl ⟨rfl, nm_J0l⟩ ⟨Nat.le_of_ble_eq_true rfl, Nat.le_of_ble_eq_true rfl⟩) (g_preT K hW) rfl rfl hl.1 rfl (lv_room (Nat.le_of_ble_eq_true rfl)) dJ0_charAt_5068e_1 ⟨Nat.zero_le _, Nat.zero_le _⟩) (fun z H locs hW => ?_)
  refine lv_if_eq (tgt := 16) hx hb dJ0_charAt_5068e_4 (by decide) (fun c1 => ?_) (fun c1 => ?_)
  · exact absurd c1 (by decide)
  refine lv_aload_n hx hb dJ0_charAt_5068e_7 rfl (lv_at hl 0 rfl) ?_
  refine vk_getf hx hb hE hW.2.2 hown (hts _ q_1794) (fun _ h9 => h9) dJ0_charAt_5068e_8 ?_
  refine lv_iload_n hx hb dJ0_charAt_5068e_11 rfl (lv_at hl 1 rfl) ?_
  refine g_callSi (rest := []) K hW hl (kJ1 (l := l) (G := G) (ad := ad) hok x1 I J h1) q_524 q_525 q_142 q_526 nm_J1 ⟨Nat.le_of_ble_eq_true rfl, Nat.le_of_ble_eq_true rfl⟩ rfl rfl (Nat.le_of_ble_eq_true rfl) ⟨Nat.zero_le _, Nat.zero_le _⟩ dJ0_charAt_5068e_12 (fun z H locs hW => ?_)
  exact hfin _ _ _ _ hW dJ0_charAt_5068e_15
theorem g_callCh {l : Launch} {G : gG} {ad : Nat → Nat} {A : Nat → Prop} {p : Program} {e : Env} {R : Room} {s : State} {m : MethodId} {args : Array Value} {below : List Frame} {meth : Method} {c : Code} {H : Heap} {locs : List Loc} {cells slots : Nat} {Q : State → Prop} {cc : ByteArray} {pc nL idx : Nat} {ls : Array Slot} {rest st : List Value} {I : gI} {J : gJ} {own : String} {lv : List (Nat × Value)} {x1 r : Int32} (hok : gInj LC ad) (K : gCx G A p s m args c cc nL own) (hW : gWd G LC ad A s.heap I J H locs) (hls : lv_has ls nL lv) (h : fJ0_charAt_5068e x1 = some r) (h1 : Cond.methodLink own idx yJ0_charAt_5068e ∈ TB) (hR : gRo 4 2 R) (hst : st = .int x1 :: .ref G.2.2.2.1 :: rest) (hsum : (rest.map fun v => v.category).sum ≤ 8) (hf : cells ≤ R.cells ∧ slots ≤ R.slots) (hdg : decode cc pc = .ok (.invokevirtual idx, 3))
    (kk : ∀ (H1 : Heap) (locs1 : List Loc), gWd G LC ad A s.heap I J H1 locs1 → W p l e R s m args below meth c H1 locs1 cells slots Q (F0 m (pc + 3) ls (.int r :: rest))) : W p l e R s m args below meth c H locs cells slots Q (F0 m pc ls st) :=
  g_runi hW (va_runV (As := [.int x1]) (gCx_fix K) (kJ0_charAt_5068e (l := l) (G := G) (ad := ad) hok x1 I J r h) (cwV 1 K.2.2.2.2.1 (gG_V h1 q_515 q_516 q_141 q_517) rfl rfl rfl ⟨rfl, nm_J0a⟩ hR) (g_preT K hW) rfl rfl hls.1 hst (lv_room (pc := pc) (ls := ls) (m := m) hsum) hdg hf) (fun _ => kk)
