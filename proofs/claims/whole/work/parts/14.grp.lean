-- 14: the part of the reader that calls itself
-- the part of the reader that calls itself
abbrev gR : Type := Nat → Int32 → Int32 → gI → Option (Int32 × gI)
def gIH (l : Launch) (G : gG) (ad : Nat → Nat) (D : Nat) (rg : gR) : Prop := (∀ (x1 : Int32) (I : gI) (J : gJ) (r : Int32) (I' : gI), rg 0 x1 (0 : Int32) I = some (r, I') → gMi l yX1_sum cX1_sum 4 (some .boolean) D G LC ad [.ref (ad 275), .int x1] I J r (r = 0 ∨ r = 1) I' J) ∧ (∀ (x1 : Int32) (I : gI) (J : gJ) (r : Int32) (I' : gI), rg 1 x1 (0 : Int32) I = some (r, I') → gMi l yX1_product cX1_product 4 (some .boolean) D G LC ad [.ref (ad 275), .int x1] I J r (r = 0 ∨ r = 1) I' J) ∧ (∀ (x1 : Int32) (I : gI) (J : gJ) (r : Int32) (I' : gI), rg 2 x1 (0 : Int32) I = some (r, I') → gMi l yX1_one cX1_one 4 (some .boolean) D G LC ad [.ref (ad 275), .int x1] I J r (r = 0 ∨ r = 1) I' J) ∧ (∀ (x1 : Int32) (x2 : Int32) (I : gI) (J : gJ) (r : Int32) (I' : gI), rg 3 x1 x2 I = some (r, I') → gMi l yX1_oneUnder cX1_oneUnder 3 (some .boolean) D G LC ad [.ref (ad 275), .int x1, .int x2] I J r (r = 0 ∨ r = 1) I' J) ∧ (∀ (x1 : Int32) (I : gI) (J : gJ) (r : Int32) (I' : gI), rg 4 x1 (0 : Int32) I = some (r, I') → gMi l yX1_choice cX1_choice 4 (some .boolean) D G LC ad [.ref (ad 275), .int x1] I J r (r = 0 ∨ r = 1) I' J) ∧ (∀ (x1 : Int32) (I : gI) (J : gJ) (r : Int32) (I' : gI), rg 5 x1 (0 : Int32) I = some (r, I') → gMi l yX1_either cX1_either 3 (some .boolean) D G LC ad [.ref (ad 275), .int x1] I J r (r = 0 ∨ r = 1) I' J) ∧ (∀ (x1 : Int32) (I : gI) (J : gJ) (r : Int32) (I' : gI), rg 6 x1 (0 : Int32) I = some (r, I') → gMi l yX1_both cX1_both 3 (some .boolean) D G LC ad [.ref (ad 275), .int x1] I J r (r = 0 ∨ r = 1) I' J) ∧ (∀ (x1 : Int32) (I : gI) (J : gJ) (r : Int32) (I' : gI), rg 7 x1 (0 : Int32) I = some (r, I') → gMi l yX1_asking cX1_asking 3 (some .boolean) D G LC ad [.ref (ad 275), .int x1] I J r (r = 0 ∨ r = 1) I' J)
theorem gIH_0 {l : Launch} {G : gG} {ad : Nat → Nat} {D : Nat} {rg : gR} (h : gIH l G ad D rg) : ∀ (x1 : Int32) (I : gI) (J : gJ) (r : Int32) (I' : gI), rg 0 x1 (0 : Int32) I = some (r, I') → gMi l yX1_sum cX1_sum 4 (some .boolean) D G LC ad [.ref (ad 275), .int x1] I J r (r = 0 ∨ r = 1) I' J := h.1
theorem gIH_1 {l : Launch} {G : gG} {ad : Nat → Nat} {D : Nat} {rg : gR} (h : gIH l G ad D rg) : ∀ (x1 : Int32) (I : gI) (J : gJ) (r : Int32) (I' : gI), rg 1 x1 (0 : Int32) I = some (r, I') → gMi l yX1_product cX1_product 4 (some .boolean) D G LC ad [.ref (ad 275), .int x1] I J r (r = 0 ∨ r = 1) I' J := h.2.1
theorem gIH_2 {l : Launch} {G : gG} {ad : Nat → Nat} {D : Nat} {rg : gR} (h : gIH l G ad D rg) : ∀ (x1 : Int32) (I : gI) (J : gJ) (r : Int32) (I' : gI), rg 2 x1 (0 : Int32) I = some (r, I') → gMi l yX1_one cX1_one 4 (some .boolean) D G LC ad [.ref (ad 275), .int x1] I J r (r = 0 ∨ r = 1) I' J := h.2.2.1
theorem gIH_3 {l : Launch} {G : gG} {ad : Nat → Nat} {D : Nat} {rg : gR} (h : gIH l G ad D rg) : ∀ (x1 : Int32) (x2 : Int32) (I : gI) (J : gJ) (r : Int32) (I' : gI), rg 3 x1 x2 I = some (r, I') → gMi l yX1_oneUnder cX1_oneUnder 3 (some .boolean) D G LC ad [.ref (ad 275), .int x1, .int x2] I J r (r = 0 ∨ r = 1) I' J := h.2.2.2.1
theorem gIH_4 {l : Launch} {G : gG} {ad : Nat → Nat} {D : Nat} {rg : gR} (h : gIH l G ad D rg) : ∀ (x1 : Int32) (I : gI) (J : gJ) (r : Int32) (I' : gI), rg 4 x1 (0 : Int32) I = some (r, I') → gMi l yX1_choice cX1_choice 4 (some .boolean) D G LC ad [.ref (ad 275), .int x1] I J r (r = 0 ∨ r = 1) I' J := h.2.2.2.2.1
theorem gIH_5 {l : Launch} {G : gG} {ad : Nat → Nat} {D : Nat} {rg : gR} (h : gIH l G ad D rg) : ∀ (x1 : Int32) (I : gI) (J : gJ) (r : Int32) (I' : gI), rg 5 x1 (0 : Int32) I = some (r, I') → gMi l yX1_either cX1_either 3 (some .boolean) D G LC ad [.ref (ad 275), .int x1] I J r (r = 0 ∨ r = 1) I' J := h.2.2.2.2.2.1
theorem gIH_6 {l : Launch} {G : gG} {ad : Nat → Nat} {D : Nat} {rg : gR} (h : gIH l G ad D rg) : ∀ (x1 : Int32) (I : gI) (J : gJ) (r : Int32) (I' : gI), rg 6 x1 (0 : Int32) I = some (r, I') → gMi l yX1_both cX1_both 3 (some .boolean) D G LC ad [.ref (ad 275), .int x1] I J r (r = 0 ∨ r = 1) I' J := h.2.2.2.2.2.2.1
theorem gIH_7 {l : Launch} {G : gG} {ad : Nat → Nat} {D : Nat} {rg : gR} (h : gIH l G ad D rg) : ∀ (x1 : Int32) (I : gI) (J : gJ) (r : Int32) (I' : gI), rg 7 x1 (0 : Int32) I = some (r, I') → gMi l yX1_asking cX1_asking 3 (some .boolean) D G LC ad [.ref (ad 275), .int x1] I J r (r = 0 ∨ r = 1) I' J := h.2.2.2.2.2.2.2
theorem gRo_g {k n : Nat} (_ : n ≤ 45) (h : n + 19 ≤ 64) : gRo (10 + k) n (gRm (10 + k + 1)) := ⟨Nat.le_refl _, by show 8 + (n + 11) + 64 * (10 + k) ≤ 64 * (10 + k + 1); omega⟩
theorem gRo_l {k n d : Nat} (_ : d ≤ 9) (h : n + 19 ≤ 64) : gRo d n (gRm (10 + k + 1)) := ⟨by show d + 1 ≤ 10 + k + 1; omega, by show 8 + (n + 11) + 64 * d ≤ 64 * (10 + k + 1); omega⟩
theorem nm_X1_product : gNm yX1_product 1 := by decide +kernel
noncomputable def fX1_sum_12b (rg : gR) (rec : Int32 → Int32 → gI → Option ((gI) ⊕ (gI))) (u6 : Int32) (u7 : Int32) (I : gI) : Option ((gI) ⊕ (gI)) :=
  gi ((300 : Int32) ≤ u7)
 (some (Sum.inr I))
 (gd (vp_in (I 275 4) 301) (lz (lz ((I 276 ((I 275 4)).toNatClampNeg)) (fun (u15 : Int32) => lz (wI I 275 4 ((I 275 4) + (1 : Int32))) (fun (I17 : gI) => bd (rg 1 u6 (0 : Int32) I17) (pr (fun (u19 : Int32) (I20 : gI) => gi (u19 = 0)
 (some (Sum.inl I20))
 (gd (gAt LC (I20 275 6).toNatClampNeg 0 3) (bd (fX3_emit ((I20 275 6).toNatClampNeg) u15 (0 : Int32) I20) (pr (fun (u25 : Int32) (I26 : gI) => lz ((u7 + (1 : Int32))) (fun (u29 : Int32) => rec u6 u29 I26)))))))))) (fun j12 => gi ((I 276 ((I 275 4)).toNatClampNeg) = (31 : Int32))
 (j12)
 (gi ((I 276 ((I 275 4)).toNatClampNeg) = (32 : Int32))
 (j12)
 (some (Sum.inr I))))))
noncomputable def fX1_sum_12 (rg : gR) : Nat → Int32 → Int32 → gI → Option ((gI) ⊕ (gI))
  | 0 => fun _ _ _ => none
  | n + 1 => fX1_sum_12b rg (fX1_sum_12 rg n)
set_option maxHeartbeats 4000000 in
set_option maxRecDepth 100000 in
theorem tX1_sum_12 {l : Launch} {G : gG} {ad : Nat → Nat} {p : Program} {e : Env} {s : State} {m : MethodId} {args : Array Value} {below : List Frame} {meth : Method} {c : Code} {Q : State → Prop} (hok : gInj LC ad) (K : gCx G (gA LC ad) p s m args c cX1_sum 4 RX1) (k : Nat) (rg : gR) (hG : gIH l G ad (10 + k) rg)  : ∀ (n : Nat) (u6 : Int32) (u7 : Int32) (I : gI) (J : gJ) (out : Option ((gI) ⊕ (gI))), fX1_sum_12 rg n u6 u7 I = out → out ≠ none → ∀ (H : Heap) (locs : List Loc), gWd G LC ad (gA LC ad) s.heap I J H locs → ∀ (ls : Array Slot), lv_has ls 4 [(0, .ref (ad 275)), (1, .int u6), (2, .int u7)] → (∀ (I8 : gI), some (Sum.inl I8) = out → ∀ (H : Heap) (locs : List Loc), gWd G LC ad (gA LC ad) s.heap I8 J H locs → ∀ (ls : Array Slot), lv_has ls 4 [] → W p l e (gRm (10 + k + 1)) s m args below meth c H locs 0 0 Q (F0 m 75 ls [])) → (∀ (I9 : gI), some (Sum.inr I9) = out → ∀ (H : Heap) (locs : List Loc), gWd G LC ad (gA LC ad) s.heap I9 J H locs → ∀ (ls : Array Slot), lv_has ls 4 [] → W p l e (gRm (10 + k + 1)) s m args below meth c H locs 0 0 Q (F0 m 93 ls [])) → W p l e (gRm (10 + k + 1)) s m args below meth c H locs 0 0 Q (F0 m 12 ls []) := by
  have hx := K.1; have hb := K.2.1; have hown := K.2.2.2.1; have hts := K.2.2.2.2.1
  intro n
  induction n with
  | zero => intro u6 u7 I J out h hn; exact absurd h.symm hn
  | succ n ih =>
    intro u6 u7 I J out h hn H locs hW ls hl hx1 hx2
    replace h : fX1_sum_12b rg (fX1_sum_12 rg n) u6 u7 I = out := h
    unfold fX1_sum_12b at h
    refine lv_iload_n hx hb dX1_sum_12 rfl (lv_at hl 2 rfl) ?_
    refine lv_sipush (v := (300 : Int32)) hx hb dX1_sum_13 (by decide) ?_
    refine lv_icmp_ge (tgt := 93) hx hb dX1_sum_16 (by decide) (fun c10 => ?_) (fun c10 => ?_)
    · replace h := gi_t h c10
      exact hx2 I h _ _ hW _ (lv_sub hl [] rfl)
    · replace h := gi_f h c10
      refine lv_aload_n hx hb dX1_sum_19 rfl (lv_at hl 0 rfl) ?_
      refine g_get K hW (t := 2) (ci := 1) (k := 0) (v := .ref (ad 276)) kLC_275 rfl rfl i_X1 (by decide) q_350 rfl (gfv2 rLC_275_0) dX1_sum_20 ?_
      refine lv_aload_n hx hb dX1_sum_23 rfl (lv_at hl 0 rfl) ?_
      refine g_get K hW (t := 0) (ci := 1) (k := 4) (v := .int (I 275 4)) kLC_275 rfl rfl i_X1 (by decide) q_354 rfl rfl dX1_sum_24 ?_
      obtain ⟨g11, h⟩ := gd_o h hn
      refine g_iald K hW kLC_276 g11 rfl dX1_sum_27 ?_
      refine lv_bipush (v := (31 : Int32)) hx hb dX1_sum_28 (by decide) ?_
      obtain ⟨j12, e13, h⟩ := lz_o h
      have hj14 : j12 = out → ∀ (H : Heap) (locs : List Loc), gWd G LC ad (gA LC ad) s.heap I J H locs → ∀ (ls : Array Slot), lv_has ls 4 [(0, .ref (ad 275)), (1, .int u6), (2, .int u7)] → W p l e (gRm (10 + k + 1)) s m args below meth c H locs 0 0 Q (F0 m 47 ls []) := by
        intro h H locs hW ls hl
        replace h := jn0 e13 h
        refine lv_aload_n hx hb dX1_sum_47 rfl (lv_at hl 0 rfl) ?_
        refine g_get K hW (t := 2) (ci := 1) (k := 0) (v := .ref (ad 276)) kLC_275 rfl rfl i_X1 (by decide) q_350 rfl (gfv2 rLC_275_0) dX1_sum_48 ?_
        refine lv_aload_n hx hb dX1_sum_51 rfl (lv_at hl 0 rfl) ?_
        refine g_get K hW (t := 0) (ci := 1) (k := 4) (v := .int (I 275 4)) kLC_275 rfl rfl i_X1 (by decide) q_354 rfl rfl dX1_sum_52 ?_
        refine g_iald K hW kLC_276 g11 rfl dX1_sum_55 ?_
        obtain ⟨u15, e16, h⟩ := lz_o h
        refine g_nmi e16 ?_
        refine lv_istore_n (lv' := [(3, .int u15), (0, .ref (ad 275)), (1, .int u6), (2, .int u7)]) hx hb dX1_sum_56 rfl hl (by decide) rfl (fun ls hl => ?_)
        refine lv_aload_n hx hb dX1_sum_57 rfl (lv_at hl 1 rfl) ?_
        refine lv_dup hx hb dX1_sum_58 rfl ?_
        refine g_get K hW (t := 0) (ci := 1) (k := 4) (v := .int (I 275 4)) kLC_275 rfl rfl i_X1 (by decide) q_354 rfl rfl dX1_sum_59 ?_
        refine lv_iconst (v := (1 : Int32)) hx hb dX1_sum_62 (by decide) ?_
        refine lv_iadd hx hb dX1_sum_63 ?_
        refine g_putI K hW (ci := 1) (k := 4) kLC_275 rfl rfl i_X1 tyX1_ok nmX1 (by decide) q_354 rfl rfl rfl rfl dX1_sum_64 (fun H locs hW => ?_)
        obtain ⟨I17, e18, h⟩ := lz_o h
        replace hW := gWd_nI e18 hW
        refine lv_aload_n hx hb dX1_sum_67 rfl (lv_at hl 1 rfl) ?_
        refine lv_iload_n hx hb dX1_sum_68 rfl (lv_at hl 2 rfl) ?_
        obtain ⟨⟨u19, I20⟩, e21, h⟩ := bd_o h hn
        replace h := pr_o h
        refine g_callVi (rest := []) K hW hl (gIH_1 hG u6 I17 J u19 I20 e21) kLC_275 rfl (gG_V q_591 q_593 q_10 q_136 q_594) nm_X1_product (gRo_g (by decide) (by decide)) rfl rfl (Nat.le_of_ble_eq_true rfl) ⟨Nat.zero_le _, Nat.zero_le _⟩ dX1_sum_69 (fun z22 H locs hW => ?_)
        refine lv_if_ne (tgt := 77) hx hb dX1_sum_72 (by decide) (fun c23 => ?_) (fun c23 => ?_)
        · replace h := gi_f h c23
          refine lv_aload_n hx hb dX1_sum_77 rfl (lv_at hl 1 rfl) ?_
          obtain ⟨g24, h⟩ := gd_o h hn
          refine g_get K hW (t := 3) (ci := 1) (k := 6) (v := .ref (ad ((I20 275 6).toNatClampNeg))) kLC_275 rfl rfl i_X1 (by decide) q_356 rfl (gfv3 rLC_275_6) dX1_sum_78 ?_
          refine lv_iload_n hx hb dX1_sum_81 rfl (lv_at hl 0 rfl) ?_
          refine lv_iconst (v := (0 : Int32)) hx hb dX1_sum_82 (by decide) ?_
          obtain ⟨⟨u25, I26⟩, e27, h⟩ := bd_o h hn
          replace h := pr_o h
          refine g_callVi (rest := []) K hW hl (kX3_emit (l := l) (G := G) (ad := ad) hok ((I20 275 6).toNatClampNeg) g24 u15 (0 : Int32) I20 J u25 I26 e27) g24 rfl (gG_V q_604 q_605 q_606 q_137 q_607) nm_X3_emit (gRo_l (by decide) (by decide)) rfl rfl (Nat.le_of_ble_eq_true rfl) ⟨Nat.zero_le _, Nat.zero_le _⟩ dX1_sum_83 (fun z28 H locs hW => ?_)
          refine lv_pop hx hb dX1_sum_86 rfl ?_
          obtain ⟨u29, e30, h⟩ := lz_o h
          refine lv_iinc (v := u29) (lv' := [(2, .int u29), (3, .int u15), (0, .ref (ad 275)), (1, .int u6)]) hx hb dX1_sum_87 hl (k := 3) rfl (by rw [e30]; rfl) (by decide) rfl (fun ls hl => ?_)
          refine lv_goto (tgt := 12) hx hb dX1_sum_90 (by decide) ?_
          exact ih u6 u29 I26 J _ h hn _ _ hW _ (lv_sub hl [2, 3, 0] rfl) hx1 hx2
        · replace h := gi_t h c23
          exact hx1 I20 h _ _ hW _ (lv_sub hl [] rfl)
      refine lv_icmp_eq (tgt := 47) hx hb dX1_sum_30 (by decide) (fun c31 => ?_) (fun c31 => ?_)
      · replace h := gi_t h c31
        exact hj14 h _ _ hW _ (lv_sub hl [0, 1, 2] rfl)
      · replace h := gi_f h c31
        refine lv_aload_n hx hb dX1_sum_33 rfl (lv_at hl 0 rfl) ?_
        refine g_get K hW (t := 2) (ci := 1) (k := 0) (v := .ref (ad 276)) kLC_275 rfl rfl i_X1 (by decide) q_350 rfl (gfv2 rLC_275_0) dX1_sum_34 ?_
        refine lv_aload_n hx hb dX1_sum_37 rfl (lv_at hl 0 rfl) ?_
        refine g_get K hW (t := 0) (ci := 1) (k := 4) (v := .int (I 275 4)) kLC_275 rfl rfl i_X1 (by decide) q_354 rfl rfl dX1_sum_38 ?_
        refine g_iald K hW kLC_276 g11 rfl dX1_sum_41 ?_
        refine lv_bipush (v := (32 : Int32)) hx hb dX1_sum_42 (by decide) ?_
        refine lv_icmp_ne (tgt := 93) hx hb dX1_sum_44 (by decide) (fun c32 => ?_) (fun c32 => ?_)
        · replace h := gi_f h c32
          exact hx2 I h _ _ hW _ (lv_sub hl [] rfl)
        · replace h := gi_t h c32
          exact hj14 h _ _ hW _ (lv_sub hl [0, 1, 2] rfl)
noncomputable def fX1_sum_B (rg : gR)  (x1 : Int32) (I : gI) : Option (Int32 × gI) :=
  bd (rg 1 x1 (0 : Int32) I) (pr (fun (u1 : Int32) (I2 : gI) => gi (u1 = 0)
 (some ((0 : Int32), I2))
 (bd (fX1_sum_12 rg FU x1 (0 : Int32) I2) (sm (fun (I35 : gI) => some ((0 : Int32), I35)) (fun (I37 : gI) => some ((1 : Int32), I37))))))
set_option maxHeartbeats 4000000 in
set_option maxRecDepth 100000 in
theorem kX1_sum_B {l : Launch} {G : gG} {ad : Nat → Nat} (hok : gInj LC ad) (k : Nat) (rg : gR) (hG : gIH l G ad (10 + k) rg)   (x1 : Int32) (I : gI) (J : gJ) (r : Int32) (I' : gI) (h : fX1_sum_B rg x1 I = some (r, I')) : gMi l yX1_sum cX1_sum 4 (some .boolean) (10 + k + 1) G LC ad [.ref (ad 275), .int x1] I J r (r = 0 ∨ r = 1) I' J := by
  refine gMz_of (lst := [(0, .ref (ad 275)), (1, .int x1)]) (by decide) hok (Nat.le_of_ble_eq_true rfl) rfl ?_
  intro p e s m args below meth c Q ls K hW hl hfin
  have hn : (some (r, I') : Option (Int32 × gI)) ≠ none := Option.some_ne_none _
  have hx := K.1; have hb := K.2.1; have hown := K.2.2.2.1; have hts := K.2.2.2.2.1
  unfold fX1_sum_B at h
  refine lv_aload_n hx hb dX1_sum_0 rfl (lv_at hl 0 rfl) ?_
  refine lv_iload_n hx hb dX1_sum_1 rfl (lv_at hl 1 rfl) ?_
  obtain ⟨⟨u1, I2⟩, e3, h⟩ := bd_o h hn
  replace h := pr_o h
  refine g_callVi (rest := []) K hW hl (gIH_1 hG x1 I J u1 I2 e3) kLC_275 rfl (gG_V q_591 q_593 q_10 q_136 q_594) nm_X1_product (gRo_g (by decide) (by decide)) rfl rfl (Nat.le_of_ble_eq_true rfl) ⟨Nat.zero_le _, Nat.zero_le _⟩ dX1_sum_2 (fun z4 H locs hW => ?_)
  refine lv_if_ne (tgt := 10) hx hb dX1_sum_5 (by decide) (fun c5 => ?_) (fun c5 => ?_)
  · replace h := gi_f h c5
    refine lv_iconst (v := (0 : Int32)) hx hb dX1_sum_10 (by decide) ?_
    refine lv_istore_n (lv' := [(2, .int (0 : Int32)), (0, .ref (ad 275)), (1, .int x1)]) hx hb dX1_sum_11 rfl hl (by decide) rfl (fun ls hl => ?_)
    obtain ⟨r33, e34, h⟩ := bd_o h hn
    refine tX1_sum_12 hok K k rg hG FU x1 (0 : Int32) I2 J (some r33) e34 (Option.some_ne_none _) _ _ hW _ (lv_sub hl [1, 2, 0] rfl) ?_ ?_
    · intro I35 q36 H locs hW ls hl
      replace q36 := Option.some.inj q36
      subst q36
      replace h := sm_l h
      refine lv_iconst (v := (0 : Int32)) hx hb dX1_sum_75 (by decide) ?_
      obtain ⟨a1, a2⟩ := so2 h
      replace hW := gWd_nI a2 hW
      exact g_nmi a1 (hfin _ _ _ _ (a1 ▸ (Or.inl rfl)) hW dX1_sum_76)
    · intro I37 q38 H locs hW ls hl
      replace q38 := Option.some.inj q38
      subst q38
      replace h := sm_r h
      refine lv_iconst (v := (1 : Int32)) hx hb dX1_sum_93 (by decide) ?_
      obtain ⟨a1, a2⟩ := so2 h
      replace hW := gWd_nI a2 hW
      exact g_nmi a1 (hfin _ _ _ _ (a1 ▸ (Or.inr rfl)) hW dX1_sum_94)
  · replace h := gi_t h c5
    refine lv_iconst (v := (0 : Int32)) hx hb dX1_sum_8 (by decide) ?_
    obtain ⟨a1, a2⟩ := so2 h
    replace hW := gWd_nI a2 hW
    exact g_nmi a1 (hfin _ _ _ _ (a1 ▸ (Or.inl rfl)) hW dX1_sum_9)
theorem nm_X1_one : gNm yX1_one 1 := by decide +kernel
noncomputable def fX1_product_12b (rg : gR) (rec : Int32 → Int32 → gI → Option ((gI) ⊕ (gI))) (u6 : Int32) (u7 : Int32) (I : gI) : Option ((gI) ⊕ (gI)) :=
  gi ((300 : Int32) ≤ u7)
 (some (Sum.inr I))
 (gd (vp_in (I 275 4) 301) (lz (lz ((I 276 ((I 275 4)).toNatClampNeg)) (fun (u15 : Int32) => lz (wI I 275 4 ((I 275 4) + (1 : Int32))) (fun (I17 : gI) => bd (rg 2 u6 (0 : Int32) I17) (pr (fun (u19 : Int32) (I20 : gI) => gi (u19 = 0)
 (some (Sum.inl I20))
 (gd (gAt LC (I20 275 6).toNatClampNeg 0 3) (bd (fX3_emit ((I20 275 6).toNatClampNeg) u15 (0 : Int32) I20) (pr (fun (u25 : Int32) (I26 : gI) => lz ((u7 + (1 : Int32))) (fun (u29 : Int32) => rec u6 u29 I26)))))))))) (fun j12 => gi ((I 276 ((I 275 4)).toNatClampNeg) = (33 : Int32))
 (j12)
 (gi ((I 276 ((I 275 4)).toNatClampNeg) = (34 : Int32))
 (j12)
 (some (Sum.inr I))))))
noncomputable def fX1_product_12 (rg : gR) : Nat → Int32 → Int32 → gI → Option ((gI) ⊕ (gI))
  | 0 => fun _ _ _ => none
  | n + 1 => fX1_product_12b rg (fX1_product_12 rg n)
set_option maxHeartbeats 4000000 in
set_option maxRecDepth 100000 in
theorem tX1_product_12 {l : Launch} {G : gG} {ad : Nat → Nat} {p : Program} {e : Env} {s : State} {m : MethodId} {args : Array Value} {below : List Frame} {meth : Method} {c : Code} {Q : State → Prop} (hok : gInj LC ad) (K : gCx G (gA LC ad) p s m args c cX1_product 4 RX1) (k : Nat) (rg : gR) (hG : gIH l G ad (10 + k) rg)  : ∀ (n : Nat) (u6 : Int32) (u7 : Int32) (I : gI) (J : gJ) (out : Option ((gI) ⊕ (gI))), fX1_product_12 rg n u6 u7 I = out → out ≠ none → ∀ (H : Heap) (locs : List Loc), gWd G LC ad (gA LC ad) s.heap I J H locs → ∀ (ls : Array Slot), lv_has ls 4 [(0, .ref (ad 275)), (1, .int u6), (2, .int u7)] → (∀ (I8 : gI), some (Sum.inl I8) = out → ∀ (H : Heap) (locs : List Loc), gWd G LC ad (gA LC ad) s.heap I8 J H locs → ∀ (ls : Array Slot), lv_has ls 4 [] → W p l e (gRm (10 + k + 1)) s m args below meth c H locs 0 0 Q (F0 m 75 ls [])) → (∀ (I9 : gI), some (Sum.inr I9) = out → ∀ (H : Heap) (locs : List Loc), gWd G LC ad (gA LC ad) s.heap I9 J H locs → ∀ (ls : Array Slot), lv_has ls 4 [] → W p l e (gRm (10 + k + 1)) s m args below meth c H locs 0 0 Q (F0 m 93 ls [])) → W p l e (gRm (10 + k + 1)) s m args below meth c H locs 0 0 Q (F0 m 12 ls []) := by
  have hx := K.1; have hb := K.2.1; have hown := K.2.2.2.1; have hts := K.2.2.2.2.1
  intro n
  induction n with
  | zero => intro u6 u7 I J out h hn; exact absurd h.symm hn
  | succ n ih =>
    intro u6 u7 I J out h hn H locs hW ls hl hx1 hx2
    replace h : fX1_product_12b rg (fX1_product_12 rg n) u6 u7 I = out := h
    unfold fX1_product_12b at h
    refine lv_iload_n hx hb dX1_product_12 rfl (lv_at hl 2 rfl) ?_
    refine lv_sipush (v := (300 : Int32)) hx hb dX1_product_13 (by decide) ?_
    refine lv_icmp_ge (tgt := 93) hx hb dX1_product_16 (by decide) (fun c10 => ?_) (fun c10 => ?_)
    · replace h := gi_t h c10
      exact hx2 I h _ _ hW _ (lv_sub hl [] rfl)
    · replace h := gi_f h c10
      refine lv_aload_n hx hb dX1_product_19 rfl (lv_at hl 0 rfl) ?_
      refine g_get K hW (t := 2) (ci := 1) (k := 0) (v := .ref (ad 276)) kLC_275 rfl rfl i_X1 (by decide) q_350 rfl (gfv2 rLC_275_0) dX1_product_20 ?_
      refine lv_aload_n hx hb dX1_product_23 rfl (lv_at hl 0 rfl) ?_
      refine g_get K hW (t := 0) (ci := 1) (k := 4) (v := .int (I 275 4)) kLC_275 rfl rfl i_X1 (by decide) q_354 rfl rfl dX1_product_24 ?_
      obtain ⟨g11, h⟩ := gd_o h hn
      refine g_iald K hW kLC_276 g11 rfl dX1_product_27 ?_
      refine lv_bipush (v := (33 : Int32)) hx hb dX1_product_28 (by decide) ?_
      obtain ⟨j12, e13, h⟩ := lz_o h
      have hj14 : j12 = out → ∀ (H : Heap) (locs : List Loc), gWd G LC ad (gA LC ad) s.heap I J H locs → ∀ (ls : Array Slot), lv_has ls 4 [(0, .ref (ad 275)), (1, .int u6), (2, .int u7)] → W p l e (gRm (10 + k + 1)) s m args below meth c H locs 0 0 Q (F0 m 47 ls []) := by
        intro h H locs hW ls hl
        replace h := jn0 e13 h
        refine lv_aload_n hx hb dX1_product_47 rfl (lv_at hl 0 rfl) ?_
        refine g_get K hW (t := 2) (ci := 1) (k := 0) (v := .ref (ad 276)) kLC_275 rfl rfl i_X1 (by decide) q_350 rfl (gfv2 rLC_275_0) dX1_product_48 ?_
        refine lv_aload_n hx hb dX1_product_51 rfl (lv_at hl 0 rfl) ?_
        refine g_get K hW (t := 0) (ci := 1) (k := 4) (v := .int (I 275 4)) kLC_275 rfl rfl i_X1 (by decide) q_354 rfl rfl dX1_product_52 ?_
        refine g_iald K hW kLC_276 g11 rfl dX1_product_55 ?_
        obtain ⟨u15, e16, h⟩ := lz_o h
        refine g_nmi e16 ?_
        refine lv_istore_n (lv' := [(3, .int u15), (0, .ref (ad 275)), (1, .int u6), (2, .int u7)]) hx hb dX1_product_56 rfl hl (by decide) rfl (fun ls hl => ?_)
        refine lv_aload_n hx hb dX1_product_57 rfl (lv_at hl 1 rfl) ?_
        refine lv_dup hx hb dX1_product_58 rfl ?_
        refine g_get K hW (t := 0) (ci := 1) (k := 4) (v := .int (I 275 4)) kLC_275 rfl rfl i_X1 (by decide) q_354 rfl rfl dX1_product_59 ?_
        refine lv_iconst (v := (1 : Int32)) hx hb dX1_product_62 (by decide) ?_
        refine lv_iadd hx hb dX1_product_63 ?_
        refine g_putI K hW (ci := 1) (k := 4) kLC_275 rfl rfl i_X1 tyX1_ok nmX1 (by decide) q_354 rfl rfl rfl rfl dX1_product_64 (fun H locs hW => ?_)
        obtain ⟨I17, e18, h⟩ := lz_o h
        replace hW := gWd_nI e18 hW
        refine lv_aload_n hx hb dX1_product_67 rfl (lv_at hl 1 rfl) ?_
        refine lv_iload_n hx hb dX1_product_68 rfl (lv_at hl 2 rfl) ?_
        obtain ⟨⟨u19, I20⟩, e21, h⟩ := bd_o h hn
        replace h := pr_o h
        refine g_callVi (rest := []) K hW hl (gIH_2 hG u6 I17 J u19 I20 e21) kLC_275 rfl (gG_V q_595 q_597 q_11 q_136 q_598) nm_X1_one (gRo_g (by decide) (by decide)) rfl rfl (Nat.le_of_ble_eq_true rfl) ⟨Nat.zero_le _, Nat.zero_le _⟩ dX1_product_69 (fun z22 H locs hW => ?_)
        refine lv_if_ne (tgt := 77) hx hb dX1_product_72 (by decide) (fun c23 => ?_) (fun c23 => ?_)
        · replace h := gi_f h c23
          refine lv_aload_n hx hb dX1_product_77 rfl (lv_at hl 1 rfl) ?_
          obtain ⟨g24, h⟩ := gd_o h hn
          refine g_get K hW (t := 3) (ci := 1) (k := 6) (v := .ref (ad ((I20 275 6).toNatClampNeg))) kLC_275 rfl rfl i_X1 (by decide) q_356 rfl (gfv3 rLC_275_6) dX1_product_78 ?_
          refine lv_iload_n hx hb dX1_product_81 rfl (lv_at hl 0 rfl) ?_
          refine lv_iconst (v := (0 : Int32)) hx hb dX1_product_82 (by decide) ?_
          obtain ⟨⟨u25, I26⟩, e27, h⟩ := bd_o h hn
          replace h := pr_o h
          refine g_callVi (rest := []) K hW hl (kX3_emit (l := l) (G := G) (ad := ad) hok ((I20 275 6).toNatClampNeg) g24 u15 (0 : Int32) I20 J u25 I26 e27) g24 rfl (gG_V q_604 q_605 q_606 q_137 q_607) nm_X3_emit (gRo_l (by decide) (by decide)) rfl rfl (Nat.le_of_ble_eq_true rfl) ⟨Nat.zero_le _, Nat.zero_le _⟩ dX1_product_83 (fun z28 H locs hW => ?_)
          refine lv_pop hx hb dX1_product_86 rfl ?_
          obtain ⟨u29, e30, h⟩ := lz_o h
          refine lv_iinc (v := u29) (lv' := [(2, .int u29), (3, .int u15), (0, .ref (ad 275)), (1, .int u6)]) hx hb dX1_product_87 hl (k := 3) rfl (by rw [e30]; rfl) (by decide) rfl (fun ls hl => ?_)
          refine lv_goto (tgt := 12) hx hb dX1_product_90 (by decide) ?_
          exact ih u6 u29 I26 J _ h hn _ _ hW _ (lv_sub hl [2, 3, 0] rfl) hx1 hx2
        · replace h := gi_t h c23
          exact hx1 I20 h _ _ hW _ (lv_sub hl [] rfl)
      refine lv_icmp_eq (tgt := 47) hx hb dX1_product_30 (by decide) (fun c31 => ?_) (fun c31 => ?_)
      · replace h := gi_t h c31
        exact hj14 h _ _ hW _ (lv_sub hl [0, 1, 2] rfl)
      · replace h := gi_f h c31
        refine lv_aload_n hx hb dX1_product_33 rfl (lv_at hl 0 rfl) ?_
        refine g_get K hW (t := 2) (ci := 1) (k := 0) (v := .ref (ad 276)) kLC_275 rfl rfl i_X1 (by decide) q_350 rfl (gfv2 rLC_275_0) dX1_product_34 ?_
        refine lv_aload_n hx hb dX1_product_37 rfl (lv_at hl 0 rfl) ?_
        refine g_get K hW (t := 0) (ci := 1) (k := 4) (v := .int (I 275 4)) kLC_275 rfl rfl i_X1 (by decide) q_354 rfl rfl dX1_product_38 ?_
        refine g_iald K hW kLC_276 g11 rfl dX1_product_41 ?_
        refine lv_bipush (v := (34 : Int32)) hx hb dX1_product_42 (by decide) ?_
        refine lv_icmp_ne (tgt := 93) hx hb dX1_product_44 (by decide) (fun c32 => ?_) (fun c32 => ?_)
        · replace h := gi_f h c32
          exact hx2 I h _ _ hW _ (lv_sub hl [] rfl)
        · replace h := gi_t h c32
          exact hj14 h _ _ hW _ (lv_sub hl [0, 1, 2] rfl)
noncomputable def fX1_product_B (rg : gR)  (x1 : Int32) (I : gI) : Option (Int32 × gI) :=
  bd (rg 2 x1 (0 : Int32) I) (pr (fun (u1 : Int32) (I2 : gI) => gi (u1 = 0)
 (some ((0 : Int32), I2))
 (bd (fX1_product_12 rg FU x1 (0 : Int32) I2) (sm (fun (I35 : gI) => some ((0 : Int32), I35)) (fun (I37 : gI) => some ((1 : Int32), I37))))))
set_option maxHeartbeats 4000000 in
set_option maxRecDepth 100000 in
theorem kX1_product_B {l : Launch} {G : gG} {ad : Nat → Nat} (hok : gInj LC ad) (k : Nat) (rg : gR) (hG : gIH l G ad (10 + k) rg)   (x1 : Int32) (I : gI) (J : gJ) (r : Int32) (I' : gI) (h : fX1_product_B rg x1 I = some (r, I')) : gMi l yX1_product cX1_product 4 (some .boolean) (10 + k + 1) G LC ad [.ref (ad 275), .int x1] I J r (r = 0 ∨ r = 1) I' J := by
  refine gMz_of (lst := [(0, .ref (ad 275)), (1, .int x1)]) (by decide) hok (Nat.le_of_ble_eq_true rfl) rfl ?_
  intro p e s m args below meth c Q ls K hW hl hfin
  have hn : (some (r, I') : Option (Int32 × gI)) ≠ none := Option.some_ne_none _
  have hx := K.1; have hb := K.2.1; have hown := K.2.2.2.1; have hts := K.2.2.2.2.1
  unfold fX1_product_B at h
  refine lv_aload_n hx hb dX1_product_0 rfl (lv_at hl 0 rfl) ?_
  refine lv_iload_n hx hb dX1_product_1 rfl (lv_at hl 1 rfl) ?_
  obtain ⟨⟨u1, I2⟩, e3, h⟩ := bd_o h hn
  replace h := pr_o h
  refine g_callVi (rest := []) K hW hl (gIH_2 hG x1 I J u1 I2 e3) kLC_275 rfl (gG_V q_595 q_597 q_11 q_136 q_598) nm_X1_one (gRo_g (by decide) (by decide)) rfl rfl (Nat.le_of_ble_eq_true rfl) ⟨Nat.zero_le _, Nat.zero_le _⟩ dX1_product_2 (fun z4 H locs hW => ?_)
  refine lv_if_ne (tgt := 10) hx hb dX1_product_5 (by decide) (fun c5 => ?_) (fun c5 => ?_)
  · replace h := gi_f h c5
    refine lv_iconst (v := (0 : Int32)) hx hb dX1_product_10 (by decide) ?_
    refine lv_istore_n (lv' := [(2, .int (0 : Int32)), (0, .ref (ad 275)), (1, .int x1)]) hx hb dX1_product_11 rfl hl (by decide) rfl (fun ls hl => ?_)
    obtain ⟨r33, e34, h⟩ := bd_o h hn
    refine tX1_product_12 hok K k rg hG FU x1 (0 : Int32) I2 J (some r33) e34 (Option.some_ne_none _) _ _ hW _ (lv_sub hl [1, 2, 0] rfl) ?_ ?_
    · intro I35 q36 H locs hW ls hl
      replace q36 := Option.some.inj q36
      subst q36
      replace h := sm_l h
      refine lv_iconst (v := (0 : Int32)) hx hb dX1_product_75 (by decide) ?_
      obtain ⟨a1, a2⟩ := so2 h
      replace hW := gWd_nI a2 hW
      exact g_nmi a1 (hfin _ _ _ _ (a1 ▸ (Or.inl rfl)) hW dX1_product_76)
    · intro I37 q38 H locs hW ls hl
      replace q38 := Option.some.inj q38
      subst q38
      replace h := sm_r h
      refine lv_iconst (v := (1 : Int32)) hx hb dX1_product_93 (by decide) ?_
      obtain ⟨a1, a2⟩ := so2 h
      replace hW := gWd_nI a2 hW
      exact g_nmi a1 (hfin _ _ _ _ (a1 ▸ (Or.inr rfl)) hW dX1_product_94)
  · replace h := gi_t h c5
    refine lv_iconst (v := (0 : Int32)) hx hb dX1_product_8 (by decide) ?_
    obtain ⟨a1, a2⟩ := so2 h
    replace hW := gWd_nI a2 hW
    exact g_nmi a1 (hfin _ _ _ _ (a1 ▸ (Or.inl rfl)) hW dX1_product_9)
theorem nm_X1_name : gNm yX1_name 2 := by decide +kernel
theorem nm_X1_opens : gNm yX1_opens 1 := by decide +kernel
theorem nm_X1_oneUnder : gNm yX1_oneUnder 2 := by decide +kernel
theorem nm_X1_choice : gNm yX1_choice 1 := by decide +kernel
theorem nm_X1_sum : gNm yX1_sum 1 := by decide +kernel
noncomputable def fX1_one_B (rg : gR)  (x1 : Int32) (I : gI) : Option (Int32 × gI) :=
  gd (vp_in (I 275 4) 301) (lz ((I 276 ((I 275 4)).toNatClampNeg)) (fun (u2 : Int32) => gi (u2 = (2 : Int32))
 (bd (fX1_name u2 (1 : Int32) I) (pr (fun (u5 : Int32) (I6 : gI) => some (u5, I6))))
 (gi (u2 = (3 : Int32))
 (bd (fX1_fails (1 : Int32) I) (pr (fun (u10 : Int32) (I11 : gI) => some (u10, I11))))
 (gi (u2 = (4 : Int32))
 (bd (fX1_name u2 (1 : Int32) I) (pr (fun (u15 : Int32) (I16 : gI) => some (u15, I16))))
 (gi (u2 = (5 : Int32))
 (bd (fX1_fails (1 : Int32) I) (pr (fun (u20 : Int32) (I21 : gI) => some (u20, I21))))
 (gi (u2 = (6 : Int32))
 (bd (fX1_fails (1 : Int32) I) (pr (fun (u25 : Int32) (I26 : gI) => some (u25, I26))))
 (gi (u2 = (7 : Int32))
 (bd (fX1_fails (1 : Int32) I) (pr (fun (u30 : Int32) (I31 : gI) => some (u30, I31))))
 (gi (u2 = (8 : Int32))
 (bd (fX1_fails (1 : Int32) I) (pr (fun (u35 : Int32) (I36 : gI) => some (u35, I36))))
 (gi (u2 = (9 : Int32))
 (bd (fX1_name u2 (1 : Int32) I) (pr (fun (u40 : Int32) (I41 : gI) => some (u40, I41))))
 (gi (u2 = (10 : Int32))
 (bd (fX1_opens x1 I) (pr (fun (u45 : Int32) (I46 : gI) => gi (u45 = 0)
 (some ((0 : Int32), I46))
 (bd (rg 3 u2 (x1 + (1 : Int32)) I46) (pr (fun (u50 : Int32) (I51 : gI) => gi (u50 = 0)
 (some ((0 : Int32), I51))
 (some ((1 : Int32), I51))))))))
 (gi (u2 = (11 : Int32))
 (bd (fX1_opens x1 I) (pr (fun (u56 : Int32) (I57 : gI) => gi (u56 = 0)
 (some ((0 : Int32), I57))
 (bd (rg 3 u2 (x1 + (1 : Int32)) I57) (pr (fun (u61 : Int32) (I62 : gI) => gi (u61 = 0)
 (some ((0 : Int32), I62))
 (some ((1 : Int32), I62))))))))
 (gi (u2 = (12 : Int32))
 (bd (fX1_opens x1 I) (pr (fun (u67 : Int32) (I68 : gI) => gi (u67 = 0)
 (some ((0 : Int32), I68))
 (bd (rg 4 (x1 + (1 : Int32)) (0 : Int32) I68) (pr (fun (u72 : Int32) (I73 : gI) => gi (u72 = 0)
 (some ((0 : Int32), I73))
 (some ((1 : Int32), I73))))))))
 (gi (u2 = (13 : Int32))
 (bd (fX1_fails (1 : Int32) I) (pr (fun (u78 : Int32) (I79 : gI) => some (u78, I79))))
 (gi (u2 = (14 : Int32))
 (bd (fX1_fails (1 : Int32) I) (pr (fun (u83 : Int32) (I84 : gI) => some (u83, I84))))
 (gi (u2 = (15 : Int32))
 (bd (fX1_fails (1 : Int32) I) (pr (fun (u88 : Int32) (I89 : gI) => some (u88, I89))))
 (gi (u2 = (16 : Int32))
 (bd (fX1_fails (1 : Int32) I) (pr (fun (u93 : Int32) (I94 : gI) => some (u93, I94))))
 (gi (u2 = (17 : Int32))
 (bd (fX1_fails (1 : Int32) I) (pr (fun (u98 : Int32) (I99 : gI) => some (u98, I99))))
 (gi (u2 = (18 : Int32))
 (bd (fX1_fails (1 : Int32) I) (pr (fun (u103 : Int32) (I104 : gI) => some (u103, I104))))
 (gi (u2 = (19 : Int32))
 (bd (fX1_name u2 (1 : Int32) I) (pr (fun (u108 : Int32) (I109 : gI) => some (u108, I109))))
 (gi (u2 = (20 : Int32))
 (bd (fX1_name u2 (1 : Int32) I) (pr (fun (u113 : Int32) (I114 : gI) => some (u113, I114))))
 (gi (u2 = (21 : Int32))
 (bd (fX1_name u2 (1 : Int32) I) (pr (fun (u118 : Int32) (I119 : gI) => some (u118, I119))))
 (gi (u2 = (22 : Int32))
 (lz (fun (u123 : Int32) => bd (fX1_name u2 u123 I) (pr (fun (u127 : Int32) (I128 : gI) => some (u127, I128)))) (fun j124 => gi ((I 275 5) = 0)
 (j124 (1 : Int32))
 (j124 (0 : Int32))))
 (gi (u2 = (23 : Int32))
 (lz (fun (u133 : Int32) => bd (fX1_name u2 u133 I) (pr (fun (u137 : Int32) (I138 : gI) => some (u137, I138)))) (fun j134 => gi ((I 275 5) = (1 : Int32))
 (j134 (1 : Int32))
 (j134 (0 : Int32))))
 (gi (u2 = (24 : Int32))
 (bd (fX1_number (0 : Int32) (9999 : Int32) I) (pr (fun (u143 : Int32) (I144 : gI) => gd (gAt LC (I144 275 6).toNatClampNeg 0 3) (bd (fX3_emit ((I144 275 6).toNatClampNeg) u2 u143 I144) (pr (fun (u148 : Int32) (I149 : gI) => gi (u143 = (-1 : Int32))
 (some ((0 : Int32), I149))
 (some ((1 : Int32), I149))))))))
 (gi (u2 = (25 : Int32))
 (bd (fX1_fails (1 : Int32) I) (pr (fun (u154 : Int32) (I155 : gI) => some (u154, I155))))
 (gi (u2 = (26 : Int32))
 (bd (fX1_fails (1 : Int32) I) (pr (fun (u159 : Int32) (I160 : gI) => some (u159, I160))))
 (gi (u2 = (27 : Int32))
 (bd (fX1_fails (1 : Int32) I) (pr (fun (u164 : Int32) (I165 : gI) => some (u164, I165))))
 (gi (u2 = (28 : Int32))
 (bd (fX1_fails (1 : Int32) I) (pr (fun (u169 : Int32) (I170 : gI) => some (u169, I170))))
 (gi (u2 = (29 : Int32))
 (bd (fX1_fails (1 : Int32) I) (pr (fun (u174 : Int32) (I175 : gI) => some (u174, I175))))
 (gi (u2 = (30 : Int32))
 (bd (fX1_fails (1 : Int32) I) (pr (fun (u179 : Int32) (I180 : gI) => some (u179, I180))))
 (gi (u2 = (31 : Int32))
 (bd (fX1_fails (1 : Int32) I) (pr (fun (u184 : Int32) (I185 : gI) => some (u184, I185))))
 (gi (u2 = (32 : Int32))
 (bd (fX1_opens x1 I) (pr (fun (u189 : Int32) (I190 : gI) => gi (u189 = 0)
 (some ((0 : Int32), I190))
 (bd (rg 3 (38 : Int32) (x1 + (1 : Int32)) I190) (pr (fun (u194 : Int32) (I195 : gI) => gi (u194 = 0)
 (some ((0 : Int32), I195))
 (some ((1 : Int32), I195))))))))
 (gi (u2 = (33 : Int32))
 (bd (fX1_fails (1 : Int32) I) (pr (fun (u200 : Int32) (I201 : gI) => some (u200, I201))))
 (gi (u2 = (34 : Int32))
 (bd (fX1_fails (1 : Int32) I) (pr (fun (u205 : Int32) (I206 : gI) => some (u205, I206))))
 (gi (u2 = (35 : Int32))
 (bd (fX1_opens x1 I) (pr (fun (u210 : Int32) (I211 : gI) => gi (u210 = 0)
 (some ((0 : Int32), I211))
 (bd (rg 0 (x1 + (1 : Int32)) (0 : Int32) I211) (pr (fun (u215 : Int32) (I216 : gI) => gi (u215 = 0)
 (some ((0 : Int32), I216))
 (bd (fX1_takes (36 : Int32) I216) (pr (fun (u220 : Int32) (I221 : gI) => gi (u220 = 0)
 (some ((0 : Int32), I221))
 (some ((1 : Int32), I221)))))))))))
 (bd (fX1_fails (1 : Int32) I) (pr (fun (u225 : Int32) (I226 : gI) => some (u225, I226)))))))))))))))))))))))))))))))))))))))
set_option maxHeartbeats 4000000 in
set_option maxRecDepth 100000 in
theorem kX1_one_B {l : Launch} {G : gG} {ad : Nat → Nat} (hok : gInj LC ad) (k : Nat) (rg : gR) (hG : gIH l G ad (10 + k) rg)   (x1 : Int32) (I : gI) (J : gJ) (r : Int32) (I' : gI) (h : fX1_one_B rg x1 I = some (r, I')) : gMi l yX1_one cX1_one 4 (some .boolean) (10 + k + 1) G LC ad [.ref (ad 275), .int x1] I J r (r = 0 ∨ r = 1) I' J := by
  refine gMz_of (lst := [(0, .ref (ad 275)), (1, .int x1)]) (by decide) hok (Nat.le_of_ble_eq_true rfl) rfl ?_
  intro p e s m args below meth c Q ls K hW hl hfin
  have hn : (some (r, I') : Option (Int32 × gI)) ≠ none := Option.some_ne_none _
  have hx := K.1; have hb := K.2.1; have hown := K.2.2.2.1; have hts := K.2.2.2.2.1
  unfold fX1_one_B at h
  refine lv_aload_n hx hb dX1_one_0 rfl (lv_at hl 0 rfl) ?_
  refine g_get K hW (t := 2) (ci := 1) (k := 0) (v := .ref (ad 276)) kLC_275 rfl rfl i_X1 (by decide) q_350 rfl (gfv2 rLC_275_0) dX1_one_1 ?_
  refine lv_aload_n hx hb dX1_one_4 rfl (lv_at hl 0 rfl) ?_
  refine g_get K hW (t := 0) (ci := 1) (k := 4) (v := .int (I 275 4)) kLC_275 rfl rfl i_X1 (by decide) q_354 rfl rfl dX1_one_5 ?_
  obtain ⟨g1, h⟩ := gd_o h hn
  refine g_iald K hW kLC_276 g1 rfl dX1_one_8 ?_
  obtain ⟨u2, e3, h⟩ := lz_o h
  refine g_nmi e3 ?_
  refine lv_istore_n (lv' := [(2, .int u2), (0, .ref (ad 275)), (1, .int x1)]) hx hb dX1_one_9 rfl hl (by decide) rfl (fun ls hl => ?_)
  refine lv_iload_n hx hb dX1_one_10 rfl (lv_at hl 0 rfl) ?_
  rcases Classical.em (u2 = (2 : Int32)) with c4 | c4
  · replace h := gi_t h c4
    refine g_tabIn (k := (2 : Int32)) (tgt := 190) (off := 179) hx hb c4 dX1_one_11 (by decide) (by decide) (by decide) (by decide) ?_
    refine lv_aload_n hx hb dX1_one_190 rfl (lv_at hl 1 rfl) ?_
    refine lv_iload_n hx hb dX1_one_191 rfl (lv_at hl 0 rfl) ?_
    refine lv_iconst (v := (1 : Int32)) hx hb dX1_one_192 (by decide) ?_
    obtain ⟨⟨u5, I6⟩, e7, h⟩ := bd_o h hn
    replace h := pr_o h
    refine g_callVi (rest := []) K hW hl (kX1_name (l := l) (G := G) (ad := ad) hok u2 (1 : Int32) I J u5 I6 e7) kLC_275 rfl (gG_V q_608 q_610 q_13 q_136 q_611) nm_X1_name (gRo_l (by decide) (by decide)) rfl rfl (Nat.le_of_ble_eq_true rfl) ⟨Nat.zero_le _, Nat.zero_le _⟩ dX1_one_193 (fun z8 H locs hW => ?_)
    obtain ⟨a1, a2⟩ := so2 h
    replace hW := gWd_nI a2 hW
    exact g_nmi a1 (hfin _ _ _ _ (a1 ▸ z8) hW dX1_one_196)
  · replace h := gi_f h c4
    rcases Classical.em (u2 = (3 : Int32)) with c9 | c9
    · replace h := gi_t h c9
      refine g_tabIn (k := (3 : Int32)) (tgt := 342) (off := 331) hx hb c9 dX1_one_11 (by decide) (by decide) (by decide) (by decide) ?_
      refine lv_aload_n hx hb dX1_one_342 rfl (lv_at hl 1 rfl) ?_
      refine lv_iconst (v := (1 : Int32)) hx hb dX1_one_343 (by decide) ?_
      obtain ⟨⟨u10, I11⟩, e12, h⟩ := bd_o h hn
      replace h := pr_o h
      refine g_callVi (rest := []) K hW hl (kX1_fails (l := l) (G := G) (ad := ad) hok (1 : Int32) I J u10 I11 e12) kLC_275 rfl (gG_V q_575 q_577 q_7 q_136 q_578) nm_X1_fails (gRo_l (by decide) (by decide)) rfl rfl (Nat.le_of_ble_eq_true rfl) ⟨Nat.zero_le _, Nat.zero_le _⟩ dX1_one_344 (fun z13 H locs hW => ?_)
      obtain ⟨a1, a2⟩ := so2 h
      replace hW := gWd_nI a2 hW
      exact g_nmi a1 (hfin _ _ _ _ (a1 ▸ z13) hW dX1_one_347)
    · replace h := gi_f h c9
      rcases Classical.em (u2 = (4 : Int32)) with c14 | c14
      · replace h := gi_t h c14
        refine g_tabIn (k := (4 : Int32)) (tgt := 190) (off := 179) hx hb c14 dX1_one_11 (by decide) (by decide) (by decide) (by decide) ?_
        refine lv_aload_n hx hb dX1_one_190 rfl (lv_at hl 1 rfl) ?_
        refine lv_iload_n hx hb dX1_one_191 rfl (lv_at hl 0 rfl) ?_
        refine lv_iconst (v := (1 : Int32)) hx hb dX1_one_192 (by decide) ?_
        obtain ⟨⟨u15, I16⟩, e17, h⟩ := bd_o h hn
        replace h := pr_o h
        refine g_callVi (rest := []) K hW hl (kX1_name (l := l) (G := G) (ad := ad) hok u2 (1 : Int32) I J u15 I16 e17) kLC_275 rfl (gG_V q_608 q_610 q_13 q_136 q_611) nm_X1_name (gRo_l (by decide) (by decide)) rfl rfl (Nat.le_of_ble_eq_true rfl) ⟨Nat.zero_le _, Nat.zero_le _⟩ dX1_one_193 (fun z18 H locs hW => ?_)
        obtain ⟨a1, a2⟩ := so2 h
        replace hW := gWd_nI a2 hW
        exact g_nmi a1 (hfin _ _ _ _ (a1 ▸ z18) hW dX1_one_196)
      · replace h := gi_f h c14
        rcases Classical.em (u2 = (5 : Int32)) with c19 | c19
        · replace h := gi_t h c19
          refine g_tabIn (k := (5 : Int32)) (tgt := 342) (off := 331) hx hb c19 dX1_one_11 (by decide) (by decide) (by decide) (by decide) ?_
          refine lv_aload_n hx hb dX1_one_342 rfl (lv_at hl 1 rfl) ?_
          refine lv_iconst (v := (1 : Int32)) hx hb dX1_one_343 (by decide) ?_
          obtain ⟨⟨u20, I21⟩, e22, h⟩ := bd_o h hn
          replace h := pr_o h
          refine g_callVi (rest := []) K hW hl (kX1_fails (l := l) (G := G) (ad := ad) hok (1 : Int32) I J u20 I21 e22) kLC_275 rfl (gG_V q_575 q_577 q_7 q_136 q_578) nm_X1_fails (gRo_l (by decide) (by decide)) rfl rfl (Nat.le_of_ble_eq_true rfl) ⟨Nat.zero_le _, Nat.zero_le _⟩ dX1_one_344 (fun z23 H locs hW => ?_)
          obtain ⟨a1, a2⟩ := so2 h
          replace hW := gWd_nI a2 hW
          exact g_nmi a1 (hfin _ _ _ _ (a1 ▸ z23) hW dX1_one_347)
        · replace h := gi_f h c19
          rcases Classical.em (u2 = (6 : Int32)) with c24 | c24
          · replace h := gi_t h c24
            refine g_tabIn (k := (6 : Int32)) (tgt := 342) (off := 331) hx hb c24 dX1_one_11 (by decide) (by decide) (by decide) (by decide) ?_
            refine lv_aload_n hx hb dX1_one_342 rfl (lv_at hl 1 rfl) ?_
            refine lv_iconst (v := (1 : Int32)) hx hb dX1_one_343 (by decide) ?_
            obtain ⟨⟨u25, I26⟩, e27, h⟩ := bd_o h hn
            replace h := pr_o h
            refine g_callVi (rest := []) K hW hl (kX1_fails (l := l) (G := G) (ad := ad) hok (1 : Int32) I J u25 I26 e27) kLC_275 rfl (gG_V q_575 q_577 q_7 q_136 q_578) nm_X1_fails (gRo_l (by decide) (by decide)) rfl rfl (Nat.le_of_ble_eq_true rfl) ⟨Nat.zero_le _, Nat.zero_le _⟩ dX1_one_344 (fun z28 H locs hW => ?_)
            obtain ⟨a1, a2⟩ := so2 h
            replace hW := gWd_nI a2 hW
            exact g_nmi a1 (hfin _ _ _ _ (a1 ▸ z28) hW dX1_one_347)
          · replace h := gi_f h c24
            rcases Classical.em (u2 = (7 : Int32)) with c29 | c29
            · replace h := gi_t h c29
              refine g_tabIn (k := (7 : Int32)) (tgt := 342) (off := 331) hx hb c29 dX1_one_11 (by decide) (by decide) (by decide) (by decide) ?_
              refine lv_aload_n hx hb dX1_one_342 rfl (lv_at hl 1 rfl) ?_
              refine lv_iconst (v := (1 : Int32)) hx hb dX1_one_343 (by decide) ?_
              obtain ⟨⟨u30, I31⟩, e32, h⟩ := bd_o h hn
              replace h := pr_o h
              refine g_callVi (rest := []) K hW hl (kX1_fails (l := l) (G := G) (ad := ad) hok (1 : Int32) I J u30 I31 e32) kLC_275 rfl (gG_V q_575 q_577 q_7 q_136 q_578) nm_X1_fails (gRo_l (by decide) (by decide)) rfl rfl (Nat.le_of_ble_eq_true rfl) ⟨Nat.zero_le _, Nat.zero_le _⟩ dX1_one_344 (fun z33 H locs hW => ?_)
              obtain ⟨a1, a2⟩ := so2 h
              replace hW := gWd_nI a2 hW
              exact g_nmi a1 (hfin _ _ _ _ (a1 ▸ z33) hW dX1_one_347)
            · replace h := gi_f h c29
              rcases Classical.em (u2 = (8 : Int32)) with c34 | c34
              · replace h := gi_t h c34
                refine g_tabIn (k := (8 : Int32)) (tgt := 342) (off := 331) hx hb c34 dX1_one_11 (by decide) (by decide) (by decide) (by decide) ?_
                refine lv_aload_n hx hb dX1_one_342 rfl (lv_at hl 1 rfl) ?_
                refine lv_iconst (v := (1 : Int32)) hx hb dX1_one_343 (by decide) ?_
                obtain ⟨⟨u35, I36⟩, e37, h⟩ := bd_o h hn
                replace h := pr_o h
                refine g_callVi (rest := []) K hW hl (kX1_fails (l := l) (G := G) (ad := ad) hok (1 : Int32) I J u35 I36 e37) kLC_275 rfl (gG_V q_575 q_577 q_7 q_136 q_578) nm_X1_fails (gRo_l (by decide) (by decide)) rfl rfl (Nat.le_of_ble_eq_true rfl) ⟨Nat.zero_le _, Nat.zero_le _⟩ dX1_one_344 (fun z38 H locs hW => ?_)
                obtain ⟨a1, a2⟩ := so2 h
                replace hW := gWd_nI a2 hW
                exact g_nmi a1 (hfin _ _ _ _ (a1 ▸ z38) hW dX1_one_347)
              · replace h := gi_f h c34
                rcases Classical.em (u2 = (9 : Int32)) with c39 | c39
                · replace h := gi_t h c39
                  refine g_tabIn (k := (9 : Int32)) (tgt := 190) (off := 179) hx hb c39 dX1_one_11 (by decide) (by decide) (by decide) (by decide) ?_
                  refine lv_aload_n hx hb dX1_one_190 rfl (lv_at hl 1 rfl) ?_
                  refine lv_iload_n hx hb dX1_one_191 rfl (lv_at hl 0 rfl) ?_
                  refine lv_iconst (v := (1 : Int32)) hx hb dX1_one_192 (by decide) ?_
                  obtain ⟨⟨u40, I41⟩, e42, h⟩ := bd_o h hn
                  replace h := pr_o h
                  refine g_callVi (rest := []) K hW hl (kX1_name (l := l) (G := G) (ad := ad) hok u2 (1 : Int32) I J u40 I41 e42) kLC_275 rfl (gG_V q_608 q_610 q_13 q_136 q_611) nm_X1_name (gRo_l (by decide) (by decide)) rfl rfl (Nat.le_of_ble_eq_true rfl) ⟨Nat.zero_le _, Nat.zero_le _⟩ dX1_one_193 (fun z43 H locs hW => ?_)
                  obtain ⟨a1, a2⟩ := so2 h
                  replace hW := gWd_nI a2 hW
                  exact g_nmi a1 (hfin _ _ _ _ (a1 ▸ z43) hW dX1_one_196)
                · replace h := gi_f h c39
                  rcases Classical.em (u2 = (10 : Int32)) with c44 | c44
                  · replace h := gi_t h c44
                    refine g_tabIn (k := (10 : Int32)) (tgt := 293) (off := 282) hx hb c44 dX1_one_11 (by decide) (by decide) (by decide) (by decide) ?_
                    refine lv_aload_n hx hb dX1_one_293 rfl (lv_at hl 1 rfl) ?_
                    refine lv_iload_n hx hb dX1_one_294 rfl (lv_at hl 2 rfl) ?_
                    obtain ⟨⟨u45, I46⟩, e47, h⟩ := bd_o h hn
                    replace h := pr_o h
                    refine g_callVi (rest := []) K hW hl (kX1_opens (l := l) (G := G) (ad := ad) hok x1 I J u45 I46 e47) kLC_275 rfl (gG_V q_612 q_614 q_14 q_136 q_615) nm_X1_opens (gRo_l (by decide) (by decide)) rfl rfl (Nat.le_of_ble_eq_true rfl) ⟨Nat.zero_le _, Nat.zero_le _⟩ dX1_one_295 (fun z48 H locs hW => ?_)
                    refine lv_if_eq (tgt := 316) hx hb dX1_one_298 (by decide) (fun c49 => ?_) (fun c49 => ?_)
                    · replace h := gi_t h c49
                      refine lv_iconst (v := (0 : Int32)) hx hb dX1_one_316 (by decide) ?_
                      obtain ⟨a1, a2⟩ := so2 h
                      replace hW := gWd_nI a2 hW
                      exact g_nmi a1 (hfin _ _ _ _ (a1 ▸ (Or.inl rfl)) hW dX1_one_317)
                    · replace h := gi_f h c49
                      refine lv_aload_n hx hb dX1_one_301 rfl (lv_at hl 1 rfl) ?_
                      refine lv_iload_n hx hb dX1_one_302 rfl (lv_at hl 0 rfl) ?_
                      refine lv_iload_n hx hb dX1_one_303 rfl (lv_at hl 2 rfl) ?_
                      refine lv_iconst (v := (1 : Int32)) hx hb dX1_one_304 (by decide) ?_
                      refine lv_iadd hx hb dX1_one_305 ?_
                      obtain ⟨⟨u50, I51⟩, e52, h⟩ := bd_o h hn
                      replace h := pr_o h
                      refine g_callVi (rest := []) K hW hl (gIH_3 hG u2 (x1 + (1 : Int32)) I46 J u50 I51 e52) kLC_275 rfl (gG_V q_620 q_622 q_16 q_136 q_623) nm_X1_oneUnder (gRo_g (by decide) (by decide)) rfl rfl (Nat.le_of_ble_eq_true rfl) ⟨Nat.zero_le _, Nat.zero_le _⟩ dX1_one_306 (fun z53 H locs hW => ?_)
                      refine lv_if_eq (tgt := 316) hx hb dX1_one_309 (by decide) (fun c54 => ?_) (fun c54 => ?_)
                      · replace h := gi_t h c54
                        refine lv_iconst (v := (0 : Int32)) hx hb dX1_one_316 (by decide) ?_
                        obtain ⟨a1, a2⟩ := so2 h
                        replace hW := gWd_nI a2 hW
                        exact g_nmi a1 (hfin _ _ _ _ (a1 ▸ (Or.inl rfl)) hW dX1_one_317)
                      · replace h := gi_f h c54
                        refine lv_iconst (v := (1 : Int32)) hx hb dX1_one_312 (by decide) ?_
                        refine lv_goto (tgt := 317) hx hb dX1_one_313 (by decide) ?_
                        obtain ⟨a1, a2⟩ := so2 h
                        replace hW := gWd_nI a2 hW
                        exact g_nmi a1 (hfin _ _ _ _ (a1 ▸ (Or.inr rfl)) hW dX1_one_317)
                  · replace h := gi_f h c44
                    rcases Classical.em (u2 = (11 : Int32)) with c55 | c55
                    · replace h := gi_t h c55
                      refine g_tabIn (k := (11 : Int32)) (tgt := 293) (off := 282) hx hb c55 dX1_one_11 (by decide) (by decide) (by decide) (by decide) ?_
                      refine lv_aload_n hx hb dX1_one_293 rfl (lv_at hl 1 rfl) ?_
                      refine lv_iload_n hx hb dX1_one_294 rfl (lv_at hl 2 rfl) ?_
                      obtain ⟨⟨u56, I57⟩, e58, h⟩ := bd_o h hn
                      replace h := pr_o h
                      refine g_callVi (rest := []) K hW hl (kX1_opens (l := l) (G := G) (ad := ad) hok x1 I J u56 I57 e58) kLC_275 rfl (gG_V q_612 q_614 q_14 q_136 q_615) nm_X1_opens (gRo_l (by decide) (by decide)) rfl rfl (Nat.le_of_ble_eq_true rfl) ⟨Nat.zero_le _, Nat.zero_le _⟩ dX1_one_295 (fun z59 H locs hW => ?_)
                      refine lv_if_eq (tgt := 316) hx hb dX1_one_298 (by decide) (fun c60 => ?_) (fun c60 => ?_)
                      · replace h := gi_t h c60
                        refine lv_iconst (v := (0 : Int32)) hx hb dX1_one_316 (by decide) ?_
                        obtain ⟨a1, a2⟩ := so2 h
                        replace hW := gWd_nI a2 hW
                        exact g_nmi a1 (hfin _ _ _ _ (a1 ▸ (Or.inl rfl)) hW dX1_one_317)
                      · replace h := gi_f h c60
                        refine lv_aload_n hx hb dX1_one_301 rfl (lv_at hl 1 rfl) ?_
                        refine lv_iload_n hx hb dX1_one_302 rfl (lv_at hl 0 rfl) ?_
                        refine lv_iload_n hx hb dX1_one_303 rfl (lv_at hl 2 rfl) ?_
                        refine lv_iconst (v := (1 : Int32)) hx hb dX1_one_304 (by decide) ?_
                        refine lv_iadd hx hb dX1_one_305 ?_
                        obtain ⟨⟨u61, I62⟩, e63, h⟩ := bd_o h hn
                        replace h := pr_o h
                        refine g_callVi (rest := []) K hW hl (gIH_3 hG u2 (x1 + (1 : Int32)) I57 J u61 I62 e63) kLC_275 rfl (gG_V q_620 q_622 q_16 q_136 q_623) nm_X1_oneUnder (gRo_g (by decide) (by decide)) rfl rfl (Nat.le_of_ble_eq_true rfl) ⟨Nat.zero_le _, Nat.zero_le _⟩ dX1_one_306 (fun z64 H locs hW => ?_)
                        refine lv_if_eq (tgt := 316) hx hb dX1_one_309 (by decide) (fun c65 => ?_) (fun c65 => ?_)
                        · replace h := gi_t h c65
                          refine lv_iconst (v := (0 : Int32)) hx hb dX1_one_316 (by decide) ?_
                          obtain ⟨a1, a2⟩ := so2 h
                          replace hW := gWd_nI a2 hW
                          exact g_nmi a1 (hfin _ _ _ _ (a1 ▸ (Or.inl rfl)) hW dX1_one_317)
                        · replace h := gi_f h c65
                          refine lv_iconst (v := (1 : Int32)) hx hb dX1_one_312 (by decide) ?_
                          refine lv_goto (tgt := 317) hx hb dX1_one_313 (by decide) ?_
                          obtain ⟨a1, a2⟩ := so2 h
                          replace hW := gWd_nI a2 hW
                          exact g_nmi a1 (hfin _ _ _ _ (a1 ▸ (Or.inr rfl)) hW dX1_one_317)
                    · replace h := gi_f h c55
                      rcases Classical.em (u2 = (12 : Int32)) with c66 | c66
                      · replace h := gi_t h c66
                        refine g_tabIn (k := (12 : Int32)) (tgt := 318) (off := 307) hx hb c66 dX1_one_11 (by decide) (by decide) (by decide) (by decide) ?_
                        refine lv_aload_n hx hb dX1_one_318 rfl (lv_at hl 1 rfl) ?_
                        refine lv_iload_n hx hb dX1_one_319 rfl (lv_at hl 2 rfl) ?_
                        obtain ⟨⟨u67, I68⟩, e69, h⟩ := bd_o h hn
                        replace h := pr_o h
                        refine g_callVi (rest := []) K hW hl (kX1_opens (l := l) (G := G) (ad := ad) hok x1 I J u67 I68 e69) kLC_275 rfl (gG_V q_612 q_614 q_14 q_136 q_615) nm_X1_opens (gRo_l (by decide) (by decide)) rfl rfl (Nat.le_of_ble_eq_true rfl) ⟨Nat.zero_le _, Nat.zero_le _⟩ dX1_one_320 (fun z70 H locs hW => ?_)
                        refine lv_if_eq (tgt := 340) hx hb dX1_one_323 (by decide) (fun c71 => ?_) (fun c71 => ?_)
                        · replace h := gi_t h c71
                          refine lv_iconst (v := (0 : Int32)) hx hb dX1_one_340 (by decide) ?_
                          obtain ⟨a1, a2⟩ := so2 h
                          replace hW := gWd_nI a2 hW
                          exact g_nmi a1 (hfin _ _ _ _ (a1 ▸ (Or.inl rfl)) hW dX1_one_341)
                        · replace h := gi_f h c71
                          refine lv_aload_n hx hb dX1_one_326 rfl (lv_at hl 1 rfl) ?_
                          refine lv_iload_n hx hb dX1_one_327 rfl (lv_at hl 2 rfl) ?_
                          refine lv_iconst (v := (1 : Int32)) hx hb dX1_one_328 (by decide) ?_
                          refine lv_iadd hx hb dX1_one_329 ?_
                          obtain ⟨⟨u72, I73⟩, e74, h⟩ := bd_o h hn
                          replace h := pr_o h
                          refine g_callVi (rest := []) K hW hl (gIH_4 hG (x1 + (1 : Int32)) I68 J u72 I73 e74) kLC_275 rfl (gG_V q_624 q_626 q_17 q_136 q_627) nm_X1_choice (gRo_g (by decide) (by decide)) rfl rfl (Nat.le_of_ble_eq_true rfl) ⟨Nat.zero_le _, Nat.zero_le _⟩ dX1_one_330 (fun z75 H locs hW => ?_)
                          refine lv_if_eq (tgt := 340) hx hb dX1_one_333 (by decide) (fun c76 => ?_) (fun c76 => ?_)
                          · replace h := gi_t h c76
                            refine lv_iconst (v := (0 : Int32)) hx hb dX1_one_340 (by decide) ?_
                            obtain ⟨a1, a2⟩ := so2 h
                            replace hW := gWd_nI a2 hW
                            exact g_nmi a1 (hfin _ _ _ _ (a1 ▸ (Or.inl rfl)) hW dX1_one_341)
                          · replace h := gi_f h c76
                            refine lv_iconst (v := (1 : Int32)) hx hb dX1_one_336 (by decide) ?_
                            refine lv_goto (tgt := 341) hx hb dX1_one_337 (by decide) ?_
                            obtain ⟨a1, a2⟩ := so2 h
                            replace hW := gWd_nI a2 hW
                            exact g_nmi a1 (hfin _ _ _ _ (a1 ▸ (Or.inr rfl)) hW dX1_one_341)
                      · replace h := gi_f h c66
                        rcases Classical.em (u2 = (13 : Int32)) with c77 | c77
                        · replace h := gi_t h c77
                          refine g_tabIn (k := (13 : Int32)) (tgt := 342) (off := 331) hx hb c77 dX1_one_11 (by decide) (by decide) (by decide) (by decide) ?_
                          refine lv_aload_n hx hb dX1_one_342 rfl (lv_at hl 1 rfl) ?_
                          refine lv_iconst (v := (1 : Int32)) hx hb dX1_one_343 (by decide) ?_
                          obtain ⟨⟨u78, I79⟩, e80, h⟩ := bd_o h hn
                          replace h := pr_o h
                          refine g_callVi (rest := []) K hW hl (kX1_fails (l := l) (G := G) (ad := ad) hok (1 : Int32) I J u78 I79 e80) kLC_275 rfl (gG_V q_575 q_577 q_7 q_136 q_578) nm_X1_fails (gRo_l (by decide) (by decide)) rfl rfl (Nat.le_of_ble_eq_true rfl) ⟨Nat.zero_le _, Nat.zero_le _⟩ dX1_one_344 (fun z81 H locs hW => ?_)
                          obtain ⟨a1, a2⟩ := so2 h
                          replace hW := gWd_nI a2 hW
                          exact g_nmi a1 (hfin _ _ _ _ (a1 ▸ z81) hW dX1_one_347)
                        · replace h := gi_f h c77
                          rcases Classical.em (u2 = (14 : Int32)) with c82 | c82
                          · replace h := gi_t h c82
                            refine g_tabIn (k := (14 : Int32)) (tgt := 342) (off := 331) hx hb c82 dX1_one_11 (by decide) (by decide) (by decide) (by decide) ?_
                            refine lv_aload_n hx hb dX1_one_342 rfl (lv_at hl 1 rfl) ?_
                            refine lv_iconst (v := (1 : Int32)) hx hb dX1_one_343 (by decide) ?_
                            obtain ⟨⟨u83, I84⟩, e85, h⟩ := bd_o h hn
                            replace h := pr_o h
                            refine g_callVi (rest := []) K hW hl (kX1_fails (l := l) (G := G) (ad := ad) hok (1 : Int32) I J u83 I84 e85) kLC_275 rfl (gG_V q_575 q_577 q_7 q_136 q_578) nm_X1_fails (gRo_l (by decide) (by decide)) rfl rfl (Nat.le_of_ble_eq_true rfl) ⟨Nat.zero_le _, Nat.zero_le _⟩ dX1_one_344 (fun z86 H locs hW => ?_)
                            obtain ⟨a1, a2⟩ := so2 h
                            replace hW := gWd_nI a2 hW
                            exact g_nmi a1 (hfin _ _ _ _ (a1 ▸ z86) hW dX1_one_347)
                          · replace h := gi_f h c82
                            rcases Classical.em (u2 = (15 : Int32)) with c87 | c87
                            · replace h := gi_t h c87
                              refine g_tabIn (k := (15 : Int32)) (tgt := 342) (off := 331) hx hb c87 dX1_one_11 (by decide) (by decide) (by decide) (by decide) ?_
                              refine lv_aload_n hx hb dX1_one_342 rfl (lv_at hl 1 rfl) ?_
                              refine lv_iconst (v := (1 : Int32)) hx hb dX1_one_343 (by decide) ?_
                              obtain ⟨⟨u88, I89⟩, e90, h⟩ := bd_o h hn
                              replace h := pr_o h
                              refine g_callVi (rest := []) K hW hl (kX1_fails (l := l) (G := G) (ad := ad) hok (1 : Int32) I J u88 I89 e90) kLC_275 rfl (gG_V q_575 q_577 q_7 q_136 q_578) nm_X1_fails (gRo_l (by decide) (by decide)) rfl rfl (Nat.le_of_ble_eq_true rfl) ⟨Nat.zero_le _, Nat.zero_le _⟩ dX1_one_344 (fun z91 H locs hW => ?_)
                              obtain ⟨a1, a2⟩ := so2 h
                              replace hW := gWd_nI a2 hW
                              exact g_nmi a1 (hfin _ _ _ _ (a1 ▸ z91) hW dX1_one_347)
                            · replace h := gi_f h c87
                              rcases Classical.em (u2 = (16 : Int32)) with c92 | c92
                              · replace h := gi_t h c92
                                refine g_tabIn (k := (16 : Int32)) (tgt := 342) (off := 331) hx hb c92 dX1_one_11 (by decide) (by decide) (by decide) (by decide) ?_
                                refine lv_aload_n hx hb dX1_one_342 rfl (lv_at hl 1 rfl) ?_
                                refine lv_iconst (v := (1 : Int32)) hx hb dX1_one_343 (by decide) ?_
                                obtain ⟨⟨u93, I94⟩, e95, h⟩ := bd_o h hn
                                replace h := pr_o h
                                refine g_callVi (rest := []) K hW hl (kX1_fails (l := l) (G := G) (ad := ad) hok (1 : Int32) I J u93 I94 e95) kLC_275 rfl (gG_V q_575 q_577 q_7 q_136 q_578) nm_X1_fails (gRo_l (by decide) (by decide)) rfl rfl (Nat.le_of_ble_eq_true rfl) ⟨Nat.zero_le _, Nat.zero_le _⟩ dX1_one_344 (fun z96 H locs hW => ?_)
                                obtain ⟨a1, a2⟩ := so2 h
                                replace hW := gWd_nI a2 hW
                                exact g_nmi a1 (hfin _ _ _ _ (a1 ▸ z96) hW dX1_one_347)
                              · replace h := gi_f h c92
                                rcases Classical.em (u2 = (17 : Int32)) with c97 | c97
                                · replace h := gi_t h c97
                                  refine g_tabIn (k := (17 : Int32)) (tgt := 342) (off := 331) hx hb c97 dX1_one_11 (by decide) (by decide) (by decide) (by decide) ?_
                                  refine lv_aload_n hx hb dX1_one_342 rfl (lv_at hl 1 rfl) ?_
                                  refine lv_iconst (v := (1 : Int32)) hx hb dX1_one_343 (by decide) ?_
                                  obtain ⟨⟨u98, I99⟩, e100, h⟩ := bd_o h hn
                                  replace h := pr_o h
                                  refine g_callVi (rest := []) K hW hl (kX1_fails (l := l) (G := G) (ad := ad) hok (1 : Int32) I J u98 I99 e100) kLC_275 rfl (gG_V q_575 q_577 q_7 q_136 q_578) nm_X1_fails (gRo_l (by decide) (by decide)) rfl rfl (Nat.le_of_ble_eq_true rfl) ⟨Nat.zero_le _, Nat.zero_le _⟩ dX1_one_344 (fun z101 H locs hW => ?_)
                                  obtain ⟨a1, a2⟩ := so2 h
                                  replace hW := gWd_nI a2 hW
                                  exact g_nmi a1 (hfin _ _ _ _ (a1 ▸ z101) hW dX1_one_347)
                                · replace h := gi_f h c97
                                  rcases Classical.em (u2 = (18 : Int32)) with c102 | c102
                                  · replace h := gi_t h c102
                                    refine g_tabIn (k := (18 : Int32)) (tgt := 342) (off := 331) hx hb c102 dX1_one_11 (by decide) (by decide) (by decide) (by decide) ?_
                                    refine lv_aload_n hx hb dX1_one_342 rfl (lv_at hl 1 rfl) ?_
                                    refine lv_iconst (v := (1 : Int32)) hx hb dX1_one_343 (by decide) ?_
                                    obtain ⟨⟨u103, I104⟩, e105, h⟩ := bd_o h hn
                                    replace h := pr_o h
                                    refine g_callVi (rest := []) K hW hl (kX1_fails (l := l) (G := G) (ad := ad) hok (1 : Int32) I J u103 I104 e105) kLC_275 rfl (gG_V q_575 q_577 q_7 q_136 q_578) nm_X1_fails (gRo_l (by decide) (by decide)) rfl rfl (Nat.le_of_ble_eq_true rfl) ⟨Nat.zero_le _, Nat.zero_le _⟩ dX1_one_344 (fun z106 H locs hW => ?_)
                                    obtain ⟨a1, a2⟩ := so2 h
                                    replace hW := gWd_nI a2 hW
                                    exact g_nmi a1 (hfin _ _ _ _ (a1 ▸ z106) hW dX1_one_347)
                                  · replace h := gi_f h c102
                                    rcases Classical.em (u2 = (19 : Int32)) with c107 | c107
                                    · replace h := gi_t h c107
                                      refine g_tabIn (k := (19 : Int32)) (tgt := 190) (off := 179) hx hb c107 dX1_one_11 (by decide) (by decide) (by decide) (by decide) ?_
                                      refine lv_aload_n hx hb dX1_one_190 rfl (lv_at hl 1 rfl) ?_
                                      refine lv_iload_n hx hb dX1_one_191 rfl (lv_at hl 0 rfl) ?_
                                      refine lv_iconst (v := (1 : Int32)) hx hb dX1_one_192 (by decide) ?_
                                      obtain ⟨⟨u108, I109⟩, e110, h⟩ := bd_o h hn
                                      replace h := pr_o h
                                      refine g_callVi (rest := []) K hW hl (kX1_name (l := l) (G := G) (ad := ad) hok u2 (1 : Int32) I J u108 I109 e110) kLC_275 rfl (gG_V q_608 q_610 q_13 q_136 q_611) nm_X1_name (gRo_l (by decide) (by decide)) rfl rfl (Nat.le_of_ble_eq_true rfl) ⟨Nat.zero_le _, Nat.zero_le _⟩ dX1_one_193 (fun z111 H locs hW => ?_)
                                      obtain ⟨a1, a2⟩ := so2 h
                                      replace hW := gWd_nI a2 hW
                                      exact g_nmi a1 (hfin _ _ _ _ (a1 ▸ z111) hW dX1_one_196)
                                    · replace h := gi_f h c107
                                      rcases Classical.em (u2 = (20 : Int32)) with c112 | c112
                                      · replace h := gi_t h c112
                                        refine g_tabIn (k := (20 : Int32)) (tgt := 190) (off := 179) hx hb c112 dX1_one_11 (by decide) (by decide) (by decide) (by decide) ?_
                                        refine lv_aload_n hx hb dX1_one_190 rfl (lv_at hl 1 rfl) ?_
                                        refine lv_iload_n hx hb dX1_one_191 rfl (lv_at hl 0 rfl) ?_
                                        refine lv_iconst (v := (1 : Int32)) hx hb dX1_one_192 (by decide) ?_
                                        obtain ⟨⟨u113, I114⟩, e115, h⟩ := bd_o h hn
                                        replace h := pr_o h
                                        refine g_callVi (rest := []) K hW hl (kX1_name (l := l) (G := G) (ad := ad) hok u2 (1 : Int32) I J u113 I114 e115) kLC_275 rfl (gG_V q_608 q_610 q_13 q_136 q_611) nm_X1_name (gRo_l (by decide) (by decide)) rfl rfl (Nat.le_of_ble_eq_true rfl) ⟨Nat.zero_le _, Nat.zero_le _⟩ dX1_one_193 (fun z116 H locs hW => ?_)
                                        obtain ⟨a1, a2⟩ := so2 h
                                        replace hW := gWd_nI a2 hW
                                        exact g_nmi a1 (hfin _ _ _ _ (a1 ▸ z116) hW dX1_one_196)
                                      · replace h := gi_f h c112
                                        rcases Classical.em (u2 = (21 : Int32)) with c117 | c117
                                        · replace h := gi_t h c117
                                          refine g_tabIn (k := (21 : Int32)) (tgt := 190) (off := 179) hx hb c117 dX1_one_11 (by decide) (by decide) (by decide) (by decide) ?_
                                          refine lv_aload_n hx hb dX1_one_190 rfl (lv_at hl 1 rfl) ?_
                                          refine lv_iload_n hx hb dX1_one_191 rfl (lv_at hl 0 rfl) ?_
                                          refine lv_iconst (v := (1 : Int32)) hx hb dX1_one_192 (by decide) ?_
                                          obtain ⟨⟨u118, I119⟩, e120, h⟩ := bd_o h hn
                                          replace h := pr_o h
                                          refine g_callVi (rest := []) K hW hl (kX1_name (l := l) (G := G) (ad := ad) hok u2 (1 : Int32) I J u118 I119 e120) kLC_275 rfl (gG_V q_608 q_610 q_13 q_136 q_611) nm_X1_name (gRo_l (by decide) (by decide)) rfl rfl (Nat.le_of_ble_eq_true rfl) ⟨Nat.zero_le _, Nat.zero_le _⟩ dX1_one_193 (fun z121 H locs hW => ?_)
                                          obtain ⟨a1, a2⟩ := so2 h
                                          replace hW := gWd_nI a2 hW
                                          exact g_nmi a1 (hfin _ _ _ _ (a1 ▸ z121) hW dX1_one_196)
                                        · replace h := gi_f h c117
                                          rcases Classical.em (u2 = (22 : Int32)) with c122 | c122
                                          · replace h := gi_t h c122
                                            refine g_tabIn (k := (22 : Int32)) (tgt := 197) (off := 186) hx hb c122 dX1_one_11 (by decide) (by decide) (by decide) (by decide) ?_
                                            refine lv_aload_n hx hb dX1_one_197 rfl (lv_at hl 1 rfl) ?_
                                            refine lv_iload_n hx hb dX1_one_198 rfl (lv_at hl 0 rfl) ?_
                                            refine lv_aload_n hx hb dX1_one_199 rfl (lv_at hl 1 rfl) ?_
                                            refine g_get K hW (t := 0) (ci := 1) (k := 5) (v := .int (I 275 5)) kLC_275 rfl rfl i_X1 (by decide) q_355 rfl rfl dX1_one_200 ?_
                                            obtain ⟨j124, e125, h⟩ := lz_o h
                                            have hj126 : ∀ (u123 : Int32), j124 u123 = (some (r, I')) → ∀ (H : Heap) (locs : List Loc), gWd G LC ad (gA LC ad) s.heap I J H locs → ∀ (ls : Array Slot), lv_has ls 4 [] → W p l e (gRm (10 + k + 1)) s m args below meth c H locs 0 0 Q (F0 m 211 ls [.int u123, .int u2, .ref (ad 275)]) := by
                                              intro u123 h H locs hW ls hl
                                              replace h := jn1 e125 h
                                              obtain ⟨⟨u127, I128⟩, e129, h⟩ := bd_o h hn
                                              replace h := pr_o h
                                              refine g_callVi (rest := []) K hW hl (kX1_name (l := l) (G := G) (ad := ad) hok u2 u123 I J u127 I128 e129) kLC_275 rfl (gG_V q_608 q_610 q_13 q_136 q_611) nm_X1_name (gRo_l (by decide) (by decide)) rfl rfl (Nat.le_of_ble_eq_true rfl) ⟨Nat.zero_le _, Nat.zero_le _⟩ dX1_one_211 (fun z130 H locs hW => ?_)
                                              obtain ⟨a1, a2⟩ := so2 h
                                              replace hW := gWd_nI a2 hW
                                              exact g_nmi a1 (hfin _ _ _ _ (a1 ▸ z130) hW dX1_one_214)
                                            refine lv_if_ne (tgt := 210) hx hb dX1_one_203 (by decide) (fun c131 => ?_) (fun c131 => ?_)
                                            · replace h := gi_f h c131
                                              refine lv_iconst (v := (0 : Int32)) hx hb dX1_one_210 (by decide) ?_
                                              exact hj126 (0 : Int32) h _ _ hW _ (lv_sub hl [] rfl)
                                            · replace h := gi_t h c131
                                              refine lv_iconst (v := (1 : Int32)) hx hb dX1_one_206 (by decide) ?_
                                              refine lv_goto (tgt := 211) hx hb dX1_one_207 (by decide) ?_
                                              exact hj126 (1 : Int32) h _ _ hW _ (lv_sub hl [] rfl)
                                          · replace h := gi_f h c122
                                            rcases Classical.em (u2 = (23 : Int32)) with c132 | c132
                                            · replace h := gi_t h c132
                                              refine g_tabIn (k := (23 : Int32)) (tgt := 215) (off := 204) hx hb c132 dX1_one_11 (by decide) (by decide) (by decide) (by decide) ?_
                                              refine lv_aload_n hx hb dX1_one_215 rfl (lv_at hl 1 rfl) ?_
                                              refine lv_iload_n hx hb dX1_one_216 rfl (lv_at hl 0 rfl) ?_
                                              refine lv_aload_n hx hb dX1_one_217 rfl (lv_at hl 1 rfl) ?_
                                              refine g_get K hW (t := 0) (ci := 1) (k := 5) (v := .int (I 275 5)) kLC_275 rfl rfl i_X1 (by decide) q_355 rfl rfl dX1_one_218 ?_
                                              refine lv_iconst (v := (1 : Int32)) hx hb dX1_one_221 (by decide) ?_
                                              obtain ⟨j134, e135, h⟩ := lz_o h
                                              have hj136 : ∀ (u133 : Int32), j134 u133 = (some (r, I')) → ∀ (H : Heap) (locs : List Loc), gWd G LC ad (gA LC ad) s.heap I J H locs → ∀ (ls : Array Slot), lv_has ls 4 [] → W p l e (gRm (10 + k + 1)) s m args below meth c H locs 0 0 Q (F0 m 230 ls [.int u133, .int u2, .ref (ad 275)]) := by
                                                intro u133 h H locs hW ls hl
                                                replace h := jn1 e135 h
                                                obtain ⟨⟨u137, I138⟩, e139, h⟩ := bd_o h hn
                                                replace h := pr_o h
                                                refine g_callVi (rest := []) K hW hl (kX1_name (l := l) (G := G) (ad := ad) hok u2 u133 I J u137 I138 e139) kLC_275 rfl (gG_V q_608 q_610 q_13 q_136 q_611) nm_X1_name (gRo_l (by decide) (by decide)) rfl rfl (Nat.le_of_ble_eq_true rfl) ⟨Nat.zero_le _, Nat.zero_le _⟩ dX1_one_230 (fun z140 H locs hW => ?_)
                                                obtain ⟨a1, a2⟩ := so2 h
                                                replace hW := gWd_nI a2 hW
                                                exact g_nmi a1 (hfin _ _ _ _ (a1 ▸ z140) hW dX1_one_233)
                                              refine lv_icmp_ne (tgt := 229) hx hb dX1_one_222 (by decide) (fun c141 => ?_) (fun c141 => ?_)
                                              · replace h := gi_f h c141
                                                refine lv_iconst (v := (0 : Int32)) hx hb dX1_one_229 (by decide) ?_
                                                exact hj136 (0 : Int32) h _ _ hW _ (lv_sub hl [] rfl)
                                              · replace h := gi_t h c141
                                                refine lv_iconst (v := (1 : Int32)) hx hb dX1_one_225 (by decide) ?_
                                                refine lv_goto (tgt := 230) hx hb dX1_one_226 (by decide) ?_
                                                exact hj136 (1 : Int32) h _ _ hW _ (lv_sub hl [] rfl)
                                            · replace h := gi_f h c132
                                              rcases Classical.em (u2 = (24 : Int32)) with c142 | c142
                                              · replace h := gi_t h c142
                                                refine g_tabIn (k := (24 : Int32)) (tgt := 160) (off := 149) hx hb c142 dX1_one_11 (by decide) (by decide) (by decide) (by decide) ?_
                                                refine lv_aload_n hx hb dX1_one_160 rfl (lv_at hl 1 rfl) ?_
                                                refine lv_iconst (v := (0 : Int32)) hx hb dX1_one_161 (by decide) ?_
                                                refine lv_sipush (v := (9999 : Int32)) hx hb dX1_one_162 (by decide) ?_
                                                obtain ⟨⟨u143, I144⟩, e145, h⟩ := bd_o h hn
                                                replace h := pr_o h
                                                refine g_callVi (rest := []) K hW hl (kX1_number (l := l) (G := G) (ad := ad) hok (0 : Int32) (9999 : Int32) I J u143 I144 e145) kLC_275 rfl (gG_V q_599 q_601 q_12 q_136 q_602) nm_X1_number (gRo_l (by decide) (by decide)) rfl rfl (Nat.le_of_ble_eq_true rfl) ⟨Nat.zero_le _, Nat.zero_le _⟩ dX1_one_165 (fun z146 H locs hW => ?_)
                                                refine lv_istore_n (lv' := [(3, .int u143), (2, .int u2), (0, .ref (ad 275)), (1, .int x1)]) hx hb dX1_one_168 rfl hl (by decide) rfl (fun ls hl => ?_)
                                                refine lv_aload_n hx hb dX1_one_169 rfl (lv_at hl 2 rfl) ?_
                                                obtain ⟨g147, h⟩ := gd_o h hn
                                                refine g_get K hW (t := 3) (ci := 1) (k := 6) (v := .ref (ad ((I144 275 6).toNatClampNeg))) kLC_275 rfl rfl i_X1 (by decide) q_356 rfl (gfv3 rLC_275_6) dX1_one_170 ?_
                                                refine lv_iload_n hx hb dX1_one_173 rfl (lv_at hl 1 rfl) ?_
                                                refine lv_iload_n hx hb dX1_one_174 rfl (lv_at hl 0 rfl) ?_
                                                obtain ⟨⟨u148, I149⟩, e150, h⟩ := bd_o h hn
                                                replace h := pr_o h
                                                refine g_callVi (rest := []) K hW hl (kX3_emit (l := l) (G := G) (ad := ad) hok ((I144 275 6).toNatClampNeg) g147 u2 u143 I144 J u148 I149 e150) g147 rfl (gG_V q_604 q_605 q_606 q_137 q_607) nm_X3_emit (gRo_l (by decide) (by decide)) rfl rfl (Nat.le_of_ble_eq_true rfl) ⟨Nat.zero_le _, Nat.zero_le _⟩ dX1_one_175 (fun z151 H locs hW => ?_)
                                                refine lv_pop hx hb dX1_one_178 rfl ?_
                                                refine lv_iload_n hx hb dX1_one_179 rfl (lv_at hl 0 rfl) ?_
                                                refine lv_iconst (v := (-1 : Int32)) hx hb dX1_one_180 (by decide) ?_
                                                refine lv_icmp_eq (tgt := 188) hx hb dX1_one_181 (by decide) (fun c152 => ?_) (fun c152 => ?_)
                                                · replace h := gi_t h c152
                                                  refine lv_iconst (v := (0 : Int32)) hx hb dX1_one_188 (by decide) ?_
                                                  obtain ⟨a1, a2⟩ := so2 h
                                                  replace hW := gWd_nI a2 hW
                                                  exact g_nmi a1 (hfin _ _ _ _ (a1 ▸ (Or.inl rfl)) hW dX1_one_189)
                                                · replace h := gi_f h c152
                                                  refine lv_iconst (v := (1 : Int32)) hx hb dX1_one_184 (by decide) ?_
                                                  refine lv_goto (tgt := 189) hx hb dX1_one_185 (by decide) ?_
                                                  obtain ⟨a1, a2⟩ := so2 h
                                                  replace hW := gWd_nI a2 hW
                                                  exact g_nmi a1 (hfin _ _ _ _ (a1 ▸ (Or.inr rfl)) hW dX1_one_189)
                                              · replace h := gi_f h c142
                                                rcases Classical.em (u2 = (25 : Int32)) with c153 | c153
                                                · replace h := gi_t h c153
                                                  refine g_tabIn (k := (25 : Int32)) (tgt := 342) (off := 331) hx hb c153 dX1_one_11 (by decide) (by decide) (by decide) (by decide) ?_
                                                  refine lv_aload_n hx hb dX1_one_342 rfl (lv_at hl 1 rfl) ?_
                                                  refine lv_iconst (v := (1 : Int32)) hx hb dX1_one_343 (by decide) ?_
                                                  obtain ⟨⟨u154, I155⟩, e156, h⟩ := bd_o h hn
                                                  replace h := pr_o h
                                                  refine g_callVi (rest := []) K hW hl (kX1_fails (l := l) (G := G) (ad := ad) hok (1 : Int32) I J u154 I155 e156) kLC_275 rfl (gG_V q_575 q_577 q_7 q_136 q_578) nm_X1_fails (gRo_l (by decide) (by decide)) rfl rfl (Nat.le_of_ble_eq_true rfl) ⟨Nat.zero_le _, Nat.zero_le _⟩ dX1_one_344 (fun z157 H locs hW => ?_)
                                                  obtain ⟨a1, a2⟩ := so2 h
                                                  replace hW := gWd_nI a2 hW
                                                  exact g_nmi a1 (hfin _ _ _ _ (a1 ▸ z157) hW dX1_one_347)
                                                · replace h := gi_f h c153
                                                  rcases Classical.em (u2 = (26 : Int32)) with c158 | c158
                                                  · replace h := gi_t h c158
                                                    refine g_tabIn (k := (26 : Int32)) (tgt := 342) (off := 331) hx hb c158 dX1_one_11 (by decide) (by decide) (by decide) (by decide) ?_
                                                    refine lv_aload_n hx hb dX1_one_342 rfl (lv_at hl 1 rfl) ?_
                                                    refine lv_iconst (v := (1 : Int32)) hx hb dX1_one_343 (by decide) ?_
                                                    obtain ⟨⟨u159, I160⟩, e161, h⟩ := bd_o h hn
                                                    replace h := pr_o h
                                                    refine g_callVi (rest := []) K hW hl (kX1_fails (l := l) (G := G) (ad := ad) hok (1 : Int32) I J u159 I160 e161) kLC_275 rfl (gG_V q_575 q_577 q_7 q_136 q_578) nm_X1_fails (gRo_l (by decide) (by decide)) rfl rfl (Nat.le_of_ble_eq_true rfl) ⟨Nat.zero_le _, Nat.zero_le _⟩ dX1_one_344 (fun z162 H locs hW => ?_)
                                                    obtain ⟨a1, a2⟩ := so2 h
                                                    replace hW := gWd_nI a2 hW
                                                    exact g_nmi a1 (hfin _ _ _ _ (a1 ▸ z162) hW dX1_one_347)
                                                  · replace h := gi_f h c158
                                                    rcases Classical.em (u2 = (27 : Int32)) with c163 | c163
                                                    · replace h := gi_t h c163
                                                      refine g_tabIn (k := (27 : Int32)) (tgt := 342) (off := 331) hx hb c163 dX1_one_11 (by decide) (by decide) (by decide) (by decide) ?_
                                                      refine lv_aload_n hx hb dX1_one_342 rfl (lv_at hl 1 rfl) ?_
                                                      refine lv_iconst (v := (1 : Int32)) hx hb dX1_one_343 (by decide) ?_
                                                      obtain ⟨⟨u164, I165⟩, e166, h⟩ := bd_o h hn
                                                      replace h := pr_o h
                                                      refine g_callVi (rest := []) K hW hl (kX1_fails (l := l) (G := G) (ad := ad) hok (1 : Int32) I J u164 I165 e166) kLC_275 rfl (gG_V q_575 q_577 q_7 q_136 q_578) nm_X1_fails (gRo_l (by decide) (by decide)) rfl rfl (Nat.le_of_ble_eq_true rfl) ⟨Nat.zero_le _, Nat.zero_le _⟩ dX1_one_344 (fun z167 H locs hW => ?_)
                                                      obtain ⟨a1, a2⟩ := so2 h
                                                      replace hW := gWd_nI a2 hW
                                                      exact g_nmi a1 (hfin _ _ _ _ (a1 ▸ z167) hW dX1_one_347)
                                                    · replace h := gi_f h c163
                                                      rcases Classical.em (u2 = (28 : Int32)) with c168 | c168
                                                      · replace h := gi_t h c168
                                                        refine g_tabIn (k := (28 : Int32)) (tgt := 342) (off := 331) hx hb c168 dX1_one_11 (by decide) (by decide) (by decide) (by decide) ?_
                                                        refine lv_aload_n hx hb dX1_one_342 rfl (lv_at hl 1 rfl) ?_
                                                        refine lv_iconst (v := (1 : Int32)) hx hb dX1_one_343 (by decide) ?_
                                                        obtain ⟨⟨u169, I170⟩, e171, h⟩ := bd_o h hn
                                                        replace h := pr_o h
                                                        refine g_callVi (rest := []) K hW hl (kX1_fails (l := l) (G := G) (ad := ad) hok (1 : Int32) I J u169 I170 e171) kLC_275 rfl (gG_V q_575 q_577 q_7 q_136 q_578) nm_X1_fails (gRo_l (by decide) (by decide)) rfl rfl (Nat.le_of_ble_eq_true rfl) ⟨Nat.zero_le _, Nat.zero_le _⟩ dX1_one_344 (fun z172 H locs hW => ?_)
                                                        obtain ⟨a1, a2⟩ := so2 h
                                                        replace hW := gWd_nI a2 hW
                                                        exact g_nmi a1 (hfin _ _ _ _ (a1 ▸ z172) hW dX1_one_347)
                                                      · replace h := gi_f h c168
                                                        rcases Classical.em (u2 = (29 : Int32)) with c173 | c173
                                                        · replace h := gi_t h c173
                                                          refine g_tabIn (k := (29 : Int32)) (tgt := 342) (off := 331) hx hb c173 dX1_one_11 (by decide) (by decide) (by decide) (by decide) ?_
                                                          refine lv_aload_n hx hb dX1_one_342 rfl (lv_at hl 1 rfl) ?_
                                                          refine lv_iconst (v := (1 : Int32)) hx hb dX1_one_343 (by decide) ?_
                                                          obtain ⟨⟨u174, I175⟩, e176, h⟩ := bd_o h hn
                                                          replace h := pr_o h
                                                          refine g_callVi (rest := []) K hW hl (kX1_fails (l := l) (G := G) (ad := ad) hok (1 : Int32) I J u174 I175 e176) kLC_275 rfl (gG_V q_575 q_577 q_7 q_136 q_578) nm_X1_fails (gRo_l (by decide) (by decide)) rfl rfl (Nat.le_of_ble_eq_true rfl) ⟨Nat.zero_le _, Nat.zero_le _⟩ dX1_one_344 (fun z177 H locs hW => ?_)
                                                          obtain ⟨a1, a2⟩ := so2 h
                                                          replace hW := gWd_nI a2 hW
                                                          exact g_nmi a1 (hfin _ _ _ _ (a1 ▸ z177) hW dX1_one_347)
                                                        · replace h := gi_f h c173
                                                          rcases Classical.em (u2 = (30 : Int32)) with c178 | c178
                                                          · replace h := gi_t h c178
                                                            refine g_tabIn (k := (30 : Int32)) (tgt := 342) (off := 331) hx hb c178 dX1_one_11 (by decide) (by decide) (by decide) (by decide) ?_
                                                            refine lv_aload_n hx hb dX1_one_342 rfl (lv_at hl 1 rfl) ?_
                                                            refine lv_iconst (v := (1 : Int32)) hx hb dX1_one_343 (by decide) ?_
                                                            obtain ⟨⟨u179, I180⟩, e181, h⟩ := bd_o h hn
                                                            replace h := pr_o h
                                                            refine g_callVi (rest := []) K hW hl (kX1_fails (l := l) (G := G) (ad := ad) hok (1 : Int32) I J u179 I180 e181) kLC_275 rfl (gG_V q_575 q_577 q_7 q_136 q_578) nm_X1_fails (gRo_l (by decide) (by decide)) rfl rfl (Nat.le_of_ble_eq_true rfl) ⟨Nat.zero_le _, Nat.zero_le _⟩ dX1_one_344 (fun z182 H locs hW => ?_)
                                                            obtain ⟨a1, a2⟩ := so2 h
                                                            replace hW := gWd_nI a2 hW
                                                            exact g_nmi a1 (hfin _ _ _ _ (a1 ▸ z182) hW dX1_one_347)
                                                          · replace h := gi_f h c178
                                                            rcases Classical.em (u2 = (31 : Int32)) with c183 | c183
                                                            · replace h := gi_t h c183
                                                              refine g_tabIn (k := (31 : Int32)) (tgt := 342) (off := 331) hx hb c183 dX1_one_11 (by decide) (by decide) (by decide) (by decide) ?_
                                                              refine lv_aload_n hx hb dX1_one_342 rfl (lv_at hl 1 rfl) ?_
                                                              refine lv_iconst (v := (1 : Int32)) hx hb dX1_one_343 (by decide) ?_
                                                              obtain ⟨⟨u184, I185⟩, e186, h⟩ := bd_o h hn
                                                              replace h := pr_o h
                                                              refine g_callVi (rest := []) K hW hl (kX1_fails (l := l) (G := G) (ad := ad) hok (1 : Int32) I J u184 I185 e186) kLC_275 rfl (gG_V q_575 q_577 q_7 q_136 q_578) nm_X1_fails (gRo_l (by decide) (by decide)) rfl rfl (Nat.le_of_ble_eq_true rfl) ⟨Nat.zero_le _, Nat.zero_le _⟩ dX1_one_344 (fun z187 H locs hW => ?_)
                                                              obtain ⟨a1, a2⟩ := so2 h
                                                              replace hW := gWd_nI a2 hW
                                                              exact g_nmi a1 (hfin _ _ _ _ (a1 ▸ z187) hW dX1_one_347)
                                                            · replace h := gi_f h c183
                                                              rcases Classical.em (u2 = (32 : Int32)) with c188 | c188
                                                              · replace h := gi_t h c188
                                                                refine g_tabIn (k := (32 : Int32)) (tgt := 267) (off := 256) hx hb c188 dX1_one_11 (by decide) (by decide) (by decide) (by decide) ?_
                                                                refine lv_aload_n hx hb dX1_one_267 rfl (lv_at hl 1 rfl) ?_
                                                                refine lv_iload_n hx hb dX1_one_268 rfl (lv_at hl 2 rfl) ?_
                                                                obtain ⟨⟨u189, I190⟩, e191, h⟩ := bd_o h hn
                                                                replace h := pr_o h
                                                                refine g_callVi (rest := []) K hW hl (kX1_opens (l := l) (G := G) (ad := ad) hok x1 I J u189 I190 e191) kLC_275 rfl (gG_V q_612 q_614 q_14 q_136 q_615) nm_X1_opens (gRo_l (by decide) (by decide)) rfl rfl (Nat.le_of_ble_eq_true rfl) ⟨Nat.zero_le _, Nat.zero_le _⟩ dX1_one_269 (fun z192 H locs hW => ?_)
                                                                refine lv_if_eq (tgt := 291) hx hb dX1_one_272 (by decide) (fun c193 => ?_) (fun c193 => ?_)
                                                                · replace h := gi_t h c193
                                                                  refine lv_iconst (v := (0 : Int32)) hx hb dX1_one_291 (by decide) ?_
                                                                  obtain ⟨a1, a2⟩ := so2 h
                                                                  replace hW := gWd_nI a2 hW
                                                                  exact g_nmi a1 (hfin _ _ _ _ (a1 ▸ (Or.inl rfl)) hW dX1_one_292)
                                                                · replace h := gi_f h c193
                                                                  refine lv_aload_n hx hb dX1_one_275 rfl (lv_at hl 1 rfl) ?_
                                                                  refine lv_bipush (v := (38 : Int32)) hx hb dX1_one_276 (by decide) ?_
                                                                  refine lv_iload_n hx hb dX1_one_278 rfl (lv_at hl 2 rfl) ?_
                                                                  refine lv_iconst (v := (1 : Int32)) hx hb dX1_one_279 (by decide) ?_
                                                                  refine lv_iadd hx hb dX1_one_280 ?_
                                                                  obtain ⟨⟨u194, I195⟩, e196, h⟩ := bd_o h hn
                                                                  replace h := pr_o h
                                                                  refine g_callVi (rest := []) K hW hl (gIH_3 hG (38 : Int32) (x1 + (1 : Int32)) I190 J u194 I195 e196) kLC_275 rfl (gG_V q_620 q_622 q_16 q_136 q_623) nm_X1_oneUnder (gRo_g (by decide) (by decide)) rfl rfl (Nat.le_of_ble_eq_true rfl) ⟨Nat.zero_le _, Nat.zero_le _⟩ dX1_one_281 (fun z197 H locs hW => ?_)
                                                                  refine lv_if_eq (tgt := 291) hx hb dX1_one_284 (by decide) (fun c198 => ?_) (fun c198 => ?_)
                                                                  · replace h := gi_t h c198
                                                                    refine lv_iconst (v := (0 : Int32)) hx hb dX1_one_291 (by decide) ?_
                                                                    obtain ⟨a1, a2⟩ := so2 h
                                                                    replace hW := gWd_nI a2 hW
                                                                    exact g_nmi a1 (hfin _ _ _ _ (a1 ▸ (Or.inl rfl)) hW dX1_one_292)
                                                                  · replace h := gi_f h c198
                                                                    refine lv_iconst (v := (1 : Int32)) hx hb dX1_one_287 (by decide) ?_
                                                                    refine lv_goto (tgt := 292) hx hb dX1_one_288 (by decide) ?_
                                                                    obtain ⟨a1, a2⟩ := so2 h
                                                                    replace hW := gWd_nI a2 hW
                                                                    exact g_nmi a1 (hfin _ _ _ _ (a1 ▸ (Or.inr rfl)) hW dX1_one_292)
                                                              · replace h := gi_f h c188
                                                                rcases Classical.em (u2 = (33 : Int32)) with c199 | c199
                                                                · replace h := gi_t h c199
                                                                  refine g_tabIn (k := (33 : Int32)) (tgt := 342) (off := 331) hx hb c199 dX1_one_11 (by decide) (by decide) (by decide) (by decide) ?_
                                                                  refine lv_aload_n hx hb dX1_one_342 rfl (lv_at hl 1 rfl) ?_
                                                                  refine lv_iconst (v := (1 : Int32)) hx hb dX1_one_343 (by decide) ?_
                                                                  obtain ⟨⟨u200, I201⟩, e202, h⟩ := bd_o h hn
                                                                  replace h := pr_o h
                                                                  refine g_callVi (rest := []) K hW hl (kX1_fails (l := l) (G := G) (ad := ad) hok (1 : Int32) I J u200 I201 e202) kLC_275 rfl (gG_V q_575 q_577 q_7 q_136 q_578) nm_X1_fails (gRo_l (by decide) (by decide)) rfl rfl (Nat.le_of_ble_eq_true rfl) ⟨Nat.zero_le _, Nat.zero_le _⟩ dX1_one_344 (fun z203 H locs hW => ?_)
                                                                  obtain ⟨a1, a2⟩ := so2 h
                                                                  replace hW := gWd_nI a2 hW
                                                                  exact g_nmi a1 (hfin _ _ _ _ (a1 ▸ z203) hW dX1_one_347)
                                                                · replace h := gi_f h c199
                                                                  rcases Classical.em (u2 = (34 : Int32)) with c204 | c204
                                                                  · replace h := gi_t h c204
                                                                    refine g_tabIn (k := (34 : Int32)) (tgt := 342) (off := 331) hx hb c204 dX1_one_11 (by decide) (by decide) (by decide) (by decide) ?_
                                                                    refine lv_aload_n hx hb dX1_one_342 rfl (lv_at hl 1 rfl) ?_
                                                                    refine lv_iconst (v := (1 : Int32)) hx hb dX1_one_343 (by decide) ?_
                                                                    obtain ⟨⟨u205, I206⟩, e207, h⟩ := bd_o h hn
                                                                    replace h := pr_o h
                                                                    refine g_callVi (rest := []) K hW hl (kX1_fails (l := l) (G := G) (ad := ad) hok (1 : Int32) I J u205 I206 e207) kLC_275 rfl (gG_V q_575 q_577 q_7 q_136 q_578) nm_X1_fails (gRo_l (by decide) (by decide)) rfl rfl (Nat.le_of_ble_eq_true rfl) ⟨Nat.zero_le _, Nat.zero_le _⟩ dX1_one_344 (fun z208 H locs hW => ?_)
                                                                    obtain ⟨a1, a2⟩ := so2 h
                                                                    replace hW := gWd_nI a2 hW
                                                                    exact g_nmi a1 (hfin _ _ _ _ (a1 ▸ z208) hW dX1_one_347)
                                                                  · replace h := gi_f h c204
                                                                    rcases Classical.em (u2 = (35 : Int32)) with c209 | c209
                                                                    · replace h := gi_t h c209
                                                                      refine g_tabIn (k := (35 : Int32)) (tgt := 234) (off := 223) hx hb c209 dX1_one_11 (by decide) (by decide) (by decide) (by decide) ?_
                                                                      refine lv_aload_n hx hb dX1_one_234 rfl (lv_at hl 1 rfl) ?_
                                                                      refine lv_iload_n hx hb dX1_one_235 rfl (lv_at hl 2 rfl) ?_
                                                                      obtain ⟨⟨u210, I211⟩, e212, h⟩ := bd_o h hn
                                                                      replace h := pr_o h
                                                                      refine g_callVi (rest := []) K hW hl (kX1_opens (l := l) (G := G) (ad := ad) hok x1 I J u210 I211 e212) kLC_275 rfl (gG_V q_612 q_614 q_14 q_136 q_615) nm_X1_opens (gRo_l (by decide) (by decide)) rfl rfl (Nat.le_of_ble_eq_true rfl) ⟨Nat.zero_le _, Nat.zero_le _⟩ dX1_one_236 (fun z213 H locs hW => ?_)
                                                                      refine lv_if_eq (tgt := 265) hx hb dX1_one_239 (by decide) (fun c214 => ?_) (fun c214 => ?_)
                                                                      · replace h := gi_t h c214
                                                                        refine lv_iconst (v := (0 : Int32)) hx hb dX1_one_265 (by decide) ?_
                                                                        obtain ⟨a1, a2⟩ := so2 h
                                                                        replace hW := gWd_nI a2 hW
                                                                        exact g_nmi a1 (hfin _ _ _ _ (a1 ▸ (Or.inl rfl)) hW dX1_one_266)
                                                                      · replace h := gi_f h c214
                                                                        refine lv_aload_n hx hb dX1_one_242 rfl (lv_at hl 1 rfl) ?_
                                                                        refine lv_iload_n hx hb dX1_one_243 rfl (lv_at hl 2 rfl) ?_
                                                                        refine lv_iconst (v := (1 : Int32)) hx hb dX1_one_244 (by decide) ?_
                                                                        refine lv_iadd hx hb dX1_one_245 ?_
                                                                        obtain ⟨⟨u215, I216⟩, e217, h⟩ := bd_o h hn
                                                                        replace h := pr_o h
                                                                        refine g_callVi (rest := []) K hW hl (gIH_0 hG (x1 + (1 : Int32)) I211 J u215 I216 e217) kLC_275 rfl (gG_V q_587 q_589 q_9 q_136 q_590) nm_X1_sum (gRo_g (by decide) (by decide)) rfl rfl (Nat.le_of_ble_eq_true rfl) ⟨Nat.zero_le _, Nat.zero_le _⟩ dX1_one_246 (fun z218 H locs hW => ?_)
                                                                        refine lv_if_eq (tgt := 265) hx hb dX1_one_249 (by decide) (fun c219 => ?_) (fun c219 => ?_)
                                                                        · replace h := gi_t h c219
                                                                          refine lv_iconst (v := (0 : Int32)) hx hb dX1_one_265 (by decide) ?_
                                                                          obtain ⟨a1, a2⟩ := so2 h
                                                                          replace hW := gWd_nI a2 hW
                                                                          exact g_nmi a1 (hfin _ _ _ _ (a1 ▸ (Or.inl rfl)) hW dX1_one_266)
                                                                        · replace h := gi_f h c219
                                                                          refine lv_aload_n hx hb dX1_one_252 rfl (lv_at hl 1 rfl) ?_
                                                                          refine lv_bipush (v := (36 : Int32)) hx hb dX1_one_253 (by decide) ?_
                                                                          obtain ⟨⟨u220, I221⟩, e222, h⟩ := bd_o h hn
                                                                          replace h := pr_o h
                                                                          refine g_callVi (rest := []) K hW hl (kX1_takes (l := l) (G := G) (ad := ad) hok (36 : Int32) I216 J u220 I221 e222) kLC_275 rfl (gG_V q_616 q_618 q_15 q_136 q_619) nm_X1_takes (gRo_l (by decide) (by decide)) rfl rfl (Nat.le_of_ble_eq_true rfl) ⟨Nat.zero_le _, Nat.zero_le _⟩ dX1_one_255 (fun z223 H locs hW => ?_)
                                                                          refine lv_if_eq (tgt := 265) hx hb dX1_one_258 (by decide) (fun c224 => ?_) (fun c224 => ?_)
                                                                          · replace h := gi_t h c224
                                                                            refine lv_iconst (v := (0 : Int32)) hx hb dX1_one_265 (by decide) ?_
                                                                            obtain ⟨a1, a2⟩ := so2 h
                                                                            replace hW := gWd_nI a2 hW
                                                                            exact g_nmi a1 (hfin _ _ _ _ (a1 ▸ (Or.inl rfl)) hW dX1_one_266)
                                                                          · replace h := gi_f h c224
                                                                            refine lv_iconst (v := (1 : Int32)) hx hb dX1_one_261 (by decide) ?_
                                                                            refine lv_goto (tgt := 266) hx hb dX1_one_262 (by decide) ?_
                                                                            obtain ⟨a1, a2⟩ := so2 h
                                                                            replace hW := gWd_nI a2 hW
                                                                            exact g_nmi a1 (hfin _ _ _ _ (a1 ▸ (Or.inr rfl)) hW dX1_one_266)
                                                                    · replace h := gi_f h c209
                                                                      refine lv_tableOut (tgt := 342) hx hb dX1_one_11 (by have := lv_neT (a := 2) c4 (by decide); have := lv_neT (a := 3) c9 (by decide); have := lv_neT (a := 4) c14 (by decide); have := lv_neT (a := 5) c19 (by decide); have := lv_neT (a := 6) c24 (by decide); have := lv_neT (a := 7) c29 (by decide); have := lv_neT (a := 8) c34 (by decide); have := lv_neT (a := 9) c39 (by decide); have := lv_neT (a := 10) c44 (by decide); have := lv_neT (a := 11) c55 (by decide); have := lv_neT (a := 12) c66 (by decide); have := lv_neT (a := 13) c77 (by decide); have := lv_neT (a := 14) c82 (by decide); have := lv_neT (a := 15) c87 (by decide); have := lv_neT (a := 16) c92 (by decide); have := lv_neT (a := 17) c97 (by decide); have := lv_neT (a := 18) c102 (by decide); have := lv_neT (a := 19) c107 (by decide); have := lv_neT (a := 20) c112 (by decide); have := lv_neT (a := 21) c117 (by decide); have := lv_neT (a := 22) c122 (by decide); have := lv_neT (a := 23) c132 (by decide); have := lv_neT (a := 24) c142 (by decide); have := lv_neT (a := 25) c153 (by decide); have := lv_neT (a := 26) c158 (by decide); have := lv_neT (a := 27) c163 (by decide); have := lv_neT (a := 28) c168 (by decide); have := lv_neT (a := 29) c173 (by decide); have := lv_neT (a := 30) c178 (by decide); have := lv_neT (a := 31) c183 (by decide); have := lv_neT (a := 32) c188 (by decide); have := lv_neT (a := 33) c199 (by decide); have := lv_neT (a := 34) c204 (by decide); have := lv_neT (a := 35) c209 (by decide); omega) (by decide) ?_
                                                                      refine lv_aload_n hx hb dX1_one_342 rfl (lv_at hl 1 rfl) ?_
                                                                      refine lv_iconst (v := (1 : Int32)) hx hb dX1_one_343 (by decide) ?_
                                                                      obtain ⟨⟨u225, I226⟩, e227, h⟩ := bd_o h hn
                                                                      replace h := pr_o h
                                                                      refine g_callVi (rest := []) K hW hl (kX1_fails (l := l) (G := G) (ad := ad) hok (1 : Int32) I J u225 I226 e227) kLC_275 rfl (gG_V q_575 q_577 q_7 q_136 q_578) nm_X1_fails (gRo_l (by decide) (by decide)) rfl rfl (Nat.le_of_ble_eq_true rfl) ⟨Nat.zero_le _, Nat.zero_le _⟩ dX1_one_344 (fun z228 H locs hW => ?_)
                                                                      obtain ⟨a1, a2⟩ := so2 h
                                                                      replace hW := gWd_nI a2 hW
                                                                      exact g_nmi a1 (hfin _ _ _ _ (a1 ▸ z228) hW dX1_one_347)
noncomputable def fX1_oneUnder_B (rg : gR)  (x1 : Int32) (x2 : Int32) (I : gI) : Option (Int32 × gI) :=
  bd (rg 2 x2 (0 : Int32) I) (pr (fun (u1 : Int32) (I2 : gI) => gi (u1 = 0)
 (some ((0 : Int32), I2))
 (gd (gAt LC (I2 275 6).toNatClampNeg 0 3) (bd (fX3_emit ((I2 275 6).toNatClampNeg) x1 (0 : Int32) I2) (pr (fun (u7 : Int32) (I8 : gI) => some ((1 : Int32), I8)))))))
set_option maxHeartbeats 4000000 in
set_option maxRecDepth 100000 in
theorem kX1_oneUnder_B {l : Launch} {G : gG} {ad : Nat → Nat} (hok : gInj LC ad) (k : Nat) (rg : gR) (hG : gIH l G ad (10 + k) rg)   (x1 : Int32) (x2 : Int32) (I : gI) (J : gJ) (r : Int32) (I' : gI) (h : fX1_oneUnder_B rg x1 x2 I = some (r, I')) : gMi l yX1_oneUnder cX1_oneUnder 3 (some .boolean) (10 + k + 1) G LC ad [.ref (ad 275), .int x1, .int x2] I J r (r = 0 ∨ r = 1) I' J := by
  refine gMz_of (lst := [(0, .ref (ad 275)), (1, .int x1), (2, .int x2)]) (by decide) hok (Nat.le_of_ble_eq_true rfl) rfl ?_
  intro p e s m args below meth c Q ls K hW hl hfin
  have hn : (some (r, I') : Option (Int32 × gI)) ≠ none := Option.some_ne_none _
  have hx := K.1; have hb := K.2.1; have hown := K.2.2.2.1; have hts := K.2.2.2.2.1
  unfold fX1_oneUnder_B at h
  refine lv_aload_n hx hb dX1_oneUnder_0 rfl (lv_at hl 0 rfl) ?_
  refine lv_iload_n hx hb dX1_oneUnder_1 rfl (lv_at hl 2 rfl) ?_
  obtain ⟨⟨u1, I2⟩, e3, h⟩ := bd_o h hn
  replace h := pr_o h
  refine g_callVi (rest := []) K hW hl (gIH_2 hG x2 I J u1 I2 e3) kLC_275 rfl (gG_V q_595 q_597 q_11 q_136 q_598) nm_X1_one (gRo_g (by decide) (by decide)) rfl rfl (Nat.le_of_ble_eq_true rfl) ⟨Nat.zero_le _, Nat.zero_le _⟩ dX1_oneUnder_2 (fun z4 H locs hW => ?_)
  refine lv_if_ne (tgt := 10) hx hb dX1_oneUnder_5 (by decide) (fun c5 => ?_) (fun c5 => ?_)
  · replace h := gi_f h c5
    refine lv_aload_n hx hb dX1_oneUnder_10 rfl (lv_at hl 0 rfl) ?_
    obtain ⟨g6, h⟩ := gd_o h hn
    refine g_get K hW (t := 3) (ci := 1) (k := 6) (v := .ref (ad ((I2 275 6).toNatClampNeg))) kLC_275 rfl rfl i_X1 (by decide) q_356 rfl (gfv3 rLC_275_6) dX1_oneUnder_11 ?_
    refine lv_iload_n hx hb dX1_oneUnder_14 rfl (lv_at hl 1 rfl) ?_
    refine lv_iconst (v := (0 : Int32)) hx hb dX1_oneUnder_15 (by decide) ?_
    obtain ⟨⟨u7, I8⟩, e9, h⟩ := bd_o h hn
    replace h := pr_o h
    refine g_callVi (rest := []) K hW hl (kX3_emit (l := l) (G := G) (ad := ad) hok ((I2 275 6).toNatClampNeg) g6 x1 (0 : Int32) I2 J u7 I8 e9) g6 rfl (gG_V q_604 q_605 q_606 q_137 q_607) nm_X3_emit (gRo_l (by decide) (by decide)) rfl rfl (Nat.le_of_ble_eq_true rfl) ⟨Nat.zero_le _, Nat.zero_le _⟩ dX1_oneUnder_16 (fun z10 H locs hW => ?_)
    refine lv_pop hx hb dX1_oneUnder_19 rfl ?_
    refine lv_iconst (v := (1 : Int32)) hx hb dX1_oneUnder_20 (by decide) ?_
    obtain ⟨a1, a2⟩ := so2 h
    replace hW := gWd_nI a2 hW
    exact g_nmi a1 (hfin _ _ _ _ (a1 ▸ (Or.inr rfl)) hW dX1_oneUnder_21)
  · replace h := gi_t h c5
    refine lv_iconst (v := (0 : Int32)) hx hb dX1_oneUnder_8 (by decide) ?_
    obtain ⟨a1, a2⟩ := so2 h
    replace hW := gWd_nI a2 hW
    exact g_nmi a1 (hfin _ _ _ _ (a1 ▸ (Or.inl rfl)) hW dX1_oneUnder_9)
theorem nm_X1_either : gNm yX1_either 1 := by decide +kernel
theorem nm_X3_jumpHere : gNm yX3_jumpHere 1 := by decide +kernel
noncomputable def fX1_choice_B (rg : gR)  (x1 : Int32) (I : gI) : Option (Int32 × gI) :=
  bd (rg 5 x1 (0 : Int32) I) (pr (fun (u1 : Int32) (I2 : gI) => gi (u1 = 0)
 (some ((0 : Int32), I2))
 (bd (fX1_takes (13 : Int32) I2) (pr (fun (u6 : Int32) (I7 : gI) => gi (u6 = 0)
 (some ((0 : Int32), I7))
 (gd (gAt LC (I7 275 6).toNatClampNeg 0 3) (bd (fX3_emit ((I7 275 6).toNatClampNeg) (13 : Int32) (0 : Int32) I7) (pr (fun (u12 : Int32) (I13 : gI) => bd (rg 0 x1 (0 : Int32) I13) (pr (fun (u16 : Int32) (I17 : gI) => gi (u16 = 0)
 (some ((0 : Int32), I17))
 (bd (fX1_takes (14 : Int32) I17) (pr (fun (u21 : Int32) (I22 : gI) => gi (u21 = 0)
 (some ((0 : Int32), I22))
 (gd (gAt LC (I22 275 6).toNatClampNeg 0 3) (bd (fX3_emit ((I22 275 6).toNatClampNeg) (14 : Int32) (0 : Int32) I22) (pr (fun (u27 : Int32) (I28 : gI) => gd (gAt LC (I28 275 6).toNatClampNeg 0 3) (bd (fX3_jumpHere ((I28 275 6).toNatClampNeg) u12 I28) (fun (I32 : gI) => bd (rg 0 x1 (0 : Int32) I32) (pr (fun (u35 : Int32) (I36 : gI) => gi (u35 = 0)
 (some ((0 : Int32), I36))
 (bd (fX1_takes (15 : Int32) I36) (pr (fun (u40 : Int32) (I41 : gI) => gi (u40 = 0)
 (some ((0 : Int32), I41))
 (gd (gAt LC (I41 275 6).toNatClampNeg 0 3) (bd (fX3_jumpHere ((I41 275 6).toNatClampNeg) u27 I41) (fun (I46 : gI) => some ((1 : Int32), I46)))))))))))))))))))))))))))))
set_option maxHeartbeats 4000000 in
set_option maxRecDepth 100000 in
theorem kX1_choice_B {l : Launch} {G : gG} {ad : Nat → Nat} (hok : gInj LC ad) (k : Nat) (rg : gR) (hG : gIH l G ad (10 + k) rg)   (x1 : Int32) (I : gI) (J : gJ) (r : Int32) (I' : gI) (h : fX1_choice_B rg x1 I = some (r, I')) : gMi l yX1_choice cX1_choice 4 (some .boolean) (10 + k + 1) G LC ad [.ref (ad 275), .int x1] I J r (r = 0 ∨ r = 1) I' J := by
  refine gMz_of (lst := [(0, .ref (ad 275)), (1, .int x1)]) (by decide) hok (Nat.le_of_ble_eq_true rfl) rfl ?_
  intro p e s m args below meth c Q ls K hW hl hfin
  have hn : (some (r, I') : Option (Int32 × gI)) ≠ none := Option.some_ne_none _
  have hx := K.1; have hb := K.2.1; have hown := K.2.2.2.1; have hts := K.2.2.2.2.1
  unfold fX1_choice_B at h
  refine lv_aload_n hx hb dX1_choice_0 rfl (lv_at hl 0 rfl) ?_
  refine lv_iload_n hx hb dX1_choice_1 rfl (lv_at hl 1 rfl) ?_
  obtain ⟨⟨u1, I2⟩, e3, h⟩ := bd_o h hn
  replace h := pr_o h
  refine g_callVi (rest := []) K hW hl (gIH_5 hG x1 I J u1 I2 e3) kLC_275 rfl (gG_V q_628 q_630 q_18 q_136 q_631) nm_X1_either (gRo_g (by decide) (by decide)) rfl rfl (Nat.le_of_ble_eq_true rfl) ⟨Nat.zero_le _, Nat.zero_le _⟩ dX1_choice_2 (fun z4 H locs hW => ?_)
  refine lv_if_eq (tgt := 17) hx hb dX1_choice_5 (by decide) (fun c5 => ?_) (fun c5 => ?_)
  · replace h := gi_t h c5
    refine lv_iconst (v := (0 : Int32)) hx hb dX1_choice_17 (by decide) ?_
    obtain ⟨a1, a2⟩ := so2 h
    replace hW := gWd_nI a2 hW
    exact g_nmi a1 (hfin _ _ _ _ (a1 ▸ (Or.inl rfl)) hW dX1_choice_18)
  · replace h := gi_f h c5
    refine lv_aload_n hx hb dX1_choice_8 rfl (lv_at hl 0 rfl) ?_
    refine lv_bipush (v := (13 : Int32)) hx hb dX1_choice_9 (by decide) ?_
    obtain ⟨⟨u6, I7⟩, e8, h⟩ := bd_o h hn
    replace h := pr_o h
    refine g_callVi (rest := []) K hW hl (kX1_takes (l := l) (G := G) (ad := ad) hok (13 : Int32) I2 J u6 I7 e8) kLC_275 rfl (gG_V q_616 q_618 q_15 q_136 q_619) nm_X1_takes (gRo_l (by decide) (by decide)) rfl rfl (Nat.le_of_ble_eq_true rfl) ⟨Nat.zero_le _, Nat.zero_le _⟩ dX1_choice_11 (fun z9 H locs hW => ?_)
    refine lv_if_ne (tgt := 19) hx hb dX1_choice_14 (by decide) (fun c10 => ?_) (fun c10 => ?_)
    · replace h := gi_f h c10
      refine lv_aload_n hx hb dX1_choice_19 rfl (lv_at hl 0 rfl) ?_
      obtain ⟨g11, h⟩ := gd_o h hn
      refine g_get K hW (t := 3) (ci := 1) (k := 6) (v := .ref (ad ((I7 275 6).toNatClampNeg))) kLC_275 rfl rfl i_X1 (by decide) q_356 rfl (gfv3 rLC_275_6) dX1_choice_20 ?_
      refine lv_bipush (v := (13 : Int32)) hx hb dX1_choice_23 (by decide) ?_
      refine lv_iconst (v := (0 : Int32)) hx hb dX1_choice_25 (by decide) ?_
      obtain ⟨⟨u12, I13⟩, e14, h⟩ := bd_o h hn
      replace h := pr_o h
      refine g_callVi (rest := []) K hW hl (kX3_emit (l := l) (G := G) (ad := ad) hok ((I7 275 6).toNatClampNeg) g11 (13 : Int32) (0 : Int32) I7 J u12 I13 e14) g11 rfl (gG_V q_604 q_605 q_606 q_137 q_607) nm_X3_emit (gRo_l (by decide) (by decide)) rfl rfl (Nat.le_of_ble_eq_true rfl) ⟨Nat.zero_le _, Nat.zero_le _⟩ dX1_choice_26 (fun z15 H locs hW => ?_)
      refine lv_istore_n (lv' := [(2, .int u12), (0, .ref (ad 275)), (1, .int x1)]) hx hb dX1_choice_29 rfl hl (by decide) rfl (fun ls hl => ?_)
      refine lv_aload_n hx hb dX1_choice_30 rfl (lv_at hl 1 rfl) ?_
      refine lv_iload_n hx hb dX1_choice_31 rfl (lv_at hl 2 rfl) ?_
      obtain ⟨⟨u16, I17⟩, e18, h⟩ := bd_o h hn
      replace h := pr_o h
      refine g_callVi (rest := []) K hW hl (gIH_0 hG x1 I13 J u16 I17 e18) kLC_275 rfl (gG_V q_587 q_589 q_9 q_136 q_590) nm_X1_sum (gRo_g (by decide) (by decide)) rfl rfl (Nat.le_of_ble_eq_true rfl) ⟨Nat.zero_le _, Nat.zero_le _⟩ dX1_choice_32 (fun z19 H locs hW => ?_)
      refine lv_if_eq (tgt := 47) hx hb dX1_choice_35 (by decide) (fun c20 => ?_) (fun c20 => ?_)
      · replace h := gi_t h c20
        refine lv_iconst (v := (0 : Int32)) hx hb dX1_choice_47 (by decide) ?_
        obtain ⟨a1, a2⟩ := so2 h
        replace hW := gWd_nI a2 hW
        exact g_nmi a1 (hfin _ _ _ _ (a1 ▸ (Or.inl rfl)) hW dX1_choice_48)
      · replace h := gi_f h c20
        refine lv_aload_n hx hb dX1_choice_38 rfl (lv_at hl 1 rfl) ?_
        refine lv_bipush (v := (14 : Int32)) hx hb dX1_choice_39 (by decide) ?_
        obtain ⟨⟨u21, I22⟩, e23, h⟩ := bd_o h hn
        replace h := pr_o h
        refine g_callVi (rest := []) K hW hl (kX1_takes (l := l) (G := G) (ad := ad) hok (14 : Int32) I17 J u21 I22 e23) kLC_275 rfl (gG_V q_616 q_618 q_15 q_136 q_619) nm_X1_takes (gRo_l (by decide) (by decide)) rfl rfl (Nat.le_of_ble_eq_true rfl) ⟨Nat.zero_le _, Nat.zero_le _⟩ dX1_choice_41 (fun z24 H locs hW => ?_)
        refine lv_if_ne (tgt := 49) hx hb dX1_choice_44 (by decide) (fun c25 => ?_) (fun c25 => ?_)
        · replace h := gi_f h c25
          refine lv_aload_n hx hb dX1_choice_49 rfl (lv_at hl 1 rfl) ?_
          obtain ⟨g26, h⟩ := gd_o h hn
          refine g_get K hW (t := 3) (ci := 1) (k := 6) (v := .ref (ad ((I22 275 6).toNatClampNeg))) kLC_275 rfl rfl i_X1 (by decide) q_356 rfl (gfv3 rLC_275_6) dX1_choice_50 ?_
          refine lv_bipush (v := (14 : Int32)) hx hb dX1_choice_53 (by decide) ?_
          refine lv_iconst (v := (0 : Int32)) hx hb dX1_choice_55 (by decide) ?_
          obtain ⟨⟨u27, I28⟩, e29, h⟩ := bd_o h hn
          replace h := pr_o h
          refine g_callVi (rest := []) K hW hl (kX3_emit (l := l) (G := G) (ad := ad) hok ((I22 275 6).toNatClampNeg) g26 (14 : Int32) (0 : Int32) I22 J u27 I28 e29) g26 rfl (gG_V q_604 q_605 q_606 q_137 q_607) nm_X3_emit (gRo_l (by decide) (by decide)) rfl rfl (Nat.le_of_ble_eq_true rfl) ⟨Nat.zero_le _, Nat.zero_le _⟩ dX1_choice_56 (fun z30 H locs hW => ?_)
          refine lv_istore_n (lv' := [(3, .int u27), (2, .int u12), (0, .ref (ad 275)), (1, .int x1)]) hx hb dX1_choice_59 rfl hl (by decide) rfl (fun ls hl => ?_)
          refine lv_aload_n hx hb dX1_choice_60 rfl (lv_at hl 2 rfl) ?_
          obtain ⟨g31, h⟩ := gd_o h hn
          refine g_get K hW (t := 3) (ci := 1) (k := 6) (v := .ref (ad ((I28 275 6).toNatClampNeg))) kLC_275 rfl rfl i_X1 (by decide) q_356 rfl (gfv3 rLC_275_6) dX1_choice_61 ?_
          refine lv_iload_n hx hb dX1_choice_64 rfl (lv_at hl 1 rfl) ?_
          obtain ⟨I32, e33, h⟩ := bd_o h hn
          refine g_callVv (rest := []) K hW hl (kX3_jumpHere (l := l) (G := G) (ad := ad) hok ((I28 275 6).toNatClampNeg) g31 u12 I28 J I32 e33) g31 rfl (gG_V q_643 q_644 q_645 q_137 q_646) nm_X3_jumpHere (gRo_l (by decide) (by decide)) rfl rfl (Nat.le_of_ble_eq_true rfl) ⟨Nat.zero_le _, Nat.zero_le _⟩ dX1_choice_65 (fun H locs hW => ?_)
          refine lv_aload_n hx hb dX1_choice_68 rfl (lv_at hl 2 rfl) ?_
          refine lv_iload_n hx hb dX1_choice_69 rfl (lv_at hl 3 rfl) ?_
          obtain ⟨⟨u35, I36⟩, e37, h⟩ := bd_o h hn
          replace h := pr_o h
          refine g_callVi (rest := []) K hW hl (gIH_0 hG x1 I32 J u35 I36 e37) kLC_275 rfl (gG_V q_587 q_589 q_9 q_136 q_590) nm_X1_sum (gRo_g (by decide) (by decide)) rfl rfl (Nat.le_of_ble_eq_true rfl) ⟨Nat.zero_le _, Nat.zero_le _⟩ dX1_choice_70 (fun z38 H locs hW => ?_)
          refine lv_if_eq (tgt := 85) hx hb dX1_choice_73 (by decide) (fun c39 => ?_) (fun c39 => ?_)
          · replace h := gi_t h c39
            refine lv_iconst (v := (0 : Int32)) hx hb dX1_choice_85 (by decide) ?_
            obtain ⟨a1, a2⟩ := so2 h
            replace hW := gWd_nI a2 hW
            exact g_nmi a1 (hfin _ _ _ _ (a1 ▸ (Or.inl rfl)) hW dX1_choice_86)
          · replace h := gi_f h c39
            refine lv_aload_n hx hb dX1_choice_76 rfl (lv_at hl 2 rfl) ?_
            refine lv_bipush (v := (15 : Int32)) hx hb dX1_choice_77 (by decide) ?_
            obtain ⟨⟨u40, I41⟩, e42, h⟩ := bd_o h hn
            replace h := pr_o h
            refine g_callVi (rest := []) K hW hl (kX1_takes (l := l) (G := G) (ad := ad) hok (15 : Int32) I36 J u40 I41 e42) kLC_275 rfl (gG_V q_616 q_618 q_15 q_136 q_619) nm_X1_takes (gRo_l (by decide) (by decide)) rfl rfl (Nat.le_of_ble_eq_true rfl) ⟨Nat.zero_le _, Nat.zero_le _⟩ dX1_choice_79 (fun z43 H locs hW => ?_)
            refine lv_if_ne (tgt := 87) hx hb dX1_choice_82 (by decide) (fun c44 => ?_) (fun c44 => ?_)
            · replace h := gi_f h c44
              refine lv_aload_n hx hb dX1_choice_87 rfl (lv_at hl 2 rfl) ?_
              obtain ⟨g45, h⟩ := gd_o h hn
              refine g_get K hW (t := 3) (ci := 1) (k := 6) (v := .ref (ad ((I41 275 6).toNatClampNeg))) kLC_275 rfl rfl i_X1 (by decide) q_356 rfl (gfv3 rLC_275_6) dX1_choice_88 ?_
              refine lv_iload_n hx hb dX1_choice_91 rfl (lv_at hl 0 rfl) ?_
              obtain ⟨I46, e47, h⟩ := bd_o h hn
              refine g_callVv (rest := []) K hW hl (kX3_jumpHere (l := l) (G := G) (ad := ad) hok ((I41 275 6).toNatClampNeg) g45 u27 I41 J I46 e47) g45 rfl (gG_V q_643 q_644 q_645 q_137 q_646) nm_X3_jumpHere (gRo_l (by decide) (by decide)) rfl rfl (Nat.le_of_ble_eq_true rfl) ⟨Nat.zero_le _, Nat.zero_le _⟩ dX1_choice_92 (fun H locs hW => ?_)
              refine lv_iconst (v := (1 : Int32)) hx hb dX1_choice_95 (by decide) ?_
              obtain ⟨a1, a2⟩ := so2 h
              replace hW := gWd_nI a2 hW
              exact g_nmi a1 (hfin _ _ _ _ (a1 ▸ (Or.inr rfl)) hW dX1_choice_96)
            · replace h := gi_t h c44
              refine lv_iconst (v := (0 : Int32)) hx hb dX1_choice_85 (by decide) ?_
              obtain ⟨a1, a2⟩ := so2 h
              replace hW := gWd_nI a2 hW
              exact g_nmi a1 (hfin _ _ _ _ (a1 ▸ (Or.inl rfl)) hW dX1_choice_86)
        · replace h := gi_t h c25
          refine lv_iconst (v := (0 : Int32)) hx hb dX1_choice_47 (by decide) ?_
          obtain ⟨a1, a2⟩ := so2 h
          replace hW := gWd_nI a2 hW
          exact g_nmi a1 (hfin _ _ _ _ (a1 ▸ (Or.inl rfl)) hW dX1_choice_48)
    · replace h := gi_t h c10
      refine lv_iconst (v := (0 : Int32)) hx hb dX1_choice_17 (by decide) ?_
      obtain ⟨a1, a2⟩ := so2 h
      replace hW := gWd_nI a2 hW
      exact g_nmi a1 (hfin _ _ _ _ (a1 ▸ (Or.inl rfl)) hW dX1_choice_18)
theorem nm_X1_both : gNm yX1_both 1 := by decide +kernel
noncomputable def fX1_either_12b (rg : gR) (rec : Int32 → Int32 → gI → Option ((gI) ⊕ (gI))) (u6 : Int32) (u7 : Int32) (I : gI) : Option ((gI) ⊕ (gI)) :=
  gi ((300 : Int32) ≤ u7)
 (some (Sum.inr I))
 (gd (vp_in (I 275 4) 301) (gi ((I 276 ((I 275 4)).toNatClampNeg) = (16 : Int32))
 (lz (wI I 275 4 ((I 275 4) + (1 : Int32))) (fun (I13 : gI) => bd (rg 6 u6 (0 : Int32) I13) (pr (fun (u15 : Int32) (I16 : gI) => gi (u15 = 0)
 (some (Sum.inl I16))
 (gd (gAt LC (I16 275 6).toNatClampNeg 0 3) (bd (fX3_emit ((I16 275 6).toNatClampNeg) (16 : Int32) (0 : Int32) I16) (pr (fun (u21 : Int32) (I22 : gI) => lz ((u7 + (1 : Int32))) (fun (u25 : Int32) => rec u6 u25 I22)))))))))
 (some (Sum.inr I))))
noncomputable def fX1_either_12 (rg : gR) : Nat → Int32 → Int32 → gI → Option ((gI) ⊕ (gI))
  | 0 => fun _ _ _ => none
  | n + 1 => fX1_either_12b rg (fX1_either_12 rg n)
set_option maxHeartbeats 4000000 in
set_option maxRecDepth 100000 in
theorem tX1_either_12 {l : Launch} {G : gG} {ad : Nat → Nat} {p : Program} {e : Env} {s : State} {m : MethodId} {args : Array Value} {below : List Frame} {meth : Method} {c : Code} {Q : State → Prop} (hok : gInj LC ad) (K : gCx G (gA LC ad) p s m args c cX1_either 3 RX1) (k : Nat) (rg : gR) (hG : gIH l G ad (10 + k) rg)  : ∀ (n : Nat) (u6 : Int32) (u7 : Int32) (I : gI) (J : gJ) (out : Option ((gI) ⊕ (gI))), fX1_either_12 rg n u6 u7 I = out → out ≠ none → ∀ (H : Heap) (locs : List Loc), gWd G LC ad (gA LC ad) s.heap I J H locs → ∀ (ls : Array Slot), lv_has ls 3 [(0, .ref (ad 275)), (1, .int u6), (2, .int u7)] → (∀ (I8 : gI), some (Sum.inl I8) = out → ∀ (H : Heap) (locs : List Loc), gWd G LC ad (gA LC ad) s.heap I8 J H locs → ∀ (ls : Array Slot), lv_has ls 3 [] → W p l e (gRm (10 + k + 1)) s m args below meth c H locs 0 0 Q (F0 m 51 ls [])) → (∀ (I9 : gI), some (Sum.inr I9) = out → ∀ (H : Heap) (locs : List Loc), gWd G LC ad (gA LC ad) s.heap I9 J H locs → ∀ (ls : Array Slot), lv_has ls 3 [] → W p l e (gRm (10 + k + 1)) s m args below meth c H locs 0 0 Q (F0 m 70 ls [])) → W p l e (gRm (10 + k + 1)) s m args below meth c H locs 0 0 Q (F0 m 12 ls []) := by
  have hx := K.1; have hb := K.2.1; have hown := K.2.2.2.1; have hts := K.2.2.2.2.1
  intro n
  induction n with
  | zero => intro u6 u7 I J out h hn; exact absurd h.symm hn
  | succ n ih =>
    intro u6 u7 I J out h hn H locs hW ls hl hx1 hx2
    replace h : fX1_either_12b rg (fX1_either_12 rg n) u6 u7 I = out := h
    unfold fX1_either_12b at h
    refine lv_iload_n hx hb dX1_either_12 rfl (lv_at hl 2 rfl) ?_
    refine lv_sipush (v := (300 : Int32)) hx hb dX1_either_13 (by decide) ?_
    refine lv_icmp_ge (tgt := 70) hx hb dX1_either_16 (by decide) (fun c10 => ?_) (fun c10 => ?_)
    · replace h := gi_t h c10
      exact hx2 I h _ _ hW _ (lv_sub hl [] rfl)
    · replace h := gi_f h c10
      refine lv_aload_n hx hb dX1_either_19 rfl (lv_at hl 0 rfl) ?_
      refine g_get K hW (t := 2) (ci := 1) (k := 0) (v := .ref (ad 276)) kLC_275 rfl rfl i_X1 (by decide) q_350 rfl (gfv2 rLC_275_0) dX1_either_20 ?_
      refine lv_aload_n hx hb dX1_either_23 rfl (lv_at hl 0 rfl) ?_
      refine g_get K hW (t := 0) (ci := 1) (k := 4) (v := .int (I 275 4)) kLC_275 rfl rfl i_X1 (by decide) q_354 rfl rfl dX1_either_24 ?_
      obtain ⟨g11, h⟩ := gd_o h hn
      refine g_iald K hW kLC_276 g11 rfl dX1_either_27 ?_
      refine lv_bipush (v := (16 : Int32)) hx hb dX1_either_28 (by decide) ?_
      refine lv_icmp_ne (tgt := 70) hx hb dX1_either_30 (by decide) (fun c12 => ?_) (fun c12 => ?_)
      · replace h := gi_f h c12
        exact hx2 I h _ _ hW _ (lv_sub hl [] rfl)
      · replace h := gi_t h c12
        refine lv_aload_n hx hb dX1_either_33 rfl (lv_at hl 0 rfl) ?_
        refine lv_dup hx hb dX1_either_34 rfl ?_
        refine g_get K hW (t := 0) (ci := 1) (k := 4) (v := .int (I 275 4)) kLC_275 rfl rfl i_X1 (by decide) q_354 rfl rfl dX1_either_35 ?_
        refine lv_iconst (v := (1 : Int32)) hx hb dX1_either_38 (by decide) ?_
        refine lv_iadd hx hb dX1_either_39 ?_
        refine g_putI K hW (ci := 1) (k := 4) kLC_275 rfl rfl i_X1 tyX1_ok nmX1 (by decide) q_354 rfl rfl rfl rfl dX1_either_40 (fun H locs hW => ?_)
        obtain ⟨I13, e14, h⟩ := lz_o h
        replace hW := gWd_nI e14 hW
        refine lv_aload_n hx hb dX1_either_43 rfl (lv_at hl 0 rfl) ?_
        refine lv_iload_n hx hb dX1_either_44 rfl (lv_at hl 1 rfl) ?_
        obtain ⟨⟨u15, I16⟩, e17, h⟩ := bd_o h hn
        replace h := pr_o h
        refine g_callVi (rest := []) K hW hl (gIH_6 hG u6 I13 J u15 I16 e17) kLC_275 rfl (gG_V q_632 q_634 q_19 q_136 q_635) nm_X1_both (gRo_g (by decide) (by decide)) rfl rfl (Nat.le_of_ble_eq_true rfl) ⟨Nat.zero_le _, Nat.zero_le _⟩ dX1_either_45 (fun z18 H locs hW => ?_)
        refine lv_if_ne (tgt := 53) hx hb dX1_either_48 (by decide) (fun c19 => ?_) (fun c19 => ?_)
        · replace h := gi_f h c19
          refine lv_aload_n hx hb dX1_either_53 rfl (lv_at hl 0 rfl) ?_
          obtain ⟨g20, h⟩ := gd_o h hn
          refine g_get K hW (t := 3) (ci := 1) (k := 6) (v := .ref (ad ((I16 275 6).toNatClampNeg))) kLC_275 rfl rfl i_X1 (by decide) q_356 rfl (gfv3 rLC_275_6) dX1_either_54 ?_
          refine lv_bipush (v := (16 : Int32)) hx hb dX1_either_57 (by decide) ?_
          refine lv_iconst (v := (0 : Int32)) hx hb dX1_either_59 (by decide) ?_
          obtain ⟨⟨u21, I22⟩, e23, h⟩ := bd_o h hn
          replace h := pr_o h
          refine g_callVi (rest := []) K hW hl (kX3_emit (l := l) (G := G) (ad := ad) hok ((I16 275 6).toNatClampNeg) g20 (16 : Int32) (0 : Int32) I16 J u21 I22 e23) g20 rfl (gG_V q_604 q_605 q_606 q_137 q_607) nm_X3_emit (gRo_l (by decide) (by decide)) rfl rfl (Nat.le_of_ble_eq_true rfl) ⟨Nat.zero_le _, Nat.zero_le _⟩ dX1_either_60 (fun z24 H locs hW => ?_)
          refine lv_pop hx hb dX1_either_63 rfl ?_
          obtain ⟨u25, e26, h⟩ := lz_o h
          refine lv_iinc (v := u25) (lv' := [(2, .int u25), (0, .ref (ad 275)), (1, .int u6)]) hx hb dX1_either_64 hl (k := 2) rfl (by rw [e26]; rfl) (by decide) rfl (fun ls hl => ?_)
          refine lv_goto (tgt := 12) hx hb dX1_either_67 (by decide) ?_
          exact ih u6 u25 I22 J _ h hn _ _ hW _ (lv_sub hl [1, 2, 0] rfl) hx1 hx2
        · replace h := gi_t h c19
          exact hx1 I16 h _ _ hW _ (lv_sub hl [] rfl)
noncomputable def fX1_either_B (rg : gR)  (x1 : Int32) (I : gI) : Option (Int32 × gI) :=
  bd (rg 6 x1 (0 : Int32) I) (pr (fun (u1 : Int32) (I2 : gI) => gi (u1 = 0)
 (some ((0 : Int32), I2))
 (bd (fX1_either_12 rg FU x1 (0 : Int32) I2) (sm (fun (I29 : gI) => some ((0 : Int32), I29)) (fun (I31 : gI) => some ((1 : Int32), I31))))))
set_option maxHeartbeats 4000000 in
set_option maxRecDepth 100000 in
theorem kX1_either_B {l : Launch} {G : gG} {ad : Nat → Nat} (hok : gInj LC ad) (k : Nat) (rg : gR) (hG : gIH l G ad (10 + k) rg)   (x1 : Int32) (I : gI) (J : gJ) (r : Int32) (I' : gI) (h : fX1_either_B rg x1 I = some (r, I')) : gMi l yX1_either cX1_either 3 (some .boolean) (10 + k + 1) G LC ad [.ref (ad 275), .int x1] I J r (r = 0 ∨ r = 1) I' J := by
  refine gMz_of (lst := [(0, .ref (ad 275)), (1, .int x1)]) (by decide) hok (Nat.le_of_ble_eq_true rfl) rfl ?_
  intro p e s m args below meth c Q ls K hW hl hfin
  have hn : (some (r, I') : Option (Int32 × gI)) ≠ none := Option.some_ne_none _
  have hx := K.1; have hb := K.2.1; have hown := K.2.2.2.1; have hts := K.2.2.2.2.1
  unfold fX1_either_B at h
  refine lv_aload_n hx hb dX1_either_0 rfl (lv_at hl 0 rfl) ?_
  refine lv_iload_n hx hb dX1_either_1 rfl (lv_at hl 1 rfl) ?_
  obtain ⟨⟨u1, I2⟩, e3, h⟩ := bd_o h hn
  replace h := pr_o h
  refine g_callVi (rest := []) K hW hl (gIH_6 hG x1 I J u1 I2 e3) kLC_275 rfl (gG_V q_632 q_634 q_19 q_136 q_635) nm_X1_both (gRo_g (by decide) (by decide)) rfl rfl (Nat.le_of_ble_eq_true rfl) ⟨Nat.zero_le _, Nat.zero_le _⟩ dX1_either_2 (fun z4 H locs hW => ?_)
  refine lv_if_ne (tgt := 10) hx hb dX1_either_5 (by decide) (fun c5 => ?_) (fun c5 => ?_)
  · replace h := gi_f h c5
    refine lv_iconst (v := (0 : Int32)) hx hb dX1_either_10 (by decide) ?_
    refine lv_istore_n (lv' := [(2, .int (0 : Int32)), (0, .ref (ad 275)), (1, .int x1)]) hx hb dX1_either_11 rfl hl (by decide) rfl (fun ls hl => ?_)
    obtain ⟨r27, e28, h⟩ := bd_o h hn
    refine tX1_either_12 hok K k rg hG FU x1 (0 : Int32) I2 J (some r27) e28 (Option.some_ne_none _) _ _ hW _ (lv_sub hl [1, 2, 0] rfl) ?_ ?_
    · intro I29 q30 H locs hW ls hl
      replace q30 := Option.some.inj q30
      subst q30
      replace h := sm_l h
      refine lv_iconst (v := (0 : Int32)) hx hb dX1_either_51 (by decide) ?_
      obtain ⟨a1, a2⟩ := so2 h
      replace hW := gWd_nI a2 hW
      exact g_nmi a1 (hfin _ _ _ _ (a1 ▸ (Or.inl rfl)) hW dX1_either_52)
    · intro I31 q32 H locs hW ls hl
      replace q32 := Option.some.inj q32
      subst q32
      replace h := sm_r h
      refine lv_iconst (v := (1 : Int32)) hx hb dX1_either_70 (by decide) ?_
      obtain ⟨a1, a2⟩ := so2 h
      replace hW := gWd_nI a2 hW
      exact g_nmi a1 (hfin _ _ _ _ (a1 ▸ (Or.inr rfl)) hW dX1_either_71)
  · replace h := gi_t h c5
    refine lv_iconst (v := (0 : Int32)) hx hb dX1_either_8 (by decide) ?_
    obtain ⟨a1, a2⟩ := so2 h
    replace hW := gWd_nI a2 hW
    exact g_nmi a1 (hfin _ _ _ _ (a1 ▸ (Or.inl rfl)) hW dX1_either_9)
theorem nm_X1_asking : gNm yX1_asking 1 := by decide +kernel
noncomputable def fX1_both_12b (rg : gR) (rec : Int32 → Int32 → gI → Option ((gI) ⊕ (gI))) (u6 : Int32) (u7 : Int32) (I : gI) : Option ((gI) ⊕ (gI)) :=
  gi ((300 : Int32) ≤ u7)
 (some (Sum.inr I))
 (gd (vp_in (I 275 4) 301) (gi ((I 276 ((I 275 4)).toNatClampNeg) = (17 : Int32))
 (lz (wI I 275 4 ((I 275 4) + (1 : Int32))) (fun (I13 : gI) => bd (rg 7 u6 (0 : Int32) I13) (pr (fun (u15 : Int32) (I16 : gI) => gi (u15 = 0)
 (some (Sum.inl I16))
 (gd (gAt LC (I16 275 6).toNatClampNeg 0 3) (bd (fX3_emit ((I16 275 6).toNatClampNeg) (17 : Int32) (0 : Int32) I16) (pr (fun (u21 : Int32) (I22 : gI) => lz ((u7 + (1 : Int32))) (fun (u25 : Int32) => rec u6 u25 I22)))))))))
 (some (Sum.inr I))))
noncomputable def fX1_both_12 (rg : gR) : Nat → Int32 → Int32 → gI → Option ((gI) ⊕ (gI))
  | 0 => fun _ _ _ => none
  | n + 1 => fX1_both_12b rg (fX1_both_12 rg n)
set_option maxHeartbeats 4000000 in
set_option maxRecDepth 100000 in
theorem tX1_both_12 {l : Launch} {G : gG} {ad : Nat → Nat} {p : Program} {e : Env} {s : State} {m : MethodId} {args : Array Value} {below : List Frame} {meth : Method} {c : Code} {Q : State → Prop} (hok : gInj LC ad) (K : gCx G (gA LC ad) p s m args c cX1_both 3 RX1) (k : Nat) (rg : gR) (hG : gIH l G ad (10 + k) rg)  : ∀ (n : Nat) (u6 : Int32) (u7 : Int32) (I : gI) (J : gJ) (out : Option ((gI) ⊕ (gI))), fX1_both_12 rg n u6 u7 I = out → out ≠ none → ∀ (H : Heap) (locs : List Loc), gWd G LC ad (gA LC ad) s.heap I J H locs → ∀ (ls : Array Slot), lv_has ls 3 [(0, .ref (ad 275)), (1, .int u6), (2, .int u7)] → (∀ (I8 : gI), some (Sum.inl I8) = out → ∀ (H : Heap) (locs : List Loc), gWd G LC ad (gA LC ad) s.heap I8 J H locs → ∀ (ls : Array Slot), lv_has ls 3 [] → W p l e (gRm (10 + k + 1)) s m args below meth c H locs 0 0 Q (F0 m 51 ls [])) → (∀ (I9 : gI), some (Sum.inr I9) = out → ∀ (H : Heap) (locs : List Loc), gWd G LC ad (gA LC ad) s.heap I9 J H locs → ∀ (ls : Array Slot), lv_has ls 3 [] → W p l e (gRm (10 + k + 1)) s m args below meth c H locs 0 0 Q (F0 m 70 ls [])) → W p l e (gRm (10 + k + 1)) s m args below meth c H locs 0 0 Q (F0 m 12 ls []) := by
  have hx := K.1; have hb := K.2.1; have hown := K.2.2.2.1; have hts := K.2.2.2.2.1
  intro n
  induction n with
  | zero => intro u6 u7 I J out h hn; exact absurd h.symm hn
  | succ n ih =>
    intro u6 u7 I J out h hn H locs hW ls hl hx1 hx2
    replace h : fX1_both_12b rg (fX1_both_12 rg n) u6 u7 I = out := h
    unfold fX1_both_12b at h
    refine lv_iload_n hx hb dX1_both_12 rfl (lv_at hl 2 rfl) ?_
    refine lv_sipush (v := (300 : Int32)) hx hb dX1_both_13 (by decide) ?_
    refine lv_icmp_ge (tgt := 70) hx hb dX1_both_16 (by decide) (fun c10 => ?_) (fun c10 => ?_)
    · replace h := gi_t h c10
      exact hx2 I h _ _ hW _ (lv_sub hl [] rfl)
    · replace h := gi_f h c10
      refine lv_aload_n hx hb dX1_both_19 rfl (lv_at hl 0 rfl) ?_
      refine g_get K hW (t := 2) (ci := 1) (k := 0) (v := .ref (ad 276)) kLC_275 rfl rfl i_X1 (by decide) q_350 rfl (gfv2 rLC_275_0) dX1_both_20 ?_
      refine lv_aload_n hx hb dX1_both_23 rfl (lv_at hl 0 rfl) ?_
      refine g_get K hW (t := 0) (ci := 1) (k := 4) (v := .int (I 275 4)) kLC_275 rfl rfl i_X1 (by decide) q_354 rfl rfl dX1_both_24 ?_
      obtain ⟨g11, h⟩ := gd_o h hn
      refine g_iald K hW kLC_276 g11 rfl dX1_both_27 ?_
      refine lv_bipush (v := (17 : Int32)) hx hb dX1_both_28 (by decide) ?_
      refine lv_icmp_ne (tgt := 70) hx hb dX1_both_30 (by decide) (fun c12 => ?_) (fun c12 => ?_)
      · replace h := gi_f h c12
        exact hx2 I h _ _ hW _ (lv_sub hl [] rfl)
      · replace h := gi_t h c12
        refine lv_aload_n hx hb dX1_both_33 rfl (lv_at hl 0 rfl) ?_
        refine lv_dup hx hb dX1_both_34 rfl ?_
        refine g_get K hW (t := 0) (ci := 1) (k := 4) (v := .int (I 275 4)) kLC_275 rfl rfl i_X1 (by decide) q_354 rfl rfl dX1_both_35 ?_
        refine lv_iconst (v := (1 : Int32)) hx hb dX1_both_38 (by decide) ?_
        refine lv_iadd hx hb dX1_both_39 ?_
        refine g_putI K hW (ci := 1) (k := 4) kLC_275 rfl rfl i_X1 tyX1_ok nmX1 (by decide) q_354 rfl rfl rfl rfl dX1_both_40 (fun H locs hW => ?_)
        obtain ⟨I13, e14, h⟩ := lz_o h
        replace hW := gWd_nI e14 hW
        refine lv_aload_n hx hb dX1_both_43 rfl (lv_at hl 0 rfl) ?_
        refine lv_iload_n hx hb dX1_both_44 rfl (lv_at hl 1 rfl) ?_
        obtain ⟨⟨u15, I16⟩, e17, h⟩ := bd_o h hn
        replace h := pr_o h
        refine g_callVi (rest := []) K hW hl (gIH_7 hG u6 I13 J u15 I16 e17) kLC_275 rfl (gG_V q_636 q_638 q_20 q_136 q_639) nm_X1_asking (gRo_g (by decide) (by decide)) rfl rfl (Nat.le_of_ble_eq_true rfl) ⟨Nat.zero_le _, Nat.zero_le _⟩ dX1_both_45 (fun z18 H locs hW => ?_)
        refine lv_if_ne (tgt := 53) hx hb dX1_both_48 (by decide) (fun c19 => ?_) (fun c19 => ?_)
        · replace h := gi_f h c19
          refine lv_aload_n hx hb dX1_both_53 rfl (lv_at hl 0 rfl) ?_
          obtain ⟨g20, h⟩ := gd_o h hn
          refine g_get K hW (t := 3) (ci := 1) (k := 6) (v := .ref (ad ((I16 275 6).toNatClampNeg))) kLC_275 rfl rfl i_X1 (by decide) q_356 rfl (gfv3 rLC_275_6) dX1_both_54 ?_
          refine lv_bipush (v := (17 : Int32)) hx hb dX1_both_57 (by decide) ?_
          refine lv_iconst (v := (0 : Int32)) hx hb dX1_both_59 (by decide) ?_
          obtain ⟨⟨u21, I22⟩, e23, h⟩ := bd_o h hn
          replace h := pr_o h
          refine g_callVi (rest := []) K hW hl (kX3_emit (l := l) (G := G) (ad := ad) hok ((I16 275 6).toNatClampNeg) g20 (17 : Int32) (0 : Int32) I16 J u21 I22 e23) g20 rfl (gG_V q_604 q_605 q_606 q_137 q_607) nm_X3_emit (gRo_l (by decide) (by decide)) rfl rfl (Nat.le_of_ble_eq_true rfl) ⟨Nat.zero_le _, Nat.zero_le _⟩ dX1_both_60 (fun z24 H locs hW => ?_)
          refine lv_pop hx hb dX1_both_63 rfl ?_
          obtain ⟨u25, e26, h⟩ := lz_o h
          refine lv_iinc (v := u25) (lv' := [(2, .int u25), (0, .ref (ad 275)), (1, .int u6)]) hx hb dX1_both_64 hl (k := 2) rfl (by rw [e26]; rfl) (by decide) rfl (fun ls hl => ?_)
          refine lv_goto (tgt := 12) hx hb dX1_both_67 (by decide) ?_
          exact ih u6 u25 I22 J _ h hn _ _ hW _ (lv_sub hl [1, 2, 0] rfl) hx1 hx2
        · replace h := gi_t h c19
          exact hx1 I16 h _ _ hW _ (lv_sub hl [] rfl)
noncomputable def fX1_both_B (rg : gR)  (x1 : Int32) (I : gI) : Option (Int32 × gI) :=
  bd (rg 7 x1 (0 : Int32) I) (pr (fun (u1 : Int32) (I2 : gI) => gi (u1 = 0)
 (some ((0 : Int32), I2))
 (bd (fX1_both_12 rg FU x1 (0 : Int32) I2) (sm (fun (I29 : gI) => some ((0 : Int32), I29)) (fun (I31 : gI) => some ((1 : Int32), I31))))))
set_option maxHeartbeats 4000000 in
set_option maxRecDepth 100000 in
theorem kX1_both_B {l : Launch} {G : gG} {ad : Nat → Nat} (hok : gInj LC ad) (k : Nat) (rg : gR) (hG : gIH l G ad (10 + k) rg)   (x1 : Int32) (I : gI) (J : gJ) (r : Int32) (I' : gI) (h : fX1_both_B rg x1 I = some (r, I')) : gMi l yX1_both cX1_both 3 (some .boolean) (10 + k + 1) G LC ad [.ref (ad 275), .int x1] I J r (r = 0 ∨ r = 1) I' J := by
  refine gMz_of (lst := [(0, .ref (ad 275)), (1, .int x1)]) (by decide) hok (Nat.le_of_ble_eq_true rfl) rfl ?_
  intro p e s m args below meth c Q ls K hW hl hfin
  have hn : (some (r, I') : Option (Int32 × gI)) ≠ none := Option.some_ne_none _
  have hx := K.1; have hb := K.2.1; have hown := K.2.2.2.1; have hts := K.2.2.2.2.1
  unfold fX1_both_B at h
  refine lv_aload_n hx hb dX1_both_0 rfl (lv_at hl 0 rfl) ?_
  refine lv_iload_n hx hb dX1_both_1 rfl (lv_at hl 1 rfl) ?_
  obtain ⟨⟨u1, I2⟩, e3, h⟩ := bd_o h hn
  replace h := pr_o h
  refine g_callVi (rest := []) K hW hl (gIH_7 hG x1 I J u1 I2 e3) kLC_275 rfl (gG_V q_636 q_638 q_20 q_136 q_639) nm_X1_asking (gRo_g (by decide) (by decide)) rfl rfl (Nat.le_of_ble_eq_true rfl) ⟨Nat.zero_le _, Nat.zero_le _⟩ dX1_both_2 (fun z4 H locs hW => ?_)
  refine lv_if_ne (tgt := 10) hx hb dX1_both_5 (by decide) (fun c5 => ?_) (fun c5 => ?_)
  · replace h := gi_f h c5
    refine lv_iconst (v := (0 : Int32)) hx hb dX1_both_10 (by decide) ?_
    refine lv_istore_n (lv' := [(2, .int (0 : Int32)), (0, .ref (ad 275)), (1, .int x1)]) hx hb dX1_both_11 rfl hl (by decide) rfl (fun ls hl => ?_)
    obtain ⟨r27, e28, h⟩ := bd_o h hn
    refine tX1_both_12 hok K k rg hG FU x1 (0 : Int32) I2 J (some r27) e28 (Option.some_ne_none _) _ _ hW _ (lv_sub hl [1, 2, 0] rfl) ?_ ?_
    · intro I29 q30 H locs hW ls hl
      replace q30 := Option.some.inj q30
      subst q30
      replace h := sm_l h
      refine lv_iconst (v := (0 : Int32)) hx hb dX1_both_51 (by decide) ?_
      obtain ⟨a1, a2⟩ := so2 h
      replace hW := gWd_nI a2 hW
      exact g_nmi a1 (hfin _ _ _ _ (a1 ▸ (Or.inl rfl)) hW dX1_both_52)
    · intro I31 q32 H locs hW ls hl
      replace q32 := Option.some.inj q32
      subst q32
      replace h := sm_r h
      refine lv_iconst (v := (1 : Int32)) hx hb dX1_both_70 (by decide) ?_
      obtain ⟨a1, a2⟩ := so2 h
      replace hW := gWd_nI a2 hW
      exact g_nmi a1 (hfin _ _ _ _ (a1 ▸ (Or.inr rfl)) hW dX1_both_71)
  · replace h := gi_t h c5
    refine lv_iconst (v := (0 : Int32)) hx hb dX1_both_8 (by decide) ?_
    obtain ⟨a1, a2⟩ := so2 h
    replace hW := gWd_nI a2 hW
    exact g_nmi a1 (hfin _ _ _ _ (a1 ▸ (Or.inl rfl)) hW dX1_both_9)
theorem nm_X4_isComparison : gNm yX4_isComparison 1 := by decide +kernel
noncomputable def fX1_asking_B (rg : gR)  (x1 : Int32) (I : gI) : Option (Int32 × gI) :=
  gd (vp_in (I 275 4) 301) (gi ((I 276 ((I 275 4)).toNatClampNeg) = (18 : Int32))
 (bd (fX1_opens x1 I) (pr (fun (u29 : Int32) (I30 : gI) => gi (u29 = 0)
 (some ((0 : Int32), I30))
 (bd (rg 7 (x1 + (1 : Int32)) (0 : Int32) I30) (pr (fun (u34 : Int32) (I35 : gI) => gi (u34 = 0)
 (some ((0 : Int32), I35))
 (gd (gAt LC (I35 275 6).toNatClampNeg 0 3) (bd (fX3_emit ((I35 275 6).toNatClampNeg) (18 : Int32) (0 : Int32) I35) (pr (fun (u40 : Int32) (I41 : gI) => some ((1 : Int32), I41)))))))))))
 (bd (rg 0 x1 (0 : Int32) I) (pr (fun (u3 : Int32) (I4 : gI) => gi (u3 = 0)
 (some ((0 : Int32), I4))
 (gd (vp_in (I4 275 4) 301) (lz ((I4 276 ((I4 275 4)).toNatClampNeg)) (fun (u9 : Int32) => gi ((fX4_isComparison u9) = 0)
 (bd (fX1_fails (1 : Int32) I4) (pr (fun (u25 : Int32) (I26 : gI) => some (u25, I26))))
 (lz (wI I4 275 4 ((I4 275 4) + (1 : Int32))) (fun (I13 : gI) => bd (rg 0 x1 (0 : Int32) I13) (pr (fun (u15 : Int32) (I16 : gI) => gi (u15 = 0)
 (some ((0 : Int32), I16))
 (gd (gAt LC (I16 275 6).toNatClampNeg 0 3) (bd (fX3_emit ((I16 275 6).toNatClampNeg) u9 (0 : Int32) I16) (pr (fun (u21 : Int32) (I22 : gI) => some ((1 : Int32), I22))))))))))))))))
set_option maxHeartbeats 4000000 in
set_option maxRecDepth 100000 in
theorem kX1_asking_B {l : Launch} {G : gG} {ad : Nat → Nat} (hok : gInj LC ad) (k : Nat) (rg : gR) (hG : gIH l G ad (10 + k) rg)   (x1 : Int32) (I : gI) (J : gJ) (r : Int32) (I' : gI) (h : fX1_asking_B rg x1 I = some (r, I')) : gMi l yX1_asking cX1_asking 3 (some .boolean) (10 + k + 1) G LC ad [.ref (ad 275), .int x1] I J r (r = 0 ∨ r = 1) I' J := by
  refine gMz_of (lst := [(0, .ref (ad 275)), (1, .int x1)]) (by decide) hok (Nat.le_of_ble_eq_true rfl) rfl ?_
  intro p e s m args below meth c Q ls K hW hl hfin
  have hn : (some (r, I') : Option (Int32 × gI)) ≠ none := Option.some_ne_none _
  have hx := K.1; have hb := K.2.1; have hown := K.2.2.2.1; have hts := K.2.2.2.2.1
  unfold fX1_asking_B at h
  refine lv_aload_n hx hb dX1_asking_0 rfl (lv_at hl 0 rfl) ?_
  refine g_get K hW (t := 2) (ci := 1) (k := 0) (v := .ref (ad 276)) kLC_275 rfl rfl i_X1 (by decide) q_350 rfl (gfv2 rLC_275_0) dX1_asking_1 ?_
  refine lv_aload_n hx hb dX1_asking_4 rfl (lv_at hl 0 rfl) ?_
  refine g_get K hW (t := 0) (ci := 1) (k := 4) (v := .int (I 275 4)) kLC_275 rfl rfl i_X1 (by decide) q_354 rfl rfl dX1_asking_5 ?_
  obtain ⟨g1, h⟩ := gd_o h hn
  refine g_iald K hW kLC_276 g1 rfl dX1_asking_8 ?_
  refine lv_bipush (v := (18 : Int32)) hx hb dX1_asking_9 (by decide) ?_
  refine lv_icmp_ne (tgt := 47) hx hb dX1_asking_11 (by decide) (fun c2 => ?_) (fun c2 => ?_)
  · replace h := gi_f h c2
    refine lv_aload_n hx hb dX1_asking_47 rfl (lv_at hl 0 rfl) ?_
    refine lv_iload_n hx hb dX1_asking_48 rfl (lv_at hl 1 rfl) ?_
    obtain ⟨⟨u3, I4⟩, e5, h⟩ := bd_o h hn
    replace h := pr_o h
    refine g_callVi (rest := []) K hW hl (gIH_0 hG x1 I J u3 I4 e5) kLC_275 rfl (gG_V q_587 q_589 q_9 q_136 q_590) nm_X1_sum (gRo_g (by decide) (by decide)) rfl rfl (Nat.le_of_ble_eq_true rfl) ⟨Nat.zero_le _, Nat.zero_le _⟩ dX1_asking_49 (fun z6 H locs hW => ?_)
    refine lv_if_ne (tgt := 57) hx hb dX1_asking_52 (by decide) (fun c7 => ?_) (fun c7 => ?_)
    · replace h := gi_f h c7
      refine lv_aload_n hx hb dX1_asking_57 rfl (lv_at hl 0 rfl) ?_
      refine g_get K hW (t := 2) (ci := 1) (k := 0) (v := .ref (ad 276)) kLC_275 rfl rfl i_X1 (by decide) q_350 rfl (gfv2 rLC_275_0) dX1_asking_58 ?_
      refine lv_aload_n hx hb dX1_asking_61 rfl (lv_at hl 0 rfl) ?_
      refine g_get K hW (t := 0) (ci := 1) (k := 4) (v := .int (I4 275 4)) kLC_275 rfl rfl i_X1 (by decide) q_354 rfl rfl dX1_asking_62 ?_
      obtain ⟨g8, h⟩ := gd_o h hn
      refine g_iald K hW kLC_276 g8 rfl dX1_asking_65 ?_
      obtain ⟨u9, e10, h⟩ := lz_o h
      refine g_nmi e10 ?_
      refine lv_istore_n (lv' := [(2, .int u9), (0, .ref (ad 275)), (1, .int x1)]) hx hb dX1_asking_66 rfl hl (by decide) rfl (fun ls hl => ?_)
      refine lv_iload_n hx hb dX1_asking_67 rfl (lv_at hl 0 rfl) ?_
      refine g_callSi (rest := []) K hW hl (kX4_isComparison (l := l) (G := G) (ad := ad) hok u9 I4 J (fX4_isComparison u9) rfl) q_640 q_641 q_140 q_642 nm_X4_isComparison (gRo_l (by decide) (by decide)) rfl rfl (Nat.le_of_ble_eq_true rfl) ⟨Nat.zero_le _, Nat.zero_le _⟩ dX1_asking_68 (fun z11 H locs hW => ?_)
      refine lv_if_ne (tgt := 80) hx hb dX1_asking_71 (by decide) (fun c12 => ?_) (fun c12 => ?_)
      · replace h := gi_f h c12
        refine lv_aload_n hx hb dX1_asking_80 rfl (lv_at hl 1 rfl) ?_
        refine lv_dup hx hb dX1_asking_81 rfl ?_
        refine g_get K hW (t := 0) (ci := 1) (k := 4) (v := .int (I4 275 4)) kLC_275 rfl rfl i_X1 (by decide) q_354 rfl rfl dX1_asking_82 ?_
        refine lv_iconst (v := (1 : Int32)) hx hb dX1_asking_85 (by decide) ?_
        refine lv_iadd hx hb dX1_asking_86 ?_
        refine g_putI K hW (ci := 1) (k := 4) kLC_275 rfl rfl i_X1 tyX1_ok nmX1 (by decide) q_354 rfl rfl rfl rfl dX1_asking_87 (fun H locs hW => ?_)
        obtain ⟨I13, e14, h⟩ := lz_o h
        replace hW := gWd_nI e14 hW
        refine lv_aload_n hx hb dX1_asking_90 rfl (lv_at hl 1 rfl) ?_
        refine lv_iload_n hx hb dX1_asking_91 rfl (lv_at hl 2 rfl) ?_
        obtain ⟨⟨u15, I16⟩, e17, h⟩ := bd_o h hn
        replace h := pr_o h
        refine g_callVi (rest := []) K hW hl (gIH_0 hG x1 I13 J u15 I16 e17) kLC_275 rfl (gG_V q_587 q_589 q_9 q_136 q_590) nm_X1_sum (gRo_g (by decide) (by decide)) rfl rfl (Nat.le_of_ble_eq_true rfl) ⟨Nat.zero_le _, Nat.zero_le _⟩ dX1_asking_92 (fun z18 H locs hW => ?_)
        refine lv_if_ne (tgt := 100) hx hb dX1_asking_95 (by decide) (fun c19 => ?_) (fun c19 => ?_)
        · replace h := gi_f h c19
          refine lv_aload_n hx hb dX1_asking_100 rfl (lv_at hl 1 rfl) ?_
          obtain ⟨g20, h⟩ := gd_o h hn
          refine g_get K hW (t := 3) (ci := 1) (k := 6) (v := .ref (ad ((I16 275 6).toNatClampNeg))) kLC_275 rfl rfl i_X1 (by decide) q_356 rfl (gfv3 rLC_275_6) dX1_asking_101 ?_
          refine lv_iload_n hx hb dX1_asking_104 rfl (lv_at hl 0 rfl) ?_
          refine lv_iconst (v := (0 : Int32)) hx hb dX1_asking_105 (by decide) ?_
          obtain ⟨⟨u21, I22⟩, e23, h⟩ := bd_o h hn
          replace h := pr_o h
          refine g_callVi (rest := []) K hW hl (kX3_emit (l := l) (G := G) (ad := ad) hok ((I16 275 6).toNatClampNeg) g20 u9 (0 : Int32) I16 J u21 I22 e23) g20 rfl (gG_V q_604 q_605 q_606 q_137 q_607) nm_X3_emit (gRo_l (by decide) (by decide)) rfl rfl (Nat.le_of_ble_eq_true rfl) ⟨Nat.zero_le _, Nat.zero_le _⟩ dX1_asking_106 (fun z24 H locs hW => ?_)
          refine lv_pop hx hb dX1_asking_109 rfl ?_
          refine lv_iconst (v := (1 : Int32)) hx hb dX1_asking_110 (by decide) ?_
          obtain ⟨a1, a2⟩ := so2 h
          replace hW := gWd_nI a2 hW
          exact g_nmi a1 (hfin _ _ _ _ (a1 ▸ (Or.inr rfl)) hW dX1_asking_111)
        · replace h := gi_t h c19
          refine lv_iconst (v := (0 : Int32)) hx hb dX1_asking_98 (by decide) ?_
          obtain ⟨a1, a2⟩ := so2 h
          replace hW := gWd_nI a2 hW
          exact g_nmi a1 (hfin _ _ _ _ (a1 ▸ (Or.inl rfl)) hW dX1_asking_99)
      · replace h := gi_t h c12
        refine lv_aload_n hx hb dX1_asking_74 rfl (lv_at hl 1 rfl) ?_
        refine lv_iconst (v := (1 : Int32)) hx hb dX1_asking_75 (by decide) ?_
        obtain ⟨⟨u25, I26⟩, e27, h⟩ := bd_o h hn
        replace h := pr_o h
        refine g_callVi (rest := []) K hW hl (kX1_fails (l := l) (G := G) (ad := ad) hok (1 : Int32) I4 J u25 I26 e27) kLC_275 rfl (gG_V q_575 q_577 q_7 q_136 q_578) nm_X1_fails (gRo_l (by decide) (by decide)) rfl rfl (Nat.le_of_ble_eq_true rfl) ⟨Nat.zero_le _, Nat.zero_le _⟩ dX1_asking_76 (fun z28 H locs hW => ?_)
        obtain ⟨a1, a2⟩ := so2 h
        replace hW := gWd_nI a2 hW
        exact g_nmi a1 (hfin _ _ _ _ (a1 ▸ z28) hW dX1_asking_79)
    · replace h := gi_t h c7
      refine lv_iconst (v := (0 : Int32)) hx hb dX1_asking_55 (by decide) ?_
      obtain ⟨a1, a2⟩ := so2 h
      replace hW := gWd_nI a2 hW
      exact g_nmi a1 (hfin _ _ _ _ (a1 ▸ (Or.inl rfl)) hW dX1_asking_56)
  · replace h := gi_t h c2
    refine lv_aload_n hx hb dX1_asking_14 rfl (lv_at hl 0 rfl) ?_
    refine lv_iload_n hx hb dX1_asking_15 rfl (lv_at hl 1 rfl) ?_
    obtain ⟨⟨u29, I30⟩, e31, h⟩ := bd_o h hn
    replace h := pr_o h
    refine g_callVi (rest := []) K hW hl (kX1_opens (l := l) (G := G) (ad := ad) hok x1 I J u29 I30 e31) kLC_275 rfl (gG_V q_612 q_614 q_14 q_136 q_615) nm_X1_opens (gRo_l (by decide) (by decide)) rfl rfl (Nat.le_of_ble_eq_true rfl) ⟨Nat.zero_le _, Nat.zero_le _⟩ dX1_asking_16 (fun z32 H locs hW => ?_)
    refine lv_if_eq (tgt := 32) hx hb dX1_asking_19 (by decide) (fun c33 => ?_) (fun c33 => ?_)
    · replace h := gi_t h c33
      refine lv_iconst (v := (0 : Int32)) hx hb dX1_asking_32 (by decide) ?_
      obtain ⟨a1, a2⟩ := so2 h
      replace hW := gWd_nI a2 hW
      exact g_nmi a1 (hfin _ _ _ _ (a1 ▸ (Or.inl rfl)) hW dX1_asking_33)
    · replace h := gi_f h c33
      refine lv_aload_n hx hb dX1_asking_22 rfl (lv_at hl 0 rfl) ?_
      refine lv_iload_n hx hb dX1_asking_23 rfl (lv_at hl 1 rfl) ?_
      refine lv_iconst (v := (1 : Int32)) hx hb dX1_asking_24 (by decide) ?_
      refine lv_iadd hx hb dX1_asking_25 ?_
      obtain ⟨⟨u34, I35⟩, e36, h⟩ := bd_o h hn
      replace h := pr_o h
      refine g_callVi (rest := []) K hW hl (gIH_7 hG (x1 + (1 : Int32)) I30 J u34 I35 e36) kLC_275 rfl (gG_V q_636 q_638 q_20 q_136 q_639) nm_X1_asking (gRo_g (by decide) (by decide)) rfl rfl (Nat.le_of_ble_eq_true rfl) ⟨Nat.zero_le _, Nat.zero_le _⟩ dX1_asking_26 (fun z37 H locs hW => ?_)
      refine lv_if_ne (tgt := 34) hx hb dX1_asking_29 (by decide) (fun c38 => ?_) (fun c38 => ?_)
      · replace h := gi_f h c38
        refine lv_aload_n hx hb dX1_asking_34 rfl (lv_at hl 0 rfl) ?_
        obtain ⟨g39, h⟩ := gd_o h hn
        refine g_get K hW (t := 3) (ci := 1) (k := 6) (v := .ref (ad ((I35 275 6).toNatClampNeg))) kLC_275 rfl rfl i_X1 (by decide) q_356 rfl (gfv3 rLC_275_6) dX1_asking_35 ?_
        refine lv_bipush (v := (18 : Int32)) hx hb dX1_asking_38 (by decide) ?_
        refine lv_iconst (v := (0 : Int32)) hx hb dX1_asking_40 (by decide) ?_
        obtain ⟨⟨u40, I41⟩, e42, h⟩ := bd_o h hn
        replace h := pr_o h
        refine g_callVi (rest := []) K hW hl (kX3_emit (l := l) (G := G) (ad := ad) hok ((I35 275 6).toNatClampNeg) g39 (18 : Int32) (0 : Int32) I35 J u40 I41 e42) g39 rfl (gG_V q_604 q_605 q_606 q_137 q_607) nm_X3_emit (gRo_l (by decide) (by decide)) rfl rfl (Nat.le_of_ble_eq_true rfl) ⟨Nat.zero_le _, Nat.zero_le _⟩ dX1_asking_41 (fun z43 H locs hW => ?_)
        refine lv_pop hx hb dX1_asking_44 rfl ?_
        refine lv_iconst (v := (1 : Int32)) hx hb dX1_asking_45 (by decide) ?_
        obtain ⟨a1, a2⟩ := so2 h
        replace hW := gWd_nI a2 hW
        exact g_nmi a1 (hfin _ _ _ _ (a1 ▸ (Or.inr rfl)) hW dX1_asking_46)
      · replace h := gi_t h c38
        refine lv_iconst (v := (0 : Int32)) hx hb dX1_asking_32 (by decide) ?_
        obtain ⟨a1, a2⟩ := so2 h
        replace hW := gWd_nI a2 hW
        exact g_nmi a1 (hfin _ _ _ _ (a1 ▸ (Or.inl rfl)) hW dX1_asking_33)
noncomputable def grpX1 : Nat → gR
  | 0 => fun _ _ _ _ => none
  | k + 1 => fun i a b I => match i with
    | 0 => fX1_sum_B (grpX1 k) a I
    | 1 => fX1_product_B (grpX1 k) a I
    | 2 => fX1_one_B (grpX1 k) a I
    | 3 => fX1_oneUnder_B (grpX1 k) a b I
    | 4 => fX1_choice_B (grpX1 k) a I
    | 5 => fX1_either_B (grpX1 k) a I
    | 6 => fX1_both_B (grpX1 k) a I
    | 7 => fX1_asking_B (grpX1 k) a I
    | _ => none
theorem gIH_all {l : Launch} {G : gG} {ad : Nat → Nat} (hok : gInj LC ad) : ∀ k : Nat, gIH l G ad (10 + k) (grpX1 k) := by
  intro k
  induction k with
  | zero => exact ⟨(by intros; rename_i h; cases h), (by intros; rename_i h; cases h), (by intros; rename_i h; cases h), (by intros; rename_i h; cases h), (by intros; rename_i h; cases h), (by intros; rename_i h; cases h), (by intros; rename_i h; cases h), (by intros; rename_i h; cases h)⟩
  | succ k ih => exact ⟨fun x1 I J r I' h => kX1_sum_B hok k (grpX1 k) ih x1 I J r I' h, fun x1 I J r I' h => kX1_product_B hok k (grpX1 k) ih x1 I J r I' h, fun x1 I J r I' h => kX1_one_B hok k (grpX1 k) ih x1 I J r I' h, fun x1 x2 I J r I' h => kX1_oneUnder_B hok k (grpX1 k) ih x1 x2 I J r I' h, fun x1 I J r I' h => kX1_choice_B hok k (grpX1 k) ih x1 I J r I' h, fun x1 I J r I' h => kX1_either_B hok k (grpX1 k) ih x1 I J r I' h, fun x1 I J r I' h => kX1_both_B hok k (grpX1 k) ih x1 I J r I' h, fun x1 I J r I' h => kX1_asking_B hok k (grpX1 k) ih x1 I J r I' h⟩
def KD : Nat := 80
noncomputable def fX1_sum (x1 : Int32) (I : gI) : Option (Int32 × gI) := grpX1 KD 0 x1 (0 : Int32) I
theorem kX1_sum {l : Launch} {G : gG} {ad : Nat → Nat} (hok : gInj LC ad) (x1 : Int32) (I : gI) (J : gJ) (r : Int32) (I' : gI) (h : fX1_sum x1 I = some (r, I')) : gMi l yX1_sum cX1_sum 4 (some .boolean) 90 G LC ad [.ref (ad 275), .int x1] I J r (r = 0 ∨ r = 1) I' J := gIH_0 (gIH_all hok KD) x1 I J r I' h
noncomputable def fX1_product (x1 : Int32) (I : gI) : Option (Int32 × gI) := grpX1 KD 1 x1 (0 : Int32) I
theorem kX1_product {l : Launch} {G : gG} {ad : Nat → Nat} (hok : gInj LC ad) (x1 : Int32) (I : gI) (J : gJ) (r : Int32) (I' : gI) (h : fX1_product x1 I = some (r, I')) : gMi l yX1_product cX1_product 4 (some .boolean) 90 G LC ad [.ref (ad 275), .int x1] I J r (r = 0 ∨ r = 1) I' J := gIH_1 (gIH_all hok KD) x1 I J r I' h
noncomputable def fX1_one (x1 : Int32) (I : gI) : Option (Int32 × gI) := grpX1 KD 2 x1 (0 : Int32) I
theorem kX1_one {l : Launch} {G : gG} {ad : Nat → Nat} (hok : gInj LC ad) (x1 : Int32) (I : gI) (J : gJ) (r : Int32) (I' : gI) (h : fX1_one x1 I = some (r, I')) : gMi l yX1_one cX1_one 4 (some .boolean) 90 G LC ad [.ref (ad 275), .int x1] I J r (r = 0 ∨ r = 1) I' J := gIH_2 (gIH_all hok KD) x1 I J r I' h
noncomputable def fX1_oneUnder (x1 : Int32) (x2 : Int32) (I : gI) : Option (Int32 × gI) := grpX1 KD 3 x1 x2 I
theorem kX1_oneUnder {l : Launch} {G : gG} {ad : Nat → Nat} (hok : gInj LC ad) (x1 : Int32) (x2 : Int32) (I : gI) (J : gJ) (r : Int32) (I' : gI) (h : fX1_oneUnder x1 x2 I = some (r, I')) : gMi l yX1_oneUnder cX1_oneUnder 3 (some .boolean) 90 G LC ad [.ref (ad 275), .int x1, .int x2] I J r (r = 0 ∨ r = 1) I' J := gIH_3 (gIH_all hok KD) x1 x2 I J r I' h
noncomputable def fX1_choice (x1 : Int32) (I : gI) : Option (Int32 × gI) := grpX1 KD 4 x1 (0 : Int32) I
theorem kX1_choice {l : Launch} {G : gG} {ad : Nat → Nat} (hok : gInj LC ad) (x1 : Int32) (I : gI) (J : gJ) (r : Int32) (I' : gI) (h : fX1_choice x1 I = some (r, I')) : gMi l yX1_choice cX1_choice 4 (some .boolean) 90 G LC ad [.ref (ad 275), .int x1] I J r (r = 0 ∨ r = 1) I' J := gIH_4 (gIH_all hok KD) x1 I J r I' h
noncomputable def fX1_either (x1 : Int32) (I : gI) : Option (Int32 × gI) := grpX1 KD 5 x1 (0 : Int32) I
theorem kX1_either {l : Launch} {G : gG} {ad : Nat → Nat} (hok : gInj LC ad) (x1 : Int32) (I : gI) (J : gJ) (r : Int32) (I' : gI) (h : fX1_either x1 I = some (r, I')) : gMi l yX1_either cX1_either 3 (some .boolean) 90 G LC ad [.ref (ad 275), .int x1] I J r (r = 0 ∨ r = 1) I' J := gIH_5 (gIH_all hok KD) x1 I J r I' h
noncomputable def fX1_both (x1 : Int32) (I : gI) : Option (Int32 × gI) := grpX1 KD 6 x1 (0 : Int32) I
theorem kX1_both {l : Launch} {G : gG} {ad : Nat → Nat} (hok : gInj LC ad) (x1 : Int32) (I : gI) (J : gJ) (r : Int32) (I' : gI) (h : fX1_both x1 I = some (r, I')) : gMi l yX1_both cX1_both 3 (some .boolean) 90 G LC ad [.ref (ad 275), .int x1] I J r (r = 0 ∨ r = 1) I' J := gIH_6 (gIH_all hok KD) x1 I J r I' h
noncomputable def fX1_asking (x1 : Int32) (I : gI) : Option (Int32 × gI) := grpX1 KD 7 x1 (0 : Int32) I
theorem kX1_asking {l : Launch} {G : gG} {ad : Nat → Nat} (hok : gInj LC ad) (x1 : Int32) (I : gI) (J : gJ) (r : Int32) (I' : gI) (h : fX1_asking x1 I = some (r, I')) : gMi l yX1_asking cX1_asking 3 (some .boolean) 90 G LC ad [.ref (ad 275), .int x1] I J r (r = 0 ∨ r = 1) I' J := gIH_7 (gIH_all hok KD) x1 I J r I' h
