-- 22: the law: its cases, over any relation that holds from call to call
theorem nm_X6_feed : gNm yX6_feed 5 := by decide +kernel
theorem nm_X7_feed : gNm yX7_feed 5 := by decide +kernel
theorem nm_X6_end : gNm yX6_end 1 := by decide +kernel
theorem nm_X7_end : gNm yX7_end 1 := by decide +kernel
theorem nm_X6_text : gNm yX6_text 0 := by decide +kernel
theorem nm_X7_text : gNm yX7_text 0 := by decide +kernel
theorem nm_X6_fault : gNm yX6_fault 1 := by decide +kernel
theorem nm_X7_fault : gNm yX7_fault 1 := by decide +kernel
theorem nm_X6_by : gNm yX6_by 1 := by decide +kernel
theorem nm_X7_by : gNm yX7_by 1 := by decide +kernel
theorem nm_X6_pass : gNm yX6_pass 2 := by decide +kernel
theorem nm_X7_pass : gNm yX7_pass 2 := by decide +kernel
theorem nm_X6_day : gNm yX6_day 1 := by decide +kernel
theorem nm_X7_day : gNm yX7_day 1 := by decide +kernel
theorem nm_X6_played : gNm yX6_played 1 := by decide +kernel
theorem nm_X7_played : gNm yX7_played 1 := by decide +kernel
theorem nm_X6_years : gNm yX6_years 2 := by decide +kernel
theorem nm_X7_years : gNm yX7_years 2 := by decide +kernel
theorem nm_X6_undo : gNm yX6_undo 0 := by decide +kernel
theorem nm_X7_undo : gNm yX7_undo 0 := by decide +kernel
theorem nm_X6_of : gNm yX6_of 2 := by decide +kernel
theorem nm_X7_of : gNm yX7_of 2 := by decide +kernel
theorem nm_X6_ofSort : gNm yX6_ofSort 2 := by decide +kernel
theorem nm_X7_ofSort : gNm yX7_ofSort 2 := by decide +kernel
theorem nm_X6_at : gNm yX6_at 1 := by decide +kernel
theorem nm_X7_at : gNm yX7_at 1 := by decide +kernel
theorem nm_X6_is : gNm yX6_is 1 := by decide +kernel
theorem nm_X7_is : gNm yX7_is 1 := by decide +kernel
theorem nm_X6_book : gNm yX6_book 2 := by decide +kernel
theorem nm_X7_book : gNm yX7_book 2 := by decide +kernel
theorem nm_X6_foretold : gNm yX6_foretold 2 := by decide +kernel
theorem nm_X7_foretold : gNm yX7_foretold 2 := by decide +kernel
theorem nm_X6_pack : gNm yX6_pack 2 := by decide +kernel
theorem nm_X7_pack : gNm yX7_pack 2 := by decide +kernel
theorem nm_X6_see : gNm yX6_see 2 := by decide +kernel
theorem nm_X7_see : gNm yX7_see 2 := by decide +kernel
theorem nm_X6_hope : gNm yX6_hope 2 := by decide +kernel
theorem nm_X7_hope : gNm yX7_hope 2 := by decide +kernel
theorem nm_X6_keep : gNm yX6_keep 1 := by decide +kernel
theorem nm_X7_keep : gNm yX7_keep 1 := by decide +kernel
theorem nm_X6_chance : gNm yX6_chance 2 := by decide +kernel
theorem nm_X7_chance : gNm yX7_chance 2 := by decide +kernel
theorem nm_X6_first : gNm yX6_first 1 := by decide +kernel
theorem nm_X7_first : gNm yX7_first 1 := by decide +kernel
theorem nm_X6_paid : gNm yX6_paid 2 := by decide +kernel
theorem nm_X7_paid : gNm yX7_paid 2 := by decide +kernel
theorem nm_X7_was : gNm yX7_was 0 := by decide +kernel
theorem nm_X6_surest : gNm yX6_surest 1 := by decide +kernel
theorem nm_X7_surest : gNm yX7_surest 1 := by decide +kernel
theorem nm_X7_likeliest : gNm yX7_likeliest 0 := by decide +kernel
theorem nm_X6_ask : gNm yX6_ask 0 := by decide +kernel
theorem nm_X7_ask : gNm yX7_ask 0 := by decide +kernel
theorem nm_X6_auction : gNm yX6_auction 2 := by decide +kernel
theorem nm_X7_auction : gNm yX7_auction 2 := by decide +kernel
theorem nm_X6_stab : gNm yX6_stab 1 := by decide +kernel
theorem nm_X7_stab : gNm yX7_stab 1 := by decide +kernel
theorem nm_X6_crowd : gNm yX6_crowd 1 := by decide +kernel
theorem nm_X7_crowd : gNm yX7_crowd 1 := by decide +kernel
theorem nm_X6_dawns : gNm yX6_dawns 1 := by decide +kernel
theorem nm_X7_dawns : gNm yX7_dawns 1 := by decide +kernel
theorem nm_X6_month : gNm yX6_month 2 := by decide +kernel
theorem nm_X7_month : gNm yX7_month 2 := by decide +kernel
theorem nm_X6_value : gNm yX6_value 2 := by decide +kernel
theorem nm_X7_value : gNm yX7_value 2 := by decide +kernel
theorem nm_X6_ends : gNm yX6_ends 2 := by decide +kernel
theorem nm_X7_ends : gNm yX7_ends 2 := by decide +kernel
theorem nm_X6_take : gNm yX6_take 2 := by decide +kernel
theorem nm_X7_take : gNm yX7_take 2 := by decide +kernel
theorem nm_X6_best : gNm yX6_best 3 := by decide +kernel
theorem nm_X7_best : gNm yX7_best 3 := by decide +kernel
theorem nm_X6_said : gNm yX6_said 2 := by decide +kernel
theorem nm_X7_said : gNm yX7_said 2 := by decide +kernel
theorem nm_X6_whose : gNm yX6_whose 0 := by decide +kernel
theorem nm_X7_whose : gNm yX7_whose 0 := by decide +kernel
theorem nm_X6_richest : gNm yX6_richest 0 := by decide +kernel
theorem nm_X7_richest : gNm yX7_richest 0 := by decide +kernel
theorem nm_X6_rival : gNm yX6_rival 1 := by decide +kernel
theorem nm_X7_rival : gNm yX7_rival 1 := by decide +kernel
theorem nm_X6_learnt : gNm yX6_learnt 2 := by decide +kernel
theorem nm_X7_learnt : gNm yX7_learnt 2 := by decide +kernel
theorem nm_X6_wanted : gNm yX6_wanted 1 := by decide +kernel
theorem nm_X7_wanted : gNm yX7_wanted 1 := by decide +kernel
theorem nm_X6_alone : gNm yX6_alone 1 := by decide +kernel
theorem nm_X7_alone : gNm yX7_alone 1 := by decide +kernel
theorem nm_X6_since : gNm yX6_since 1 := by decide +kernel
theorem nm_X7_since : gNm yX7_since 1 := by decide +kernel
theorem nm_X6_idle : gNm yX6_idle 0 := by decide +kernel
theorem nm_X7_idle : gNm yX7_idle 0 := by decide +kernel
theorem nm_X6_poor : gNm yX6_poor 0 := by decide +kernel
theorem nm_X7_poor : gNm yX7_poor 0 := by decide +kernel
theorem nm_X6_room : gNm yX6_room 1 := by decide +kernel
theorem nm_X7_room : gNm yX7_room 1 := by decide +kernel
theorem nm_X6_can : gNm yX6_can 1 := by decide +kernel
theorem nm_X7_can : gNm yX7_can 1 := by decide +kernel
theorem nm_X6_ledger : gNm yX6_ledger 1 := by decide +kernel
theorem nm_X7_ledger : gNm yX7_ledger 1 := by decide +kernel
theorem nm_X6_image : gNm yX6_image 0 := by decide +kernel
theorem nm_X7_image : gNm yX7_image 0 := by decide +kernel
theorem nm_X6_back : gNm yX6_back 0 := by decide +kernel
theorem nm_X7_back : gNm yX7_back 0 := by decide +kernel
theorem nm_X6_about : gNm yX6_about 1 := by decide +kernel
theorem nm_X7_about : gNm yX7_about 1 := by decide +kernel
noncomputable def bz (x : Int32) : Int32 := gi (x = 0) (0 : Int32) (1 : Int32)
abbrev gV : Type := gI → gI → gJ → Prop
def J00 : gJ := fun _ _ => 0
theorem lg_cmp_self (x : Int64) : lg_cmp x x = 0 := by unfold lg_cmp; simp
/-- the law's surroundings: the machine, the script, the two worlds -/
def gLw (G : gG) (S0 b Ln : Nat) (xs : Nat → Int32) (p : Program) (s : State) (m : MethodId) (args : Array Value) (c : Code) : Prop := gCx G (gB S0) p s m args c cL_law 4 RL ∧ va_X b Ln xs s s.heap ∧ b < s.heap.size ∧ s.heap.size = S0 ∧ Ln ≤ 3072
def gTw (G : gG) (S0 : Nat) (s : State) (IC IM : gI) (JM : gJ) (H : Heap) (locs : List Loc) : Prop := gWd G LC (gad S0) (gB S0) s.heap IC J00 H locs ∧ gWd G LM (gad (S0 + 328)) (gB S0) s.heap IM JM H locs
section LW
variable {p : Program} {l : Launch} {e : Env} {s : State} {m : MethodId} {args : Array Value} {below : List Frame} {meth : Method} {c : Code} {H : Heap} {locs : List Loc} {cells slots : Nat} {Q : State → Prop}
variable {pc : Nat} {ls : Array Slot} {rest st : List Value} {G : gG} {S0 b Ln : Nat} {xs : Nat → Int32} {IC IC' IM IM' : gI} {JM JM' : gJ} {lv : List (Nat × Value)} {R : Room}
theorem w_sld (K : gLw G S0 b Ln xs p s m args c) (hT : gTw G S0 s IC IM JM H locs) {i n : Nat} {k : Int32} (hk : k = nI n) (hi : i + n < Ln) (hdg : decode cL_law pc = .ok (.iaload, 1))
    (kk : W p l e R s m args below meth c H locs cells slots Q (F0 m (pc + 1) ls (.int (xs (i + n)) :: rest))) : W p l e R s m args below meth c H locs cells slots Q (F0 m pc ls (.int (nI i + k) :: .ref b :: rest)) := by
  obtain ⟨K, hX, hbl, hS, hL⟩ := K
  subst hk
  rw [nI_add]
  have h2 := nI_clamp (n := i + n) (by omega)
  refine va_sld K.1 K.2.1 hX hbl (fun h => by unfold gB at h; omega) hT.1.2.2 (vp_in_nI hi (by omega)) hdg ?_
  rw [h2]
  exact kk
theorem w_bool (K : gLw G S0 b Ln xs p s m args c) {x : Int32} (h1 : decode cL_law pc = .ok (.ifCond .eq 7, 3)) (h2 : decode cL_law (pc + 3) = .ok (.iconst 1, 1)) (h3 : decode cL_law (pc + 4) = .ok (.goto 4, 3)) (h4 : decode cL_law (pc + 7) = .ok (.iconst 0, 1))
    (kk : W p l e R s m args below meth c H locs cells slots Q (F0 m (pc + 8) ls (.int (bz x) :: rest))) : W p l e R s m args below meth c H locs cells slots Q (F0 m pc ls (.int x :: rest)) := by
  obtain ⟨⟨hx, hb, -⟩, -⟩ := K
  refine lv_if_eq (tgt := pc + 7) hx hb h1 (by omega) (fun c1 => ?_) (fun c1 => ?_)
  · refine lv_iconst (v := (0 : Int32)) hx hb h4 (by decide) ?_
    rw [show bz x = 0 from gi_pos c1] at kk
    exact kk
  · refine lv_iconst (v := (1 : Int32)) hx hb h2 (by decide) ?_
    refine lv_goto (tgt := pc + 8) hx hb h3 (by omega) ?_
    rw [show bz x = 1 from gi_neg c1] at kk
    exact kk
theorem w_apart (hq : ∀ o, o < LM.1 → ¬ gA LC (gad S0) (gad (S0 + 328) o)) : True := trivial
theorem w_ap1 {o : Nat} : ¬ gA LC (gad S0) (gad (S0 + 328) o) := by
  rintro ⟨o', h1, h2⟩
  have h3 : o' < 328 := h1
  unfold gad at h2
  omega
theorem w_ap2 {o : Nat} (h : o < LC.1) : ¬ gA LM (gad (S0 + 328)) (gad S0 o) := by
  rintro ⟨o', h1, h2⟩
  have h3 : o < 328 := h
  unfold gad at h2
  omega
theorem w_keep {L : gL} {ad : Nat → Nat} {A1 : Nat → Prop} {I : gI} {J : gJ} {H1 : Heap} {locs1 : List Loc} (h : gWd G L ad (gB S0) s.heap I J H locs) (ha : ∀ o, o < L.1 → ¬ A1 (ad o)) (hk : ∀ q : Nat, q < H.size → ¬ A1 q → H1[q]? = H[q]?) (hS : va_S (gB S0) s.heap H1 locs1) : gWd G L ad (gB S0) s.heap I J H1 locs1 := by
  refine ⟨h.1.kept (fun k q hq => ?_), h.2.1, hS⟩
  obtain ⟨h1, h2⟩ := gws_in hq
  have h3 := (h.1 k q hq).lt
  exact hk q.1 h3 (by rw [h2]; exact ha k h1)
theorem w_callCi {v : Int32} {P : Prop} {y : MethodName} {bytes : ByteArray} {maxL d idx ci N n : Nat} {T : u_T} {ret : Option FieldType} {As : List Value} (K : gLw G S0 b Ln xs p s m args c) (hT : gTw G S0 s IC IM JM H locs) (hls : lv_has ls 4 lv) (hM : gMi l y bytes maxL ret d G LC (gad S0) (.ref ((gad S0) 0) :: As) IC J00 v P IC' J00) (ho : gAt LC 0 0 ci) (hc : kC[ci]? = some (y.cls, T, N)) (hG : GoodIn TB (wsV RL idx y.cls y (.code y bytes maxL ret :: TB))) (hd : gNm y n) (hR : gRo d maxL R) (hn : As.length = n) (hst : st = As.reverse ++ .ref ((gad S0) 0) :: rest) (hsum : (rest.map fun v => v.category).sum ≤ 8) (hf : cells ≤ R.cells ∧ slots ≤ R.slots) (hdg : decode cL_law pc = .ok (.invokevirtual idx, 3))
    (kk : ∀ (H1 : Heap) (locs1 : List Loc), gTw G S0 s IC' IM JM H1 locs1 → W p l e R s m args below meth c H1 locs1 cells slots Q (F0 m (pc + 3) ls (.int v :: rest))) : W p l e R s m args below meth c H locs cells slots Q (F0 m pc ls st) := by
  have hW := hT.1
  have C := K.1
  exact va_calli (va_runV (gCx_fix C) hM (cwV n C.2.2.2.2.1 hG rfl rfl rfl ⟨rfl, hd⟩ hR) (g_preV C hW ho hc) rfl hn hls.1 hst (lv_room (pc := pc) (ls := ls) (m := m) hsum) hdg hf) hW.2.2 (fun q _ h => gA_in hW.2.1 q h) (gA_in hW.2.1) (fun r u t H1 locs1 ht _ hpost hB _ hk hS1 => by
    obtain ⟨rfl, -⟩ := hpost
    exact kk H1 locs1 ⟨⟨by rw [← ht]; exact hB.1, gws_D hW.2.1, hS1⟩, w_keep hT.2 (fun o _ => w_ap1) hk hS1⟩)
theorem w_callCl {v : Int64} {y : MethodName} {bytes : ByteArray} {maxL d idx ci N n : Nat} {T : u_T} {ret : Option FieldType} {As : List Value} (K : gLw G S0 b Ln xs p s m args c) (hT : gTw G S0 s IC IM JM H locs) (hls : lv_has ls 4 lv) (hM : gMl l y bytes maxL ret d G LC (gad S0) (.ref ((gad S0) 0) :: As) IC J00 v IC' J00) (ho : gAt LC 0 0 ci) (hc : kC[ci]? = some (y.cls, T, N)) (hG : GoodIn TB (wsV RL idx y.cls y (.code y bytes maxL ret :: TB))) (hd : gNm y n) (hR : gRo d maxL R) (hn : As.length = n) (hst : st = As.reverse ++ .ref ((gad S0) 0) :: rest) (hsum : (rest.map fun v => v.category).sum ≤ 8) (hf : cells ≤ R.cells ∧ slots ≤ R.slots) (hdg : decode cL_law pc = .ok (.invokevirtual idx, 3))
    (kk : ∀ (H1 : Heap) (locs1 : List Loc), gTw G S0 s IC' IM JM H1 locs1 → W p l e R s m args below meth c H1 locs1 cells slots Q (F0 m (pc + 3) ls (.long v :: rest))) : W p l e R s m args below meth c H locs cells slots Q (F0 m pc ls st) := by
  have hW := hT.1
  have C := K.1
  exact va_calll (va_runV (gCx_fix C) hM (cwV n C.2.2.2.2.1 hG rfl rfl rfl ⟨rfl, hd⟩ hR) (g_preV C hW ho hc) rfl hn hls.1 hst (lv_room (pc := pc) (ls := ls) (m := m) hsum) hdg hf) hW.2.2 (fun q _ h => gA_in hW.2.1 q h) (gA_in hW.2.1) (fun r u t H1 locs1 ht _ hpost hB _ hk hS1 => by
    subst hpost
    exact kk H1 locs1 ⟨⟨by rw [← ht]; exact hB.1, gws_D hW.2.1, hS1⟩, w_keep hT.2 (fun o _ => w_ap1) hk hS1⟩)
theorem w_callMi {v : Int32} {P : Prop} {y : MethodName} {bytes : ByteArray} {maxL d idx ci N n : Nat} {T : u_T} {ret : Option FieldType} {As : List Value} (K : gLw G S0 b Ln xs p s m args c) (hT : gTw G S0 s IC IM JM H locs) (hls : lv_has ls 4 lv) (hM : gMi l y bytes maxL ret d G LM (gad (S0 + 328)) (.ref ((gad (S0 + 328)) 0) :: As) IM JM v P IM' JM') (ho : gAt LM 0 0 ci) (hc : kC[ci]? = some (y.cls, T, N)) (hG : GoodIn TB (wsV RL idx y.cls y (.code y bytes maxL ret :: TB))) (hd : gNm y n) (hR : gRo d maxL R) (hn : As.length = n) (hst : st = As.reverse ++ .ref ((gad (S0 + 328)) 0) :: rest) (hsum : (rest.map fun v => v.category).sum ≤ 8) (hf : cells ≤ R.cells ∧ slots ≤ R.slots) (hdg : decode cL_law pc = .ok (.invokevirtual idx, 3))
    (kk : ∀ (H1 : Heap) (locs1 : List Loc), gTw G S0 s IC IM' JM' H1 locs1 → W p l e R s m args below meth c H1 locs1 cells slots Q (F0 m (pc + 3) ls (.int v :: rest))) : W p l e R s m args below meth c H locs cells slots Q (F0 m pc ls st) := by
  have hW := hT.2
  have C := K.1
  exact va_calli (va_runV (gCx_fix C) hM (cwV n C.2.2.2.2.1 hG rfl rfl rfl ⟨rfl, hd⟩ hR) (g_preV C hW ho hc) rfl hn hls.1 hst (lv_room (pc := pc) (ls := ls) (m := m) hsum) hdg hf) hW.2.2 (fun q _ h => gA_in hW.2.1 q h) (gA_in hW.2.1) (fun r u t H1 locs1 ht _ hpost hB _ hk hS1 => by
    obtain ⟨rfl, -⟩ := hpost
    exact kk H1 locs1 ⟨w_keep hT.1 (fun o ho => w_ap2 ho) hk hS1, ⟨by rw [← ht]; exact hB.1, gws_D hW.2.1, hS1⟩⟩)
theorem w_callMl {v : Int64} {y : MethodName} {bytes : ByteArray} {maxL d idx ci N n : Nat} {T : u_T} {ret : Option FieldType} {As : List Value} (K : gLw G S0 b Ln xs p s m args c) (hT : gTw G S0 s IC IM JM H locs) (hls : lv_has ls 4 lv) (hM : gMl l y bytes maxL ret d G LM (gad (S0 + 328)) (.ref ((gad (S0 + 328)) 0) :: As) IM JM v IM' JM') (ho : gAt LM 0 0 ci) (hc : kC[ci]? = some (y.cls, T, N)) (hG : GoodIn TB (wsV RL idx y.cls y (.code y bytes maxL ret :: TB))) (hd : gNm y n) (hR : gRo d maxL R) (hn : As.length = n) (hst : st = As.reverse ++ .ref ((gad (S0 + 328)) 0) :: rest) (hsum : (rest.map fun v => v.category).sum ≤ 8) (hf : cells ≤ R.cells ∧ slots ≤ R.slots) (hdg : decode cL_law pc = .ok (.invokevirtual idx, 3))
    (kk : ∀ (H1 : Heap) (locs1 : List Loc), gTw G S0 s IC IM' JM' H1 locs1 → W p l e R s m args below meth c H1 locs1 cells slots Q (F0 m (pc + 3) ls (.long v :: rest))) : W p l e R s m args below meth c H locs cells slots Q (F0 m pc ls st) := by
  have hW := hT.2
  have C := K.1
  exact va_calll (va_runV (gCx_fix C) hM (cwV n C.2.2.2.2.1 hG rfl rfl rfl ⟨rfl, hd⟩ hR) (g_preV C hW ho hc) rfl hn hls.1 hst (lv_room (pc := pc) (ls := ls) (m := m) hsum) hdg hf) hW.2.2 (fun q _ h => gA_in hW.2.1 q h) (gA_in hW.2.1) (fun r u t H1 locs1 ht _ hpost hB _ hk hS1 => by
    subst hpost
    exact kk H1 locs1 ⟨w_keep hT.1 (fun o ho => w_ap2 ho) hk hS1, ⟨by rw [← ht]; exact hB.1, gws_D hW.2.1, hS1⟩⟩)
end LW
def st_0 (V : gV) : Prop := ∀ (a1 a2 a3 : Int32) (IC IM : gI) (JM : gJ), V IC IM JM → ∃ (r : Int32) (IC' : gI) (IM' : gI), fX6_sort a1 a2 a3 IC = some (r, IC') ∧ fX7_sort a1 a2 a3 IM = some (r, IM') ∧ V IC' IM' JM
set_option maxHeartbeats 4000000 in
set_option maxRecDepth 100000 in
theorem law_0 {p : Program} {l : Launch} {e : Env} {s : State} {m : MethodId} {args : Array Value} {below : List Frame} {meth : Method} {c : Code} {Q : State → Prop} {G : gG} {S0 b Ln : Nat} {xs : Nat → Int32} {V : gV} (K : gLw G S0 b Ln xs p s m args c) {i : Nat} (hi : i + 6 ≤ Ln) (hst : st_0 V) (hnext : ∀ (IC IM : gI) (JM : gJ) (H : Heap) (locs : List Loc), V IC IM JM → gTw G S0 s IC IM JM H locs → ∀ (ls : Array Slot), lv_has ls 4 [(0, .ref b), (1, .ref (gad S0 0)), (2, .ref (gad (S0 + 328) 0)), (3, .int (nI i))] → W p l e room_1 s m args below meth c H locs 341 15174 Q (F0 m 1916 ls [])) : ∀ (IC IM : gI) (JM : gJ) (H : Heap) (locs : List Loc), V IC IM JM → gTw G S0 s IC IM JM H locs → ∀ (ls : Array Slot), lv_has ls 4 [(0, .ref b), (1, .ref (gad S0 0)), (2, .ref (gad (S0 + 328) 0)), (3, .int (nI i))] → W p l e room_1 s m args below meth c H locs 341 15174 Q (F0 m 276 ls []) := by
  have hx := K.1.1; have hb := K.1.2.1
  intro IC IM JM H locs hV hT ls hl
  obtain ⟨r, IC', IM', h1, h2, hV2⟩ := hst (xs (i + 1)) (xs (i + 2)) (xs (i + 3)) IC IM JM hV
  refine lv_aload_n hx hb dL_law_276 rfl (lv_at hl 1 rfl) ?_
  refine lv_aload_n hx hb dL_law_277 rfl (lv_at hl 0 rfl) ?_
  refine lv_iload_n hx hb dL_law_278 rfl (lv_at hl 3 rfl) ?_
  refine lv_iconst (v := (1 : Int32)) hx hb dL_law_279 (by decide) ?_
  refine lv_iadd hx hb dL_law_280 ?_
  refine w_sld K hT (n := 1) rfl (by omega) dL_law_281 ?_
  refine lv_aload_n hx hb dL_law_282 rfl (lv_at hl 0 rfl) ?_
  refine lv_iload_n hx hb dL_law_283 rfl (lv_at hl 3 rfl) ?_
  refine lv_iconst (v := (2 : Int32)) hx hb dL_law_284 (by decide) ?_
  refine lv_iadd hx hb dL_law_285 ?_
  refine w_sld K hT (n := 2) rfl (by omega) dL_law_286 ?_
  refine lv_aload_n hx hb dL_law_287 rfl (lv_at hl 0 rfl) ?_
  refine lv_iload_n hx hb dL_law_288 rfl (lv_at hl 3 rfl) ?_
  refine lv_iconst (v := (3 : Int32)) hx hb dL_law_289 (by decide) ?_
  refine lv_iadd hx hb dL_law_290 ?_
  refine w_sld K hT (n := 3) rfl (by omega) dL_law_291 ?_
  refine w_callCi (rest := []) K hT hl (kX6_sort (l := l) (G := G) (ad := gad S0) gInj_gad (xs (i + 1)) (xs (i + 2)) (xs (i + 3)) IC J00 r IC' h1) kLC_0 rfl (gG_V q_433 q_434 q_435 q_133 q_436) nm_X6_sort ⟨Nat.le_of_ble_eq_true rfl, Nat.le_of_ble_eq_true rfl⟩ rfl rfl (Nat.le_of_ble_eq_true rfl) ⟨Nat.le_of_ble_eq_true rfl, Nat.le_of_ble_eq_true rfl⟩ dL_law_292 (fun H locs hT => ?_)
  refine lv_aload_n hx hb dL_law_295 rfl (lv_at hl 2 rfl) ?_
  refine lv_aload_n hx hb dL_law_296 rfl (lv_at hl 0 rfl) ?_
  refine lv_iload_n hx hb dL_law_297 rfl (lv_at hl 3 rfl) ?_
  refine lv_iconst (v := (1 : Int32)) hx hb dL_law_298 (by decide) ?_
  refine lv_iadd hx hb dL_law_299 ?_
  refine w_sld K hT (n := 1) rfl (by omega) dL_law_300 ?_
  refine lv_aload_n hx hb dL_law_301 rfl (lv_at hl 0 rfl) ?_
  refine lv_iload_n hx hb dL_law_302 rfl (lv_at hl 3 rfl) ?_
  refine lv_iconst (v := (2 : Int32)) hx hb dL_law_303 (by decide) ?_
  refine lv_iadd hx hb dL_law_304 ?_
  refine w_sld K hT (n := 2) rfl (by omega) dL_law_305 ?_
  refine lv_aload_n hx hb dL_law_306 rfl (lv_at hl 0 rfl) ?_
  refine lv_iload_n hx hb dL_law_307 rfl (lv_at hl 3 rfl) ?_
  refine lv_iconst (v := (3 : Int32)) hx hb dL_law_308 (by decide) ?_
  refine lv_iadd hx hb dL_law_309 ?_
  refine w_sld K hT (n := 3) rfl (by omega) dL_law_310 ?_
  refine w_callMi (rest := [.int r]) K hT hl (kX7_sort (l := l) (G := G) (ad := gad (S0 + 328)) gInj_gad (xs (i + 1)) (xs (i + 2)) (xs (i + 3)) IM JM r IM' h2) kLM_0 rfl (gG_V q_1164 q_1165 q_1166 q_139 q_1167) nm_X7_sort ⟨Nat.le_of_ble_eq_true rfl, Nat.le_of_ble_eq_true rfl⟩ rfl rfl (Nat.le_of_ble_eq_true rfl) ⟨Nat.le_of_ble_eq_true rfl, Nat.le_of_ble_eq_true rfl⟩ dL_law_311 (fun H locs hT => ?_)
  refine lv_icmp_eq (tgt := 1916) hx hb dL_law_314 (by decide) (fun _ => ?_) (fun c1 => absurd rfl c1)
  exact hnext _ _ _ _ _ hV2 hT _ hl
def st_1 (V : gV) : Prop := ∀ (a1 a2 a3 a4 : Int32) (IC IM : gI) (JM : gJ), V IC IM JM → ∃ (r : Int32) (IC' : gI) (IM' : gI), fX6_buyer a1 a2 a3 a4 IC = some (r, IC') ∧ fX7_buyer a1 a2 a3 a4 IM = some (r, IM') ∧ V IC' IM' JM
set_option maxHeartbeats 4000000 in
set_option maxRecDepth 100000 in
theorem law_1 {p : Program} {l : Launch} {e : Env} {s : State} {m : MethodId} {args : Array Value} {below : List Frame} {meth : Method} {c : Code} {Q : State → Prop} {G : gG} {S0 b Ln : Nat} {xs : Nat → Int32} {V : gV} (K : gLw G S0 b Ln xs p s m args c) {i : Nat} (hi : i + 6 ≤ Ln) (hst : st_1 V) (hnext : ∀ (IC IM : gI) (JM : gJ) (H : Heap) (locs : List Loc), V IC IM JM → gTw G S0 s IC IM JM H locs → ∀ (ls : Array Slot), lv_has ls 4 [(0, .ref b), (1, .ref (gad S0 0)), (2, .ref (gad (S0 + 328) 0)), (3, .int (nI i))] → W p l e room_1 s m args below meth c H locs 341 15174 Q (F0 m 1916 ls [])) : ∀ (IC IM : gI) (JM : gJ) (H : Heap) (locs : List Loc), V IC IM JM → gTw G S0 s IC IM JM H locs → ∀ (ls : Array Slot), lv_has ls 4 [(0, .ref b), (1, .ref (gad S0 0)), (2, .ref (gad (S0 + 328) 0)), (3, .int (nI i))] → W p l e room_1 s m args below meth c H locs 341 15174 Q (F0 m 319 ls []) := by
  have hx := K.1.1; have hb := K.1.2.1
  intro IC IM JM H locs hV hT ls hl
  obtain ⟨r, IC', IM', h1, h2, hV2⟩ := hst (xs (i + 1)) (xs (i + 2)) (xs (i + 3)) (xs (i + 4)) IC IM JM hV
  refine lv_aload_n hx hb dL_law_319 rfl (lv_at hl 1 rfl) ?_
  refine lv_aload_n hx hb dL_law_320 rfl (lv_at hl 0 rfl) ?_
  refine lv_iload_n hx hb dL_law_321 rfl (lv_at hl 3 rfl) ?_
  refine lv_iconst (v := (1 : Int32)) hx hb dL_law_322 (by decide) ?_
  refine lv_iadd hx hb dL_law_323 ?_
  refine w_sld K hT (n := 1) rfl (by omega) dL_law_324 ?_
  refine lv_aload_n hx hb dL_law_325 rfl (lv_at hl 0 rfl) ?_
  refine lv_iload_n hx hb dL_law_326 rfl (lv_at hl 3 rfl) ?_
  refine lv_iconst (v := (2 : Int32)) hx hb dL_law_327 (by decide) ?_
  refine lv_iadd hx hb dL_law_328 ?_
  refine w_sld K hT (n := 2) rfl (by omega) dL_law_329 ?_
  refine lv_aload_n hx hb dL_law_330 rfl (lv_at hl 0 rfl) ?_
  refine lv_iload_n hx hb dL_law_331 rfl (lv_at hl 3 rfl) ?_
  refine lv_iconst (v := (3 : Int32)) hx hb dL_law_332 (by decide) ?_
  refine lv_iadd hx hb dL_law_333 ?_
  refine w_sld K hT (n := 3) rfl (by omega) dL_law_334 ?_
  refine lv_aload_n hx hb dL_law_335 rfl (lv_at hl 0 rfl) ?_
  refine lv_iload_n hx hb dL_law_336 rfl (lv_at hl 3 rfl) ?_
  refine lv_iconst (v := (4 : Int32)) hx hb dL_law_337 (by decide) ?_
  refine lv_iadd hx hb dL_law_338 ?_
  refine w_sld K hT (n := 4) rfl (by omega) dL_law_339 ?_
  refine w_callCi (rest := []) K hT hl (kX6_buyer (l := l) (G := G) (ad := gad S0) gInj_gad (xs (i + 1)) (xs (i + 2)) (xs (i + 3)) (xs (i + 4)) IC J00 r IC' h1) kLC_0 rfl (gG_V q_443 q_444 q_445 q_133 q_446) nm_X6_buyer ⟨Nat.le_of_ble_eq_true rfl, Nat.le_of_ble_eq_true rfl⟩ rfl rfl (Nat.le_of_ble_eq_true rfl) ⟨Nat.le_of_ble_eq_true rfl, Nat.le_of_ble_eq_true rfl⟩ dL_law_340 (fun H locs hT => ?_)
  refine lv_aload_n hx hb dL_law_343 rfl (lv_at hl 2 rfl) ?_
  refine lv_aload_n hx hb dL_law_344 rfl (lv_at hl 0 rfl) ?_
  refine lv_iload_n hx hb dL_law_345 rfl (lv_at hl 3 rfl) ?_
  refine lv_iconst (v := (1 : Int32)) hx hb dL_law_346 (by decide) ?_
  refine lv_iadd hx hb dL_law_347 ?_
  refine w_sld K hT (n := 1) rfl (by omega) dL_law_348 ?_
  refine lv_aload_n hx hb dL_law_349 rfl (lv_at hl 0 rfl) ?_
  refine lv_iload_n hx hb dL_law_350 rfl (lv_at hl 3 rfl) ?_
  refine lv_iconst (v := (2 : Int32)) hx hb dL_law_351 (by decide) ?_
  refine lv_iadd hx hb dL_law_352 ?_
  refine w_sld K hT (n := 2) rfl (by omega) dL_law_353 ?_
  refine lv_aload_n hx hb dL_law_354 rfl (lv_at hl 0 rfl) ?_
  refine lv_iload_n hx hb dL_law_355 rfl (lv_at hl 3 rfl) ?_
  refine lv_iconst (v := (3 : Int32)) hx hb dL_law_356 (by decide) ?_
  refine lv_iadd hx hb dL_law_357 ?_
  refine w_sld K hT (n := 3) rfl (by omega) dL_law_358 ?_
  refine lv_aload_n hx hb dL_law_359 rfl (lv_at hl 0 rfl) ?_
  refine lv_iload_n hx hb dL_law_360 rfl (lv_at hl 3 rfl) ?_
  refine lv_iconst (v := (4 : Int32)) hx hb dL_law_361 (by decide) ?_
  refine lv_iadd hx hb dL_law_362 ?_
  refine w_sld K hT (n := 4) rfl (by omega) dL_law_363 ?_
  refine w_callMi (rest := [.int r]) K hT hl (kX7_buyer (l := l) (G := G) (ad := gad (S0 + 328)) gInj_gad (xs (i + 1)) (xs (i + 2)) (xs (i + 3)) (xs (i + 4)) IM JM r IM' h2) kLM_0 rfl (gG_V q_1174 q_1175 q_1176 q_139 q_1177) nm_X7_buyer ⟨Nat.le_of_ble_eq_true rfl, Nat.le_of_ble_eq_true rfl⟩ rfl rfl (Nat.le_of_ble_eq_true rfl) ⟨Nat.le_of_ble_eq_true rfl, Nat.le_of_ble_eq_true rfl⟩ dL_law_364 (fun H locs hT => ?_)
  refine lv_icmp_eq (tgt := 1916) hx hb dL_law_367 (by decide) (fun _ => ?_) (fun c1 => absurd rfl c1)
  exact hnext _ _ _ _ _ hV2 hT _ hl
def st_2 (V : gV) : Prop := ∀ (a1 a2 a3 a4 a5 : Int32) (IC IM : gI) (JM : gJ), V IC IM JM → ∃ (r : Int32) (IC' : gI) (IM' : gI), fX6_feed a1 a2 a3 a4 a5 IC = some (r, IC') ∧ fX7_feed a1 a2 a3 a4 a5 IM = some (r, IM') ∧ V IC' IM' JM
set_option maxHeartbeats 4000000 in
set_option maxRecDepth 100000 in
theorem law_2 {p : Program} {l : Launch} {e : Env} {s : State} {m : MethodId} {args : Array Value} {below : List Frame} {meth : Method} {c : Code} {Q : State → Prop} {G : gG} {S0 b Ln : Nat} {xs : Nat → Int32} {V : gV} (K : gLw G S0 b Ln xs p s m args c) {i : Nat} (hi : i + 6 ≤ Ln) (hst : st_2 V) (hnext : ∀ (IC IM : gI) (JM : gJ) (H : Heap) (locs : List Loc), V IC IM JM → gTw G S0 s IC IM JM H locs → ∀ (ls : Array Slot), lv_has ls 4 [(0, .ref b), (1, .ref (gad S0 0)), (2, .ref (gad (S0 + 328) 0)), (3, .int (nI i))] → W p l e room_1 s m args below meth c H locs 341 15174 Q (F0 m 1916 ls [])) : ∀ (IC IM : gI) (JM : gJ) (H : Heap) (locs : List Loc), V IC IM JM → gTw G S0 s IC IM JM H locs → ∀ (ls : Array Slot), lv_has ls 4 [(0, .ref b), (1, .ref (gad S0 0)), (2, .ref (gad (S0 + 328) 0)), (3, .int (nI i))] → W p l e room_1 s m args below meth c H locs 341 15174 Q (F0 m 372 ls []) := by
  have hx := K.1.1; have hb := K.1.2.1
  intro IC IM JM H locs hV hT ls hl
  obtain ⟨r, IC', IM', h1, h2, hV2⟩ := hst (xs (i + 1)) (xs (i + 2)) (xs (i + 3)) (xs (i + 4)) (xs (i + 5)) IC IM JM hV
  refine lv_aload_n hx hb dL_law_372 rfl (lv_at hl 1 rfl) ?_
  refine lv_aload_n hx hb dL_law_373 rfl (lv_at hl 0 rfl) ?_
  refine lv_iload_n hx hb dL_law_374 rfl (lv_at hl 3 rfl) ?_
  refine lv_iconst (v := (1 : Int32)) hx hb dL_law_375 (by decide) ?_
  refine lv_iadd hx hb dL_law_376 ?_
  refine w_sld K hT (n := 1) rfl (by omega) dL_law_377 ?_
  refine lv_aload_n hx hb dL_law_378 rfl (lv_at hl 0 rfl) ?_
  refine lv_iload_n hx hb dL_law_379 rfl (lv_at hl 3 rfl) ?_
  refine lv_iconst (v := (2 : Int32)) hx hb dL_law_380 (by decide) ?_
  refine lv_iadd hx hb dL_law_381 ?_
  refine w_sld K hT (n := 2) rfl (by omega) dL_law_382 ?_
  refine lv_aload_n hx hb dL_law_383 rfl (lv_at hl 0 rfl) ?_
  refine lv_iload_n hx hb dL_law_384 rfl (lv_at hl 3 rfl) ?_
  refine lv_iconst (v := (3 : Int32)) hx hb dL_law_385 (by decide) ?_
  refine lv_iadd hx hb dL_law_386 ?_
  refine w_sld K hT (n := 3) rfl (by omega) dL_law_387 ?_
  refine lv_aload_n hx hb dL_law_388 rfl (lv_at hl 0 rfl) ?_
  refine lv_iload_n hx hb dL_law_389 rfl (lv_at hl 3 rfl) ?_
  refine lv_iconst (v := (4 : Int32)) hx hb dL_law_390 (by decide) ?_
  refine lv_iadd hx hb dL_law_391 ?_
  refine w_sld K hT (n := 4) rfl (by omega) dL_law_392 ?_
  refine lv_aload_n hx hb dL_law_393 rfl (lv_at hl 0 rfl) ?_
  refine lv_iload_n hx hb dL_law_394 rfl (lv_at hl 3 rfl) ?_
  refine lv_iconst (v := (5 : Int32)) hx hb dL_law_395 (by decide) ?_
  refine lv_iadd hx hb dL_law_396 ?_
  refine w_sld K hT (n := 5) rfl (by omega) dL_law_397 ?_
  refine w_callCi (rest := []) K hT hl (kX6_feed (l := l) (G := G) (ad := gad S0) gInj_gad (xs (i + 1)) (xs (i + 2)) (xs (i + 3)) (xs (i + 4)) (xs (i + 5)) IC J00 r IC' h1) kLC_0 rfl (gG_V q_475 q_476 q_477 q_133 q_478) nm_X6_feed ⟨Nat.le_of_ble_eq_true rfl, Nat.le_of_ble_eq_true rfl⟩ rfl rfl (Nat.le_of_ble_eq_true rfl) ⟨Nat.le_of_ble_eq_true rfl, Nat.le_of_ble_eq_true rfl⟩ dL_law_398 (fun H locs hT => ?_)
  refine lv_aload_n hx hb dL_law_401 rfl (lv_at hl 2 rfl) ?_
  refine lv_aload_n hx hb dL_law_402 rfl (lv_at hl 0 rfl) ?_
  refine lv_iload_n hx hb dL_law_403 rfl (lv_at hl 3 rfl) ?_
  refine lv_iconst (v := (1 : Int32)) hx hb dL_law_404 (by decide) ?_
  refine lv_iadd hx hb dL_law_405 ?_
  refine w_sld K hT (n := 1) rfl (by omega) dL_law_406 ?_
  refine lv_aload_n hx hb dL_law_407 rfl (lv_at hl 0 rfl) ?_
  refine lv_iload_n hx hb dL_law_408 rfl (lv_at hl 3 rfl) ?_
  refine lv_iconst (v := (2 : Int32)) hx hb dL_law_409 (by decide) ?_
  refine lv_iadd hx hb dL_law_410 ?_
  refine w_sld K hT (n := 2) rfl (by omega) dL_law_411 ?_
  refine lv_aload_n hx hb dL_law_412 rfl (lv_at hl 0 rfl) ?_
  refine lv_iload_n hx hb dL_law_413 rfl (lv_at hl 3 rfl) ?_
  refine lv_iconst (v := (3 : Int32)) hx hb dL_law_414 (by decide) ?_
  refine lv_iadd hx hb dL_law_415 ?_
  refine w_sld K hT (n := 3) rfl (by omega) dL_law_416 ?_
  refine lv_aload_n hx hb dL_law_417 rfl (lv_at hl 0 rfl) ?_
  refine lv_iload_n hx hb dL_law_418 rfl (lv_at hl 3 rfl) ?_
  refine lv_iconst (v := (4 : Int32)) hx hb dL_law_419 (by decide) ?_
  refine lv_iadd hx hb dL_law_420 ?_
  refine w_sld K hT (n := 4) rfl (by omega) dL_law_421 ?_
  refine lv_aload_n hx hb dL_law_422 rfl (lv_at hl 0 rfl) ?_
  refine lv_iload_n hx hb dL_law_423 rfl (lv_at hl 3 rfl) ?_
  refine lv_iconst (v := (5 : Int32)) hx hb dL_law_424 (by decide) ?_
  refine lv_iadd hx hb dL_law_425 ?_
  refine w_sld K hT (n := 5) rfl (by omega) dL_law_426 ?_
  refine w_callMi (rest := [.int r]) K hT hl (kX7_feed (l := l) (G := G) (ad := gad (S0 + 328)) gInj_gad (xs (i + 1)) (xs (i + 2)) (xs (i + 3)) (xs (i + 4)) (xs (i + 5)) IM JM r IM' h2) kLM_0 rfl (gG_V q_1181 q_1182 q_1183 q_139 q_1184) nm_X7_feed ⟨Nat.le_of_ble_eq_true rfl, Nat.le_of_ble_eq_true rfl⟩ rfl rfl (Nat.le_of_ble_eq_true rfl) ⟨Nat.le_of_ble_eq_true rfl, Nat.le_of_ble_eq_true rfl⟩ dL_law_427 (fun H locs hT => ?_)
  refine lv_icmp_eq (tgt := 1916) hx hb dL_law_430 (by decide) (fun _ => ?_) (fun c1 => absurd rfl c1)
  exact hnext _ _ _ _ _ hV2 hT _ hl
def st_3 (V : gV) : Prop := ∀ (a1 : Int32) (IC IM : gI) (JM : gJ), V IC IM JM → ∃ (r : Int32) (IC' : gI) (IM' : gI), fX6_end a1 IC = (r, IC') ∧ fX7_end a1 IM = (r, IM') ∧ V IC' IM' JM
set_option maxHeartbeats 4000000 in
set_option maxRecDepth 100000 in
theorem law_3 {p : Program} {l : Launch} {e : Env} {s : State} {m : MethodId} {args : Array Value} {below : List Frame} {meth : Method} {c : Code} {Q : State → Prop} {G : gG} {S0 b Ln : Nat} {xs : Nat → Int32} {V : gV} (K : gLw G S0 b Ln xs p s m args c) {i : Nat} (hi : i + 6 ≤ Ln) (hst : st_3 V) (hnext : ∀ (IC IM : gI) (JM : gJ) (H : Heap) (locs : List Loc), V IC IM JM → gTw G S0 s IC IM JM H locs → ∀ (ls : Array Slot), lv_has ls 4 [(0, .ref b), (1, .ref (gad S0 0)), (2, .ref (gad (S0 + 328) 0)), (3, .int (nI i))] → W p l e room_1 s m args below meth c H locs 341 15174 Q (F0 m 1916 ls [])) : ∀ (IC IM : gI) (JM : gJ) (H : Heap) (locs : List Loc), V IC IM JM → gTw G S0 s IC IM JM H locs → ∀ (ls : Array Slot), lv_has ls 4 [(0, .ref b), (1, .ref (gad S0 0)), (2, .ref (gad (S0 + 328) 0)), (3, .int (nI i))] → W p l e room_1 s m args below meth c H locs 341 15174 Q (F0 m 435 ls []) := by
  have hx := K.1.1; have hb := K.1.2.1
  intro IC IM JM H locs hV hT ls hl
  obtain ⟨r, IC', IM', h1, h2, hV2⟩ := hst (xs (i + 1)) IC IM JM hV
  refine lv_aload_n hx hb dL_law_435 rfl (lv_at hl 1 rfl) ?_
  refine lv_aload_n hx hb dL_law_436 rfl (lv_at hl 0 rfl) ?_
  refine lv_iload_n hx hb dL_law_437 rfl (lv_at hl 3 rfl) ?_
  refine lv_iconst (v := (1 : Int32)) hx hb dL_law_438 (by decide) ?_
  refine lv_iadd hx hb dL_law_439 ?_
  refine w_sld K hT (n := 1) rfl (by omega) dL_law_440 ?_
  refine w_callCi (rest := []) K hT hl (kX6_end (l := l) (G := G) (ad := gad S0) gInj_gad (xs (i + 1)) IC J00 r IC' h1) kLC_0 rfl (gG_V q_483 q_484 q_485 q_133 q_486) nm_X6_end ⟨Nat.le_of_ble_eq_true rfl, Nat.le_of_ble_eq_true rfl⟩ rfl rfl (Nat.le_of_ble_eq_true rfl) ⟨Nat.le_of_ble_eq_true rfl, Nat.le_of_ble_eq_true rfl⟩ dL_law_441 (fun H locs hT => ?_)
  refine lv_aload_n hx hb dL_law_444 rfl (lv_at hl 2 rfl) ?_
  refine lv_aload_n hx hb dL_law_445 rfl (lv_at hl 0 rfl) ?_
  refine lv_iload_n hx hb dL_law_446 rfl (lv_at hl 3 rfl) ?_
  refine lv_iconst (v := (1 : Int32)) hx hb dL_law_447 (by decide) ?_
  refine lv_iadd hx hb dL_law_448 ?_
  refine w_sld K hT (n := 1) rfl (by omega) dL_law_449 ?_
  refine w_callMi (rest := [.int r]) K hT hl (kX7_end (l := l) (G := G) (ad := gad (S0 + 328)) gInj_gad (xs (i + 1)) IM JM r IM' h2) kLM_0 rfl (gG_V q_1189 q_1190 q_1191 q_139 q_1192) nm_X7_end ⟨Nat.le_of_ble_eq_true rfl, Nat.le_of_ble_eq_true rfl⟩ rfl rfl (Nat.le_of_ble_eq_true rfl) ⟨Nat.le_of_ble_eq_true rfl, Nat.le_of_ble_eq_true rfl⟩ dL_law_450 (fun H locs hT => ?_)
  refine lv_icmp_eq (tgt := 1916) hx hb dL_law_453 (by decide) (fun _ => ?_) (fun c1 => absurd rfl c1)
  exact hnext _ _ _ _ _ hV2 hT _ hl
def st_4 (V : gV) : Prop := ∀ (IC IM : gI) (JM : gJ), V IC IM JM → ∃ (r : Int32) (IC' : gI) (IM' : gI) (JM' : gJ), fX6_text IC = some (r, IC') ∧ fX7_text IM JM = some (r, IM', JM') ∧ V IC' IM' JM'
set_option maxHeartbeats 4000000 in
set_option maxRecDepth 100000 in
theorem law_4 {p : Program} {l : Launch} {e : Env} {s : State} {m : MethodId} {args : Array Value} {below : List Frame} {meth : Method} {c : Code} {Q : State → Prop} {G : gG} {S0 b Ln : Nat} {xs : Nat → Int32} {V : gV} (K : gLw G S0 b Ln xs p s m args c) {i : Nat} (hi : i + 6 ≤ Ln) (hst : st_4 V) (hnext : ∀ (IC IM : gI) (JM : gJ) (H : Heap) (locs : List Loc), V IC IM JM → gTw G S0 s IC IM JM H locs → ∀ (ls : Array Slot), lv_has ls 4 [(0, .ref b), (1, .ref (gad S0 0)), (2, .ref (gad (S0 + 328) 0)), (3, .int (nI i))] → W p l e room_1 s m args below meth c H locs 341 15174 Q (F0 m 1916 ls [])) : ∀ (IC IM : gI) (JM : gJ) (H : Heap) (locs : List Loc), V IC IM JM → gTw G S0 s IC IM JM H locs → ∀ (ls : Array Slot), lv_has ls 4 [(0, .ref b), (1, .ref (gad S0 0)), (2, .ref (gad (S0 + 328) 0)), (3, .int (nI i))] → W p l e room_1 s m args below meth c H locs 341 15174 Q (F0 m 458 ls []) := by
  have hx := K.1.1; have hb := K.1.2.1
  intro IC IM JM H locs hV hT ls hl
  obtain ⟨r, IC', IM', JM', h1, h2, hV2⟩ := hst  IC IM JM hV
  refine lv_aload_n hx hb dL_law_458 rfl (lv_at hl 1 rfl) ?_
  refine w_callCi (rest := []) K hT hl (kX6_text (l := l) (G := G) (ad := gad S0) gInj_gad IC J00 r IC' h1) kLC_0 rfl (gG_V q_487 q_488 q_489 q_133 q_490) nm_X6_text ⟨Nat.le_of_ble_eq_true rfl, Nat.le_of_ble_eq_true rfl⟩ rfl rfl (Nat.le_of_ble_eq_true rfl) ⟨Nat.le_of_ble_eq_true rfl, Nat.le_of_ble_eq_true rfl⟩ dL_law_459 (fun H locs hT => ?_)
  refine lv_aload_n hx hb dL_law_462 rfl (lv_at hl 2 rfl) ?_
  refine w_callMi (rest := [.int r]) K hT hl (kX7_text (l := l) (G := G) (ad := gad (S0 + 328)) gInj_gad IM JM r IM' JM' h2) kLM_0 rfl (gG_V q_1193 q_1194 q_1195 q_139 q_1196) nm_X7_text ⟨Nat.le_of_ble_eq_true rfl, Nat.le_of_ble_eq_true rfl⟩ rfl rfl (Nat.le_of_ble_eq_true rfl) ⟨Nat.le_of_ble_eq_true rfl, Nat.le_of_ble_eq_true rfl⟩ dL_law_463 (fun H locs hT => ?_)
  refine lv_icmp_eq (tgt := 1916) hx hb dL_law_466 (by decide) (fun _ => ?_) (fun c1 => absurd rfl c1)
  exact hnext _ _ _ _ _ hV2 hT _ hl
def st_5 (V : gV) : Prop := ∀ (a1 : Int32) (IC IM : gI) (JM : gJ), V IC IM JM → ∃ (r : Int32), fX6_fault a1 IC = r ∧ fX7_fault a1 IM = r ∧ V IC IM JM
set_option maxHeartbeats 4000000 in
set_option maxRecDepth 100000 in
theorem law_5 {p : Program} {l : Launch} {e : Env} {s : State} {m : MethodId} {args : Array Value} {below : List Frame} {meth : Method} {c : Code} {Q : State → Prop} {G : gG} {S0 b Ln : Nat} {xs : Nat → Int32} {V : gV} (K : gLw G S0 b Ln xs p s m args c) {i : Nat} (hi : i + 6 ≤ Ln) (hst : st_5 V) (hnext : ∀ (IC IM : gI) (JM : gJ) (H : Heap) (locs : List Loc), V IC IM JM → gTw G S0 s IC IM JM H locs → ∀ (ls : Array Slot), lv_has ls 4 [(0, .ref b), (1, .ref (gad S0 0)), (2, .ref (gad (S0 + 328) 0)), (3, .int (nI i))] → W p l e room_1 s m args below meth c H locs 341 15174 Q (F0 m 1916 ls [])) : ∀ (IC IM : gI) (JM : gJ) (H : Heap) (locs : List Loc), V IC IM JM → gTw G S0 s IC IM JM H locs → ∀ (ls : Array Slot), lv_has ls 4 [(0, .ref b), (1, .ref (gad S0 0)), (2, .ref (gad (S0 + 328) 0)), (3, .int (nI i))] → W p l e room_1 s m args below meth c H locs 341 15174 Q (F0 m 471 ls []) := by
  have hx := K.1.1; have hb := K.1.2.1
  intro IC IM JM H locs hV hT ls hl
  obtain ⟨r, h1, h2, hV2⟩ := hst (xs (i + 1)) IC IM JM hV
  refine lv_aload_n hx hb dL_law_471 rfl (lv_at hl 1 rfl) ?_
  refine lv_aload_n hx hb dL_law_472 rfl (lv_at hl 0 rfl) ?_
  refine lv_iload_n hx hb dL_law_473 rfl (lv_at hl 3 rfl) ?_
  refine lv_iconst (v := (1 : Int32)) hx hb dL_law_474 (by decide) ?_
  refine lv_iadd hx hb dL_law_475 ?_
  refine w_sld K hT (n := 1) rfl (by omega) dL_law_476 ?_
  refine w_callCi (rest := []) K hT hl (kX6_fault (l := l) (G := G) (ad := gad S0) gInj_gad (xs (i + 1)) IC J00 r h1) kLC_0 rfl (gG_V q_660 q_661 q_662 q_133 q_663) nm_X6_fault ⟨Nat.le_of_ble_eq_true rfl, Nat.le_of_ble_eq_true rfl⟩ rfl rfl (Nat.le_of_ble_eq_true rfl) ⟨Nat.le_of_ble_eq_true rfl, Nat.le_of_ble_eq_true rfl⟩ dL_law_477 (fun H locs hT => ?_)
  refine lv_aload_n hx hb dL_law_480 rfl (lv_at hl 2 rfl) ?_
  refine lv_aload_n hx hb dL_law_481 rfl (lv_at hl 0 rfl) ?_
  refine lv_iload_n hx hb dL_law_482 rfl (lv_at hl 3 rfl) ?_
  refine lv_iconst (v := (1 : Int32)) hx hb dL_law_483 (by decide) ?_
  refine lv_iadd hx hb dL_law_484 ?_
  refine w_sld K hT (n := 1) rfl (by omega) dL_law_485 ?_
  refine w_callMi (rest := [.int r]) K hT hl (kX7_fault (l := l) (G := G) (ad := gad (S0 + 328)) gInj_gad (xs (i + 1)) IM JM r h2) kLM_0 rfl (gG_V q_1330 q_1331 q_1332 q_139 q_1333) nm_X7_fault ⟨Nat.le_of_ble_eq_true rfl, Nat.le_of_ble_eq_true rfl⟩ rfl rfl (Nat.le_of_ble_eq_true rfl) ⟨Nat.le_of_ble_eq_true rfl, Nat.le_of_ble_eq_true rfl⟩ dL_law_486 (fun H locs hT => ?_)
  refine lv_icmp_eq (tgt := 1916) hx hb dL_law_489 (by decide) (fun _ => ?_) (fun c1 => absurd rfl c1)
  exact hnext _ _ _ _ _ hV2 hT _ hl
def st_6 (V : gV) : Prop := ∀ (a1 : Int32) (IC IM : gI) (JM : gJ), V IC IM JM → ∃ (r : Int32) (IC' : gI) (IM' : gI), fX6_by a1 IC = (r, IC') ∧ fX7_by a1 IM = (r, IM') ∧ V IC' IM' JM
set_option maxHeartbeats 4000000 in
set_option maxRecDepth 100000 in
theorem law_6 {p : Program} {l : Launch} {e : Env} {s : State} {m : MethodId} {args : Array Value} {below : List Frame} {meth : Method} {c : Code} {Q : State → Prop} {G : gG} {S0 b Ln : Nat} {xs : Nat → Int32} {V : gV} (K : gLw G S0 b Ln xs p s m args c) {i : Nat} (hi : i + 6 ≤ Ln) (hst : st_6 V) (hnext : ∀ (IC IM : gI) (JM : gJ) (H : Heap) (locs : List Loc), V IC IM JM → gTw G S0 s IC IM JM H locs → ∀ (ls : Array Slot), lv_has ls 4 [(0, .ref b), (1, .ref (gad S0 0)), (2, .ref (gad (S0 + 328) 0)), (3, .int (nI i))] → W p l e room_1 s m args below meth c H locs 341 15174 Q (F0 m 1916 ls [])) : ∀ (IC IM : gI) (JM : gJ) (H : Heap) (locs : List Loc), V IC IM JM → gTw G S0 s IC IM JM H locs → ∀ (ls : Array Slot), lv_has ls 4 [(0, .ref b), (1, .ref (gad S0 0)), (2, .ref (gad (S0 + 328) 0)), (3, .int (nI i))] → W p l e room_1 s m args below meth c H locs 341 15174 Q (F0 m 494 ls []) := by
  have hx := K.1.1; have hb := K.1.2.1
  intro IC IM JM H locs hV hT ls hl
  obtain ⟨r, IC', IM', h1, h2, hV2⟩ := hst (xs (i + 1)) IC IM JM hV
  refine lv_aload_n hx hb dL_law_494 rfl (lv_at hl 1 rfl) ?_
  refine lv_aload_n hx hb dL_law_495 rfl (lv_at hl 0 rfl) ?_
  refine lv_iload_n hx hb dL_law_496 rfl (lv_at hl 3 rfl) ?_
  refine lv_iconst (v := (1 : Int32)) hx hb dL_law_497 (by decide) ?_
  refine lv_iadd hx hb dL_law_498 ?_
  refine w_sld K hT (n := 1) rfl (by omega) dL_law_499 ?_
  refine w_callCi (rest := []) K hT hl (kX6_by (l := l) (G := G) (ad := gad S0) gInj_gad (xs (i + 1)) IC J00 r IC' h1) kLC_0 rfl (gG_V q_664 q_665 q_666 q_133 q_667) nm_X6_by ⟨Nat.le_of_ble_eq_true rfl, Nat.le_of_ble_eq_true rfl⟩ rfl rfl (Nat.le_of_ble_eq_true rfl) ⟨Nat.le_of_ble_eq_true rfl, Nat.le_of_ble_eq_true rfl⟩ dL_law_500 (fun H locs hT => ?_)
  refine lv_aload_n hx hb dL_law_503 rfl (lv_at hl 2 rfl) ?_
  refine lv_aload_n hx hb dL_law_504 rfl (lv_at hl 0 rfl) ?_
  refine lv_iload_n hx hb dL_law_505 rfl (lv_at hl 3 rfl) ?_
  refine lv_iconst (v := (1 : Int32)) hx hb dL_law_506 (by decide) ?_
  refine lv_iadd hx hb dL_law_507 ?_
  refine w_sld K hT (n := 1) rfl (by omega) dL_law_508 ?_
  refine w_callMi (rest := [.int r]) K hT hl (kX7_by (l := l) (G := G) (ad := gad (S0 + 328)) gInj_gad (xs (i + 1)) IM JM r IM' h2) kLM_0 rfl (gG_V q_1334 q_1335 q_1336 q_139 q_1337) nm_X7_by ⟨Nat.le_of_ble_eq_true rfl, Nat.le_of_ble_eq_true rfl⟩ rfl rfl (Nat.le_of_ble_eq_true rfl) ⟨Nat.le_of_ble_eq_true rfl, Nat.le_of_ble_eq_true rfl⟩ dL_law_509 (fun H locs hT => ?_)
  refine lv_icmp_eq (tgt := 1916) hx hb dL_law_512 (by decide) (fun _ => ?_) (fun c1 => absurd rfl c1)
  exact hnext _ _ _ _ _ hV2 hT _ hl
def st_7 (V : gV) : Prop := ∀ (a1 : Int32) (IC IM : gI) (JM : gJ), V IC IM JM → ∃ (r : Int32) (IC' : gI) (IM' : gI) (JM' : gJ), fX6_sell a1 IC = some (r, IC') ∧ fX7_sell a1 IM JM = some (r, IM', JM') ∧ V IC' IM' JM'
set_option maxHeartbeats 4000000 in
set_option maxRecDepth 100000 in
theorem law_7 {p : Program} {l : Launch} {e : Env} {s : State} {m : MethodId} {args : Array Value} {below : List Frame} {meth : Method} {c : Code} {Q : State → Prop} {G : gG} {S0 b Ln : Nat} {xs : Nat → Int32} {V : gV} (K : gLw G S0 b Ln xs p s m args c) {i : Nat} (hi : i + 6 ≤ Ln) (hst : st_7 V) (hnext : ∀ (IC IM : gI) (JM : gJ) (H : Heap) (locs : List Loc), V IC IM JM → gTw G S0 s IC IM JM H locs → ∀ (ls : Array Slot), lv_has ls 4 [(0, .ref b), (1, .ref (gad S0 0)), (2, .ref (gad (S0 + 328) 0)), (3, .int (nI i))] → W p l e room_1 s m args below meth c H locs 341 15174 Q (F0 m 1916 ls [])) : ∀ (IC IM : gI) (JM : gJ) (H : Heap) (locs : List Loc), V IC IM JM → gTw G S0 s IC IM JM H locs → ∀ (ls : Array Slot), lv_has ls 4 [(0, .ref b), (1, .ref (gad S0 0)), (2, .ref (gad (S0 + 328) 0)), (3, .int (nI i))] → W p l e room_1 s m args below meth c H locs 341 15174 Q (F0 m 517 ls []) := by
  have hx := K.1.1; have hb := K.1.2.1
  intro IC IM JM H locs hV hT ls hl
  obtain ⟨r, IC', IM', JM', h1, h2, hV2⟩ := hst (xs (i + 1)) IC IM JM hV
  refine lv_aload_n hx hb dL_law_517 rfl (lv_at hl 1 rfl) ?_
  refine lv_aload_n hx hb dL_law_518 rfl (lv_at hl 0 rfl) ?_
  refine lv_iload_n hx hb dL_law_519 rfl (lv_at hl 3 rfl) ?_
  refine lv_iconst (v := (1 : Int32)) hx hb dL_law_520 (by decide) ?_
  refine lv_iadd hx hb dL_law_521 ?_
  refine w_sld K hT (n := 1) rfl (by omega) dL_law_522 ?_
  refine w_callCi (rest := []) K hT hl (kX6_sell (l := l) (G := G) (ad := gad S0) gInj_gad (xs (i + 1)) IC J00 r IC' h1) kLC_0 rfl (gG_V q_672 q_673 q_674 q_133 q_675) nm_X6_sell ⟨Nat.le_of_ble_eq_true rfl, Nat.le_of_ble_eq_true rfl⟩ rfl rfl (Nat.le_of_ble_eq_true rfl) ⟨Nat.le_of_ble_eq_true rfl, Nat.le_of_ble_eq_true rfl⟩ dL_law_523 (fun H locs hT => ?_)
  refine lv_aload_n hx hb dL_law_526 rfl (lv_at hl 2 rfl) ?_
  refine lv_aload_n hx hb dL_law_527 rfl (lv_at hl 0 rfl) ?_
  refine lv_iload_n hx hb dL_law_528 rfl (lv_at hl 3 rfl) ?_
  refine lv_iconst (v := (1 : Int32)) hx hb dL_law_529 (by decide) ?_
  refine lv_iadd hx hb dL_law_530 ?_
  refine w_sld K hT (n := 1) rfl (by omega) dL_law_531 ?_
  refine w_callMi (rest := [.int r]) K hT hl (kX7_sell (l := l) (G := G) (ad := gad (S0 + 328)) gInj_gad (xs (i + 1)) IM JM r IM' JM' h2) kLM_0 rfl (gG_V q_1342 q_1343 q_1344 q_139 q_1345) nm_X7_sell ⟨Nat.le_of_ble_eq_true rfl, Nat.le_of_ble_eq_true rfl⟩ rfl rfl (Nat.le_of_ble_eq_true rfl) ⟨Nat.le_of_ble_eq_true rfl, Nat.le_of_ble_eq_true rfl⟩ dL_law_532 (fun H locs hT => ?_)
  refine lv_icmp_eq (tgt := 1916) hx hb dL_law_535 (by decide) (fun _ => ?_) (fun c1 => absurd rfl c1)
  exact hnext _ _ _ _ _ hV2 hT _ hl
def st_8 (V : gV) : Prop := ∀ (a1 : Int32) (IC IM : gI) (JM : gJ), V IC IM JM → ∃ (r : Int32) (IC' : gI) (IM' : gI), fX6_give a1 IC = some (r, IC') ∧ fX7_give a1 IM = some (r, IM') ∧ V IC' IM' JM
set_option maxHeartbeats 4000000 in
set_option maxRecDepth 100000 in
theorem law_8 {p : Program} {l : Launch} {e : Env} {s : State} {m : MethodId} {args : Array Value} {below : List Frame} {meth : Method} {c : Code} {Q : State → Prop} {G : gG} {S0 b Ln : Nat} {xs : Nat → Int32} {V : gV} (K : gLw G S0 b Ln xs p s m args c) {i : Nat} (hi : i + 6 ≤ Ln) (hst : st_8 V) (hnext : ∀ (IC IM : gI) (JM : gJ) (H : Heap) (locs : List Loc), V IC IM JM → gTw G S0 s IC IM JM H locs → ∀ (ls : Array Slot), lv_has ls 4 [(0, .ref b), (1, .ref (gad S0 0)), (2, .ref (gad (S0 + 328) 0)), (3, .int (nI i))] → W p l e room_1 s m args below meth c H locs 341 15174 Q (F0 m 1916 ls [])) : ∀ (IC IM : gI) (JM : gJ) (H : Heap) (locs : List Loc), V IC IM JM → gTw G S0 s IC IM JM H locs → ∀ (ls : Array Slot), lv_has ls 4 [(0, .ref b), (1, .ref (gad S0 0)), (2, .ref (gad (S0 + 328) 0)), (3, .int (nI i))] → W p l e room_1 s m args below meth c H locs 341 15174 Q (F0 m 540 ls []) := by
  have hx := K.1.1; have hb := K.1.2.1
  intro IC IM JM H locs hV hT ls hl
  obtain ⟨r, IC', IM', h1, h2, hV2⟩ := hst (xs (i + 1)) IC IM JM hV
  refine lv_aload_n hx hb dL_law_540 rfl (lv_at hl 1 rfl) ?_
  refine lv_aload_n hx hb dL_law_541 rfl (lv_at hl 0 rfl) ?_
  refine lv_iload_n hx hb dL_law_542 rfl (lv_at hl 3 rfl) ?_
  refine lv_iconst (v := (1 : Int32)) hx hb dL_law_543 (by decide) ?_
  refine lv_iadd hx hb dL_law_544 ?_
  refine w_sld K hT (n := 1) rfl (by omega) dL_law_545 ?_
  refine w_callCi (rest := []) K hT hl (kX6_give (l := l) (G := G) (ad := gad S0) gInj_gad (xs (i + 1)) IC J00 r IC' h1) kLC_0 rfl (gG_V q_752 q_753 q_754 q_133 q_755) nm_X6_give ⟨Nat.le_of_ble_eq_true rfl, Nat.le_of_ble_eq_true rfl⟩ rfl rfl (Nat.le_of_ble_eq_true rfl) ⟨Nat.le_of_ble_eq_true rfl, Nat.le_of_ble_eq_true rfl⟩ dL_law_546 (fun H locs hT => ?_)
  refine lv_aload_n hx hb dL_law_549 rfl (lv_at hl 2 rfl) ?_
  refine lv_aload_n hx hb dL_law_550 rfl (lv_at hl 0 rfl) ?_
  refine lv_iload_n hx hb dL_law_551 rfl (lv_at hl 3 rfl) ?_
  refine lv_iconst (v := (1 : Int32)) hx hb dL_law_552 (by decide) ?_
  refine lv_iadd hx hb dL_law_553 ?_
  refine w_sld K hT (n := 1) rfl (by omega) dL_law_554 ?_
  refine w_callMi (rest := [.int r]) K hT hl (kX7_give (l := l) (G := G) (ad := gad (S0 + 328)) gInj_gad (xs (i + 1)) IM JM r IM' h2) kLM_0 rfl (gG_V q_1435 q_1436 q_1437 q_139 q_1438) nm_X7_give ⟨Nat.le_of_ble_eq_true rfl, Nat.le_of_ble_eq_true rfl⟩ rfl rfl (Nat.le_of_ble_eq_true rfl) ⟨Nat.le_of_ble_eq_true rfl, Nat.le_of_ble_eq_true rfl⟩ dL_law_555 (fun H locs hT => ?_)
  refine lv_icmp_eq (tgt := 1916) hx hb dL_law_558 (by decide) (fun _ => ?_) (fun c1 => absurd rfl c1)
  exact hnext _ _ _ _ _ hV2 hT _ hl
def st_9 (V : gV) : Prop := ∀ (a1 : Int32) (IC IM : gI) (JM : gJ), V IC IM JM → ∃ (r : Int32) (IC' : gI) (IM' : gI), fX6_turn a1 IC = some (r, IC') ∧ fX7_turn a1 IM = some (r, IM') ∧ V IC' IM' JM
set_option maxHeartbeats 4000000 in
set_option maxRecDepth 100000 in
theorem law_9 {p : Program} {l : Launch} {e : Env} {s : State} {m : MethodId} {args : Array Value} {below : List Frame} {meth : Method} {c : Code} {Q : State → Prop} {G : gG} {S0 b Ln : Nat} {xs : Nat → Int32} {V : gV} (K : gLw G S0 b Ln xs p s m args c) {i : Nat} (hi : i + 6 ≤ Ln) (hst : st_9 V) (hnext : ∀ (IC IM : gI) (JM : gJ) (H : Heap) (locs : List Loc), V IC IM JM → gTw G S0 s IC IM JM H locs → ∀ (ls : Array Slot), lv_has ls 4 [(0, .ref b), (1, .ref (gad S0 0)), (2, .ref (gad (S0 + 328) 0)), (3, .int (nI i))] → W p l e room_1 s m args below meth c H locs 341 15174 Q (F0 m 1916 ls [])) : ∀ (IC IM : gI) (JM : gJ) (H : Heap) (locs : List Loc), V IC IM JM → gTw G S0 s IC IM JM H locs → ∀ (ls : Array Slot), lv_has ls 4 [(0, .ref b), (1, .ref (gad S0 0)), (2, .ref (gad (S0 + 328) 0)), (3, .int (nI i))] → W p l e room_1 s m args below meth c H locs 341 15174 Q (F0 m 563 ls []) := by
  have hx := K.1.1; have hb := K.1.2.1
  intro IC IM JM H locs hV hT ls hl
  obtain ⟨r, IC', IM', h1, h2, hV2⟩ := hst (xs (i + 1)) IC IM JM hV
  refine lv_aload_n hx hb dL_law_563 rfl (lv_at hl 1 rfl) ?_
  refine lv_aload_n hx hb dL_law_564 rfl (lv_at hl 0 rfl) ?_
  refine lv_iload_n hx hb dL_law_565 rfl (lv_at hl 3 rfl) ?_
  refine lv_iconst (v := (1 : Int32)) hx hb dL_law_566 (by decide) ?_
  refine lv_iadd hx hb dL_law_567 ?_
  refine w_sld K hT (n := 1) rfl (by omega) dL_law_568 ?_
  refine w_callCi (rest := []) K hT hl (kX6_turn (l := l) (G := G) (ad := gad S0) gInj_gad (xs (i + 1)) IC J00 r IC' h1) kLC_0 rfl (gG_V q_764 q_765 q_766 q_133 q_767) nm_X6_turn ⟨Nat.le_of_ble_eq_true rfl, Nat.le_of_ble_eq_true rfl⟩ rfl rfl (Nat.le_of_ble_eq_true rfl) ⟨Nat.le_of_ble_eq_true rfl, Nat.le_of_ble_eq_true rfl⟩ dL_law_569 (fun H locs hT => ?_)
  refine lv_aload_n hx hb dL_law_572 rfl (lv_at hl 2 rfl) ?_
  refine lv_aload_n hx hb dL_law_573 rfl (lv_at hl 0 rfl) ?_
  refine lv_iload_n hx hb dL_law_574 rfl (lv_at hl 3 rfl) ?_
  refine lv_iconst (v := (1 : Int32)) hx hb dL_law_575 (by decide) ?_
  refine lv_iadd hx hb dL_law_576 ?_
  refine w_sld K hT (n := 1) rfl (by omega) dL_law_577 ?_
  refine w_callMi (rest := [.int r]) K hT hl (kX7_turn (l := l) (G := G) (ad := gad (S0 + 328)) gInj_gad (xs (i + 1)) IM JM r IM' h2) kLM_0 rfl (gG_V q_1450 q_1451 q_1452 q_139 q_1453) nm_X7_turn ⟨Nat.le_of_ble_eq_true rfl, Nat.le_of_ble_eq_true rfl⟩ rfl rfl (Nat.le_of_ble_eq_true rfl) ⟨Nat.le_of_ble_eq_true rfl, Nat.le_of_ble_eq_true rfl⟩ dL_law_578 (fun H locs hT => ?_)
  refine lv_icmp_eq (tgt := 1916) hx hb dL_law_581 (by decide) (fun _ => ?_) (fun c1 => absurd rfl c1)
  exact hnext _ _ _ _ _ hV2 hT _ hl
def st_10 (V : gV) : Prop := ∀ (a1 a2 : Int32) (IC IM : gI) (JM : gJ), V IC IM JM → ∃ (r : Int32) (IC' : gI) (IM' : gI) (JM' : gJ), fX6_pass a1 a2 IC = some (r, IC') ∧ fX7_pass a1 a2 IM JM = some (r, IM', JM') ∧ V IC' IM' JM'
set_option maxHeartbeats 4000000 in
set_option maxRecDepth 100000 in
theorem law_10 {p : Program} {l : Launch} {e : Env} {s : State} {m : MethodId} {args : Array Value} {below : List Frame} {meth : Method} {c : Code} {Q : State → Prop} {G : gG} {S0 b Ln : Nat} {xs : Nat → Int32} {V : gV} (K : gLw G S0 b Ln xs p s m args c) {i : Nat} (hi : i + 6 ≤ Ln) (hst : st_10 V) (hnext : ∀ (IC IM : gI) (JM : gJ) (H : Heap) (locs : List Loc), V IC IM JM → gTw G S0 s IC IM JM H locs → ∀ (ls : Array Slot), lv_has ls 4 [(0, .ref b), (1, .ref (gad S0 0)), (2, .ref (gad (S0 + 328) 0)), (3, .int (nI i))] → W p l e room_1 s m args below meth c H locs 341 15174 Q (F0 m 1916 ls [])) : ∀ (IC IM : gI) (JM : gJ) (H : Heap) (locs : List Loc), V IC IM JM → gTw G S0 s IC IM JM H locs → ∀ (ls : Array Slot), lv_has ls 4 [(0, .ref b), (1, .ref (gad S0 0)), (2, .ref (gad (S0 + 328) 0)), (3, .int (nI i))] → W p l e room_1 s m args below meth c H locs 341 15174 Q (F0 m 586 ls []) := by
  have hx := K.1.1; have hb := K.1.2.1
  intro IC IM JM H locs hV hT ls hl
  obtain ⟨r, IC', IM', JM', h1, h2, hV2⟩ := hst (xs (i + 1)) (xs (i + 2)) IC IM JM hV
  refine lv_aload_n hx hb dL_law_586 rfl (lv_at hl 1 rfl) ?_
  refine lv_aload_n hx hb dL_law_587 rfl (lv_at hl 0 rfl) ?_
  refine lv_iload_n hx hb dL_law_588 rfl (lv_at hl 3 rfl) ?_
  refine lv_iconst (v := (1 : Int32)) hx hb dL_law_589 (by decide) ?_
  refine lv_iadd hx hb dL_law_590 ?_
  refine w_sld K hT (n := 1) rfl (by omega) dL_law_591 ?_
  refine lv_aload_n hx hb dL_law_592 rfl (lv_at hl 0 rfl) ?_
  refine lv_iload_n hx hb dL_law_593 rfl (lv_at hl 3 rfl) ?_
  refine lv_iconst (v := (2 : Int32)) hx hb dL_law_594 (by decide) ?_
  refine lv_iadd hx hb dL_law_595 ?_
  refine w_sld K hT (n := 2) rfl (by omega) dL_law_596 ?_
  refine w_callCi (rest := []) K hT hl (kX6_pass (l := l) (G := G) (ad := gad S0) gInj_gad (xs (i + 1)) (xs (i + 2)) IC J00 r IC' h1) kLC_0 rfl (gG_V q_776 q_777 q_778 q_133 q_779) nm_X6_pass ⟨Nat.le_of_ble_eq_true rfl, Nat.le_of_ble_eq_true rfl⟩ rfl rfl (Nat.le_of_ble_eq_true rfl) ⟨Nat.le_of_ble_eq_true rfl, Nat.le_of_ble_eq_true rfl⟩ dL_law_597 (fun H locs hT => ?_)
  refine lv_aload_n hx hb dL_law_600 rfl (lv_at hl 2 rfl) ?_
  refine lv_aload_n hx hb dL_law_601 rfl (lv_at hl 0 rfl) ?_
  refine lv_iload_n hx hb dL_law_602 rfl (lv_at hl 3 rfl) ?_
  refine lv_iconst (v := (1 : Int32)) hx hb dL_law_603 (by decide) ?_
  refine lv_iadd hx hb dL_law_604 ?_
  refine w_sld K hT (n := 1) rfl (by omega) dL_law_605 ?_
  refine lv_aload_n hx hb dL_law_606 rfl (lv_at hl 0 rfl) ?_
  refine lv_iload_n hx hb dL_law_607 rfl (lv_at hl 3 rfl) ?_
  refine lv_iconst (v := (2 : Int32)) hx hb dL_law_608 (by decide) ?_
  refine lv_iadd hx hb dL_law_609 ?_
  refine w_sld K hT (n := 2) rfl (by omega) dL_law_610 ?_
  refine w_callMi (rest := [.int r]) K hT hl (kX7_pass (l := l) (G := G) (ad := gad (S0 + 328)) gInj_gad (xs (i + 1)) (xs (i + 2)) IM JM r IM' JM' h2) kLM_0 rfl (gG_V q_1462 q_1463 q_1464 q_139 q_1465) nm_X7_pass ⟨Nat.le_of_ble_eq_true rfl, Nat.le_of_ble_eq_true rfl⟩ rfl rfl (Nat.le_of_ble_eq_true rfl) ⟨Nat.le_of_ble_eq_true rfl, Nat.le_of_ble_eq_true rfl⟩ dL_law_611 (fun H locs hT => ?_)
  refine lv_icmp_eq (tgt := 1916) hx hb dL_law_614 (by decide) (fun _ => ?_) (fun c1 => absurd rfl c1)
  exact hnext _ _ _ _ _ hV2 hT _ hl
def st_11 (V : gV) : Prop := ∀ (a1 : Int32) (IC IM : gI) (JM : gJ), V IC IM JM → ∃ (r : Int32) (IC' : gI) (IM' : gI) (JM' : gJ), fX6_day a1 IC = some (r, IC') ∧ fX7_day a1 IM JM = some (r, IM', JM') ∧ V IC' IM' JM'
set_option maxHeartbeats 4000000 in
set_option maxRecDepth 100000 in
theorem law_11 {p : Program} {l : Launch} {e : Env} {s : State} {m : MethodId} {args : Array Value} {below : List Frame} {meth : Method} {c : Code} {Q : State → Prop} {G : gG} {S0 b Ln : Nat} {xs : Nat → Int32} {V : gV} (K : gLw G S0 b Ln xs p s m args c) {i : Nat} (hi : i + 6 ≤ Ln) (hst : st_11 V) (hnext : ∀ (IC IM : gI) (JM : gJ) (H : Heap) (locs : List Loc), V IC IM JM → gTw G S0 s IC IM JM H locs → ∀ (ls : Array Slot), lv_has ls 4 [(0, .ref b), (1, .ref (gad S0 0)), (2, .ref (gad (S0 + 328) 0)), (3, .int (nI i))] → W p l e room_1 s m args below meth c H locs 341 15174 Q (F0 m 1916 ls [])) : ∀ (IC IM : gI) (JM : gJ) (H : Heap) (locs : List Loc), V IC IM JM → gTw G S0 s IC IM JM H locs → ∀ (ls : Array Slot), lv_has ls 4 [(0, .ref b), (1, .ref (gad S0 0)), (2, .ref (gad (S0 + 328) 0)), (3, .int (nI i))] → W p l e room_1 s m args below meth c H locs 341 15174 Q (F0 m 619 ls []) := by
  have hx := K.1.1; have hb := K.1.2.1
  intro IC IM JM H locs hV hT ls hl
  obtain ⟨r, IC', IM', JM', h1, h2, hV2⟩ := hst (xs (i + 1)) IC IM JM hV
  refine lv_aload_n hx hb dL_law_619 rfl (lv_at hl 1 rfl) ?_
  refine lv_aload_n hx hb dL_law_620 rfl (lv_at hl 0 rfl) ?_
  refine lv_iload_n hx hb dL_law_621 rfl (lv_at hl 3 rfl) ?_
  refine lv_iconst (v := (1 : Int32)) hx hb dL_law_622 (by decide) ?_
  refine lv_iadd hx hb dL_law_623 ?_
  refine w_sld K hT (n := 1) rfl (by omega) dL_law_624 ?_
  refine w_callCi (rest := []) K hT hl (kX6_day (l := l) (G := G) (ad := gad S0) gInj_gad (xs (i + 1)) IC J00 r IC' h1) kLC_0 rfl (gG_V q_784 q_785 q_786 q_133 q_787) nm_X6_day ⟨Nat.le_of_ble_eq_true rfl, Nat.le_of_ble_eq_true rfl⟩ rfl rfl (Nat.le_of_ble_eq_true rfl) ⟨Nat.le_of_ble_eq_true rfl, Nat.le_of_ble_eq_true rfl⟩ dL_law_625 (fun H locs hT => ?_)
  refine lv_aload_n hx hb dL_law_628 rfl (lv_at hl 2 rfl) ?_
  refine lv_aload_n hx hb dL_law_629 rfl (lv_at hl 0 rfl) ?_
  refine lv_iload_n hx hb dL_law_630 rfl (lv_at hl 3 rfl) ?_
  refine lv_iconst (v := (1 : Int32)) hx hb dL_law_631 (by decide) ?_
  refine lv_iadd hx hb dL_law_632 ?_
  refine w_sld K hT (n := 1) rfl (by omega) dL_law_633 ?_
  refine w_callMi (rest := [.int r]) K hT hl (kX7_day (l := l) (G := G) (ad := gad (S0 + 328)) gInj_gad (xs (i + 1)) IM JM r IM' JM' h2) kLM_0 rfl (gG_V q_1470 q_1471 q_1472 q_139 q_1473) nm_X7_day ⟨Nat.le_of_ble_eq_true rfl, Nat.le_of_ble_eq_true rfl⟩ rfl rfl (Nat.le_of_ble_eq_true rfl) ⟨Nat.le_of_ble_eq_true rfl, Nat.le_of_ble_eq_true rfl⟩ dL_law_634 (fun H locs hT => ?_)
  refine lv_icmp_eq (tgt := 1916) hx hb dL_law_637 (by decide) (fun _ => ?_) (fun c1 => absurd rfl c1)
  exact hnext _ _ _ _ _ hV2 hT _ hl
def st_12 (V : gV) : Prop := ∀ (a1 : Int32) (IC IM : gI) (JM : gJ), V IC IM JM → ∃ (r : Int32) (IC' : gI) (IM' : gI) (JM' : gJ), fX6_played a1 IC = some (r, IC') ∧ fX7_played a1 IM JM = some (r, IM', JM') ∧ V IC' IM' JM'
set_option maxHeartbeats 4000000 in
set_option maxRecDepth 100000 in
theorem law_12 {p : Program} {l : Launch} {e : Env} {s : State} {m : MethodId} {args : Array Value} {below : List Frame} {meth : Method} {c : Code} {Q : State → Prop} {G : gG} {S0 b Ln : Nat} {xs : Nat → Int32} {V : gV} (K : gLw G S0 b Ln xs p s m args c) {i : Nat} (hi : i + 6 ≤ Ln) (hst : st_12 V) (hnext : ∀ (IC IM : gI) (JM : gJ) (H : Heap) (locs : List Loc), V IC IM JM → gTw G S0 s IC IM JM H locs → ∀ (ls : Array Slot), lv_has ls 4 [(0, .ref b), (1, .ref (gad S0 0)), (2, .ref (gad (S0 + 328) 0)), (3, .int (nI i))] → W p l e room_1 s m args below meth c H locs 341 15174 Q (F0 m 1916 ls [])) : ∀ (IC IM : gI) (JM : gJ) (H : Heap) (locs : List Loc), V IC IM JM → gTw G S0 s IC IM JM H locs → ∀ (ls : Array Slot), lv_has ls 4 [(0, .ref b), (1, .ref (gad S0 0)), (2, .ref (gad (S0 + 328) 0)), (3, .int (nI i))] → W p l e room_1 s m args below meth c H locs 341 15174 Q (F0 m 642 ls []) := by
  have hx := K.1.1; have hb := K.1.2.1
  intro IC IM JM H locs hV hT ls hl
  obtain ⟨r, IC', IM', JM', h1, h2, hV2⟩ := hst (xs (i + 1)) IC IM JM hV
  refine lv_aload_n hx hb dL_law_642 rfl (lv_at hl 1 rfl) ?_
  refine lv_aload_n hx hb dL_law_643 rfl (lv_at hl 0 rfl) ?_
  refine lv_iload_n hx hb dL_law_644 rfl (lv_at hl 3 rfl) ?_
  refine lv_iconst (v := (1 : Int32)) hx hb dL_law_645 (by decide) ?_
  refine lv_iadd hx hb dL_law_646 ?_
  refine w_sld K hT (n := 1) rfl (by omega) dL_law_647 ?_
  refine w_callCi (rest := []) K hT hl (kX6_played (l := l) (G := G) (ad := gad S0) gInj_gad (xs (i + 1)) IC J00 r IC' h1) kLC_0 rfl (gG_V q_811 q_812 q_813 q_133 q_814) nm_X6_played ⟨Nat.le_of_ble_eq_true rfl, Nat.le_of_ble_eq_true rfl⟩ rfl rfl (Nat.le_of_ble_eq_true rfl) ⟨Nat.le_of_ble_eq_true rfl, Nat.le_of_ble_eq_true rfl⟩ dL_law_648 (fun H locs hT => ?_)
  refine lv_aload_n hx hb dL_law_651 rfl (lv_at hl 2 rfl) ?_
  refine lv_aload_n hx hb dL_law_652 rfl (lv_at hl 0 rfl) ?_
  refine lv_iload_n hx hb dL_law_653 rfl (lv_at hl 3 rfl) ?_
  refine lv_iconst (v := (1 : Int32)) hx hb dL_law_654 (by decide) ?_
  refine lv_iadd hx hb dL_law_655 ?_
  refine w_sld K hT (n := 1) rfl (by omega) dL_law_656 ?_
  refine w_callMi (rest := [.int r]) K hT hl (kX7_played (l := l) (G := G) (ad := gad (S0 + 328)) gInj_gad (xs (i + 1)) IM JM r IM' JM' h2) kLM_0 rfl (gG_V q_1505 q_1506 q_1507 q_139 q_1508) nm_X7_played ⟨Nat.le_of_ble_eq_true rfl, Nat.le_of_ble_eq_true rfl⟩ rfl rfl (Nat.le_of_ble_eq_true rfl) ⟨Nat.le_of_ble_eq_true rfl, Nat.le_of_ble_eq_true rfl⟩ dL_law_657 (fun H locs hT => ?_)
  refine lv_icmp_eq (tgt := 1916) hx hb dL_law_660 (by decide) (fun _ => ?_) (fun c1 => absurd rfl c1)
  exact hnext _ _ _ _ _ hV2 hT _ hl
def st_13 (V : gV) : Prop := ∀ (a1 a2 : Int32) (IC IM : gI) (JM : gJ), V IC IM JM → ∃ (r : Int32) (IC' : gI) (IM' : gI) (JM' : gJ), fX6_years a1 a2 IC = some (r, IC') ∧ fX7_years a1 a2 IM JM = some (r, IM', JM') ∧ V IC' IM' JM'
set_option maxHeartbeats 4000000 in
set_option maxRecDepth 100000 in
theorem law_13 {p : Program} {l : Launch} {e : Env} {s : State} {m : MethodId} {args : Array Value} {below : List Frame} {meth : Method} {c : Code} {Q : State → Prop} {G : gG} {S0 b Ln : Nat} {xs : Nat → Int32} {V : gV} (K : gLw G S0 b Ln xs p s m args c) {i : Nat} (hi : i + 6 ≤ Ln) (hst : st_13 V) (hnext : ∀ (IC IM : gI) (JM : gJ) (H : Heap) (locs : List Loc), V IC IM JM → gTw G S0 s IC IM JM H locs → ∀ (ls : Array Slot), lv_has ls 4 [(0, .ref b), (1, .ref (gad S0 0)), (2, .ref (gad (S0 + 328) 0)), (3, .int (nI i))] → W p l e room_1 s m args below meth c H locs 341 15174 Q (F0 m 1916 ls [])) : ∀ (IC IM : gI) (JM : gJ) (H : Heap) (locs : List Loc), V IC IM JM → gTw G S0 s IC IM JM H locs → ∀ (ls : Array Slot), lv_has ls 4 [(0, .ref b), (1, .ref (gad S0 0)), (2, .ref (gad (S0 + 328) 0)), (3, .int (nI i))] → W p l e room_1 s m args below meth c H locs 341 15174 Q (F0 m 665 ls []) := by
  have hx := K.1.1; have hb := K.1.2.1
  intro IC IM JM H locs hV hT ls hl
  obtain ⟨r, IC', IM', JM', h1, h2, hV2⟩ := hst (xs (i + 1)) (xs (i + 2)) IC IM JM hV
  refine lv_aload_n hx hb dL_law_665 rfl (lv_at hl 1 rfl) ?_
  refine lv_aload_n hx hb dL_law_666 rfl (lv_at hl 0 rfl) ?_
  refine lv_iload_n hx hb dL_law_667 rfl (lv_at hl 3 rfl) ?_
  refine lv_iconst (v := (1 : Int32)) hx hb dL_law_668 (by decide) ?_
  refine lv_iadd hx hb dL_law_669 ?_
  refine w_sld K hT (n := 1) rfl (by omega) dL_law_670 ?_
  refine lv_aload_n hx hb dL_law_671 rfl (lv_at hl 0 rfl) ?_
  refine lv_iload_n hx hb dL_law_672 rfl (lv_at hl 3 rfl) ?_
  refine lv_iconst (v := (2 : Int32)) hx hb dL_law_673 (by decide) ?_
  refine lv_iadd hx hb dL_law_674 ?_
  refine w_sld K hT (n := 2) rfl (by omega) dL_law_675 ?_
  refine w_callCi (rest := []) K hT hl (kX6_years (l := l) (G := G) (ad := gad S0) gInj_gad (xs (i + 1)) (xs (i + 2)) IC J00 r IC' h1) kLC_0 rfl (gG_V q_824 q_825 q_826 q_133 q_827) nm_X6_years ⟨Nat.le_of_ble_eq_true rfl, Nat.le_of_ble_eq_true rfl⟩ rfl rfl (Nat.le_of_ble_eq_true rfl) ⟨Nat.le_of_ble_eq_true rfl, Nat.le_of_ble_eq_true rfl⟩ dL_law_676 (fun H locs hT => ?_)
  refine lv_aload_n hx hb dL_law_679 rfl (lv_at hl 2 rfl) ?_
  refine lv_aload_n hx hb dL_law_680 rfl (lv_at hl 0 rfl) ?_
  refine lv_iload_n hx hb dL_law_681 rfl (lv_at hl 3 rfl) ?_
  refine lv_iconst (v := (1 : Int32)) hx hb dL_law_682 (by decide) ?_
  refine lv_iadd hx hb dL_law_683 ?_
  refine w_sld K hT (n := 1) rfl (by omega) dL_law_684 ?_
  refine lv_aload_n hx hb dL_law_685 rfl (lv_at hl 0 rfl) ?_
  refine lv_iload_n hx hb dL_law_686 rfl (lv_at hl 3 rfl) ?_
  refine lv_iconst (v := (2 : Int32)) hx hb dL_law_687 (by decide) ?_
  refine lv_iadd hx hb dL_law_688 ?_
  refine w_sld K hT (n := 2) rfl (by omega) dL_law_689 ?_
  refine w_callMi (rest := [.int r]) K hT hl (kX7_years (l := l) (G := G) (ad := gad (S0 + 328)) gInj_gad (xs (i + 1)) (xs (i + 2)) IM JM r IM' JM' h2) kLM_0 rfl (gG_V q_1518 q_1519 q_1520 q_139 q_1521) nm_X7_years ⟨Nat.le_of_ble_eq_true rfl, Nat.le_of_ble_eq_true rfl⟩ rfl rfl (Nat.le_of_ble_eq_true rfl) ⟨Nat.le_of_ble_eq_true rfl, Nat.le_of_ble_eq_true rfl⟩ dL_law_690 (fun H locs hT => ?_)
  refine lv_icmp_eq (tgt := 1916) hx hb dL_law_693 (by decide) (fun _ => ?_) (fun c1 => absurd rfl c1)
  exact hnext _ _ _ _ _ hV2 hT _ hl
def st_14 (V : gV) : Prop := ∀ (IC IM : gI) (JM : gJ), V IC IM JM → ∃ (r : Int32) (IC' : gI) (IM' : gI), fX6_undo IC = some (r, IC') ∧ fX7_undo IM = some (r, IM') ∧ V IC' IM' JM
set_option maxHeartbeats 4000000 in
set_option maxRecDepth 100000 in
theorem law_14 {p : Program} {l : Launch} {e : Env} {s : State} {m : MethodId} {args : Array Value} {below : List Frame} {meth : Method} {c : Code} {Q : State → Prop} {G : gG} {S0 b Ln : Nat} {xs : Nat → Int32} {V : gV} (K : gLw G S0 b Ln xs p s m args c) {i : Nat} (hi : i + 6 ≤ Ln) (hst : st_14 V) (hnext : ∀ (IC IM : gI) (JM : gJ) (H : Heap) (locs : List Loc), V IC IM JM → gTw G S0 s IC IM JM H locs → ∀ (ls : Array Slot), lv_has ls 4 [(0, .ref b), (1, .ref (gad S0 0)), (2, .ref (gad (S0 + 328) 0)), (3, .int (nI i))] → W p l e room_1 s m args below meth c H locs 341 15174 Q (F0 m 1916 ls [])) : ∀ (IC IM : gI) (JM : gJ) (H : Heap) (locs : List Loc), V IC IM JM → gTw G S0 s IC IM JM H locs → ∀ (ls : Array Slot), lv_has ls 4 [(0, .ref b), (1, .ref (gad S0 0)), (2, .ref (gad (S0 + 328) 0)), (3, .int (nI i))] → W p l e room_1 s m args below meth c H locs 341 15174 Q (F0 m 698 ls []) := by
  have hx := K.1.1; have hb := K.1.2.1
  intro IC IM JM H locs hV hT ls hl
  obtain ⟨r, IC', IM', h1, h2, hV2⟩ := hst  IC IM JM hV
  refine lv_aload_n hx hb dL_law_698 rfl (lv_at hl 1 rfl) ?_
  refine w_callCi (rest := []) K hT hl (kX6_undo (l := l) (G := G) (ad := gad S0) gInj_gad IC J00 r IC' h1) kLC_0 rfl (gG_V q_832 q_833 q_834 q_133 q_835) nm_X6_undo ⟨Nat.le_of_ble_eq_true rfl, Nat.le_of_ble_eq_true rfl⟩ rfl rfl (Nat.le_of_ble_eq_true rfl) ⟨Nat.le_of_ble_eq_true rfl, Nat.le_of_ble_eq_true rfl⟩ dL_law_699 (fun H locs hT => ?_)
  refine lv_aload_n hx hb dL_law_702 rfl (lv_at hl 2 rfl) ?_
  refine w_callMi (rest := [.int r]) K hT hl (kX7_undo (l := l) (G := G) (ad := gad (S0 + 328)) gInj_gad IM JM r IM' h2) kLM_0 rfl (gG_V q_1338 q_1339 q_1340 q_139 q_1341) nm_X7_undo ⟨Nat.le_of_ble_eq_true rfl, Nat.le_of_ble_eq_true rfl⟩ rfl rfl (Nat.le_of_ble_eq_true rfl) ⟨Nat.le_of_ble_eq_true rfl, Nat.le_of_ble_eq_true rfl⟩ dL_law_703 (fun H locs hT => ?_)
  refine lv_icmp_eq (tgt := 1916) hx hb dL_law_706 (by decide) (fun _ => ?_) (fun c1 => absurd rfl c1)
  exact hnext _ _ _ _ _ hV2 hT _ hl
def st_15 (V : gV) : Prop := ∀ (a1 a2 : Int32) (IC IM : gI) (JM : gJ), V IC IM JM → ∃ (r : Int32) (IC' : gI) (IM' : gI) (JM' : gJ), fX6_of a1 a2 IC = some (r, IC') ∧ fX7_of a1 a2 IM JM = some (r, IM', JM') ∧ V IC' IM' JM'
set_option maxHeartbeats 4000000 in
set_option maxRecDepth 100000 in
theorem law_15 {p : Program} {l : Launch} {e : Env} {s : State} {m : MethodId} {args : Array Value} {below : List Frame} {meth : Method} {c : Code} {Q : State → Prop} {G : gG} {S0 b Ln : Nat} {xs : Nat → Int32} {V : gV} (K : gLw G S0 b Ln xs p s m args c) {i : Nat} (hi : i + 6 ≤ Ln) (hst : st_15 V) (hnext : ∀ (IC IM : gI) (JM : gJ) (H : Heap) (locs : List Loc), V IC IM JM → gTw G S0 s IC IM JM H locs → ∀ (ls : Array Slot), lv_has ls 4 [(0, .ref b), (1, .ref (gad S0 0)), (2, .ref (gad (S0 + 328) 0)), (3, .int (nI i))] → W p l e room_1 s m args below meth c H locs 341 15174 Q (F0 m 1916 ls [])) : ∀ (IC IM : gI) (JM : gJ) (H : Heap) (locs : List Loc), V IC IM JM → gTw G S0 s IC IM JM H locs → ∀ (ls : Array Slot), lv_has ls 4 [(0, .ref b), (1, .ref (gad S0 0)), (2, .ref (gad (S0 + 328) 0)), (3, .int (nI i))] → W p l e room_1 s m args below meth c H locs 341 15174 Q (F0 m 711 ls []) := by
  have hx := K.1.1; have hb := K.1.2.1
  intro IC IM JM H locs hV hT ls hl
  obtain ⟨r, IC', IM', JM', h1, h2, hV2⟩ := hst (xs (i + 1)) (xs (i + 2)) IC IM JM hV
  refine lv_aload_n hx hb dL_law_711 rfl (lv_at hl 1 rfl) ?_
  refine lv_aload_n hx hb dL_law_712 rfl (lv_at hl 0 rfl) ?_
  refine lv_iload_n hx hb dL_law_713 rfl (lv_at hl 3 rfl) ?_
  refine lv_iconst (v := (1 : Int32)) hx hb dL_law_714 (by decide) ?_
  refine lv_iadd hx hb dL_law_715 ?_
  refine w_sld K hT (n := 1) rfl (by omega) dL_law_716 ?_
  refine lv_aload_n hx hb dL_law_717 rfl (lv_at hl 0 rfl) ?_
  refine lv_iload_n hx hb dL_law_718 rfl (lv_at hl 3 rfl) ?_
  refine lv_iconst (v := (2 : Int32)) hx hb dL_law_719 (by decide) ?_
  refine lv_iadd hx hb dL_law_720 ?_
  refine w_sld K hT (n := 2) rfl (by omega) dL_law_721 ?_
  refine w_callCi (rest := []) K hT hl (kX6_of (l := l) (G := G) (ad := gad S0) gInj_gad (xs (i + 1)) (xs (i + 2)) IC J00 r IC' h1) kLC_0 rfl (gG_V q_850 q_851 q_852 q_133 q_853) nm_X6_of ⟨Nat.le_of_ble_eq_true rfl, Nat.le_of_ble_eq_true rfl⟩ rfl rfl (Nat.le_of_ble_eq_true rfl) ⟨Nat.le_of_ble_eq_true rfl, Nat.le_of_ble_eq_true rfl⟩ dL_law_722 (fun H locs hT => ?_)
  refine lv_aload_n hx hb dL_law_725 rfl (lv_at hl 2 rfl) ?_
  refine lv_aload_n hx hb dL_law_726 rfl (lv_at hl 0 rfl) ?_
  refine lv_iload_n hx hb dL_law_727 rfl (lv_at hl 3 rfl) ?_
  refine lv_iconst (v := (1 : Int32)) hx hb dL_law_728 (by decide) ?_
  refine lv_iadd hx hb dL_law_729 ?_
  refine w_sld K hT (n := 1) rfl (by omega) dL_law_730 ?_
  refine lv_aload_n hx hb dL_law_731 rfl (lv_at hl 0 rfl) ?_
  refine lv_iload_n hx hb dL_law_732 rfl (lv_at hl 3 rfl) ?_
  refine lv_iconst (v := (2 : Int32)) hx hb dL_law_733 (by decide) ?_
  refine lv_iadd hx hb dL_law_734 ?_
  refine w_sld K hT (n := 2) rfl (by omega) dL_law_735 ?_
  refine w_callMi (rest := [.int r]) K hT hl (kX7_of (l := l) (G := G) (ad := gad (S0 + 328)) gInj_gad (xs (i + 1)) (xs (i + 2)) IM JM r IM' JM' h2) kLM_0 rfl (gG_V q_1526 q_1527 q_1528 q_139 q_1529) nm_X7_of ⟨Nat.le_of_ble_eq_true rfl, Nat.le_of_ble_eq_true rfl⟩ rfl rfl (Nat.le_of_ble_eq_true rfl) ⟨Nat.le_of_ble_eq_true rfl, Nat.le_of_ble_eq_true rfl⟩ dL_law_736 (fun H locs hT => ?_)
  refine lv_icmp_eq (tgt := 1916) hx hb dL_law_739 (by decide) (fun _ => ?_) (fun c1 => absurd rfl c1)
  exact hnext _ _ _ _ _ hV2 hT _ hl
def st_16 (V : gV) : Prop := ∀ (a1 a2 : Int32) (IC IM : gI) (JM : gJ), V IC IM JM → ∃ (r : Int32), fX6_ofSort a1 a2 IC = some r ∧ fX7_ofSort a1 a2 IM = some r ∧ V IC IM JM
set_option maxHeartbeats 4000000 in
set_option maxRecDepth 100000 in
theorem law_16 {p : Program} {l : Launch} {e : Env} {s : State} {m : MethodId} {args : Array Value} {below : List Frame} {meth : Method} {c : Code} {Q : State → Prop} {G : gG} {S0 b Ln : Nat} {xs : Nat → Int32} {V : gV} (K : gLw G S0 b Ln xs p s m args c) {i : Nat} (hi : i + 6 ≤ Ln) (hst : st_16 V) (hnext : ∀ (IC IM : gI) (JM : gJ) (H : Heap) (locs : List Loc), V IC IM JM → gTw G S0 s IC IM JM H locs → ∀ (ls : Array Slot), lv_has ls 4 [(0, .ref b), (1, .ref (gad S0 0)), (2, .ref (gad (S0 + 328) 0)), (3, .int (nI i))] → W p l e room_1 s m args below meth c H locs 341 15174 Q (F0 m 1916 ls [])) : ∀ (IC IM : gI) (JM : gJ) (H : Heap) (locs : List Loc), V IC IM JM → gTw G S0 s IC IM JM H locs → ∀ (ls : Array Slot), lv_has ls 4 [(0, .ref b), (1, .ref (gad S0 0)), (2, .ref (gad (S0 + 328) 0)), (3, .int (nI i))] → W p l e room_1 s m args below meth c H locs 341 15174 Q (F0 m 744 ls []) := by
  have hx := K.1.1; have hb := K.1.2.1
  intro IC IM JM H locs hV hT ls hl
  obtain ⟨r, h1, h2, hV2⟩ := hst (xs (i + 1)) (xs (i + 2)) IC IM JM hV
  refine lv_aload_n hx hb dL_law_744 rfl (lv_at hl 1 rfl) ?_
  refine lv_aload_n hx hb dL_law_745 rfl (lv_at hl 0 rfl) ?_
  refine lv_iload_n hx hb dL_law_746 rfl (lv_at hl 3 rfl) ?_
  refine lv_iconst (v := (1 : Int32)) hx hb dL_law_747 (by decide) ?_
  refine lv_iadd hx hb dL_law_748 ?_
  refine w_sld K hT (n := 1) rfl (by omega) dL_law_749 ?_
  refine lv_aload_n hx hb dL_law_750 rfl (lv_at hl 0 rfl) ?_
  refine lv_iload_n hx hb dL_law_751 rfl (lv_at hl 3 rfl) ?_
  refine lv_iconst (v := (2 : Int32)) hx hb dL_law_752 (by decide) ?_
  refine lv_iadd hx hb dL_law_753 ?_
  refine w_sld K hT (n := 2) rfl (by omega) dL_law_754 ?_
  refine w_callCi (rest := []) K hT hl (kX6_ofSort (l := l) (G := G) (ad := gad S0) gInj_gad (xs (i + 1)) (xs (i + 2)) IC J00 r h1) kLC_0 rfl (gG_V q_854 q_855 q_856 q_133 q_857) nm_X6_ofSort ⟨Nat.le_of_ble_eq_true rfl, Nat.le_of_ble_eq_true rfl⟩ rfl rfl (Nat.le_of_ble_eq_true rfl) ⟨Nat.le_of_ble_eq_true rfl, Nat.le_of_ble_eq_true rfl⟩ dL_law_755 (fun H locs hT => ?_)
  refine lv_aload_n hx hb dL_law_758 rfl (lv_at hl 2 rfl) ?_
  refine lv_aload_n hx hb dL_law_759 rfl (lv_at hl 0 rfl) ?_
  refine lv_iload_n hx hb dL_law_760 rfl (lv_at hl 3 rfl) ?_
  refine lv_iconst (v := (1 : Int32)) hx hb dL_law_761 (by decide) ?_
  refine lv_iadd hx hb dL_law_762 ?_
  refine w_sld K hT (n := 1) rfl (by omega) dL_law_763 ?_
  refine lv_aload_n hx hb dL_law_764 rfl (lv_at hl 0 rfl) ?_
  refine lv_iload_n hx hb dL_law_765 rfl (lv_at hl 3 rfl) ?_
  refine lv_iconst (v := (2 : Int32)) hx hb dL_law_766 (by decide) ?_
  refine lv_iadd hx hb dL_law_767 ?_
  refine w_sld K hT (n := 2) rfl (by omega) dL_law_768 ?_
  refine w_callMi (rest := [.int r]) K hT hl (kX7_ofSort (l := l) (G := G) (ad := gad (S0 + 328)) gInj_gad (xs (i + 1)) (xs (i + 2)) IM JM r h2) kLM_0 rfl (gG_V q_1530 q_1531 q_1532 q_139 q_1533) nm_X7_ofSort ⟨Nat.le_of_ble_eq_true rfl, Nat.le_of_ble_eq_true rfl⟩ rfl rfl (Nat.le_of_ble_eq_true rfl) ⟨Nat.le_of_ble_eq_true rfl, Nat.le_of_ble_eq_true rfl⟩ dL_law_769 (fun H locs hT => ?_)
  refine lv_icmp_eq (tgt := 1916) hx hb dL_law_772 (by decide) (fun _ => ?_) (fun c1 => absurd rfl c1)
  exact hnext _ _ _ _ _ hV2 hT _ hl
def st_17 (V : gV) : Prop := ∀ (a1 : Int32) (IC IM : gI) (JM : gJ), V IC IM JM → ∃ (r : Int32), fX6_at a1 IC = some r ∧ fX7_at a1 IM = some r ∧ V IC IM JM
set_option maxHeartbeats 4000000 in
set_option maxRecDepth 100000 in
theorem law_17 {p : Program} {l : Launch} {e : Env} {s : State} {m : MethodId} {args : Array Value} {below : List Frame} {meth : Method} {c : Code} {Q : State → Prop} {G : gG} {S0 b Ln : Nat} {xs : Nat → Int32} {V : gV} (K : gLw G S0 b Ln xs p s m args c) {i : Nat} (hi : i + 6 ≤ Ln) (hst : st_17 V) (hnext : ∀ (IC IM : gI) (JM : gJ) (H : Heap) (locs : List Loc), V IC IM JM → gTw G S0 s IC IM JM H locs → ∀ (ls : Array Slot), lv_has ls 4 [(0, .ref b), (1, .ref (gad S0 0)), (2, .ref (gad (S0 + 328) 0)), (3, .int (nI i))] → W p l e room_1 s m args below meth c H locs 341 15174 Q (F0 m 1916 ls [])) : ∀ (IC IM : gI) (JM : gJ) (H : Heap) (locs : List Loc), V IC IM JM → gTw G S0 s IC IM JM H locs → ∀ (ls : Array Slot), lv_has ls 4 [(0, .ref b), (1, .ref (gad S0 0)), (2, .ref (gad (S0 + 328) 0)), (3, .int (nI i))] → W p l e room_1 s m args below meth c H locs 341 15174 Q (F0 m 777 ls []) := by
  have hx := K.1.1; have hb := K.1.2.1
  intro IC IM JM H locs hV hT ls hl
  obtain ⟨r, h1, h2, hV2⟩ := hst (xs (i + 1)) IC IM JM hV
  refine lv_aload_n hx hb dL_law_777 rfl (lv_at hl 1 rfl) ?_
  refine lv_aload_n hx hb dL_law_778 rfl (lv_at hl 0 rfl) ?_
  refine lv_iload_n hx hb dL_law_779 rfl (lv_at hl 3 rfl) ?_
  refine lv_iconst (v := (1 : Int32)) hx hb dL_law_780 (by decide) ?_
  refine lv_iadd hx hb dL_law_781 ?_
  refine w_sld K hT (n := 1) rfl (by omega) dL_law_782 ?_
  refine w_callCi (rest := []) K hT hl (kX6_at (l := l) (G := G) (ad := gad S0) gInj_gad (xs (i + 1)) IC J00 r h1) kLC_0 rfl (gG_V q_858 q_859 q_860 q_133 q_861) nm_X6_at ⟨Nat.le_of_ble_eq_true rfl, Nat.le_of_ble_eq_true rfl⟩ rfl rfl (Nat.le_of_ble_eq_true rfl) ⟨Nat.le_of_ble_eq_true rfl, Nat.le_of_ble_eq_true rfl⟩ dL_law_783 (fun H locs hT => ?_)
  refine lv_aload_n hx hb dL_law_786 rfl (lv_at hl 2 rfl) ?_
  refine lv_aload_n hx hb dL_law_787 rfl (lv_at hl 0 rfl) ?_
  refine lv_iload_n hx hb dL_law_788 rfl (lv_at hl 3 rfl) ?_
  refine lv_iconst (v := (1 : Int32)) hx hb dL_law_789 (by decide) ?_
  refine lv_iadd hx hb dL_law_790 ?_
  refine w_sld K hT (n := 1) rfl (by omega) dL_law_791 ?_
  refine w_callMi (rest := [.int r]) K hT hl (kX7_at (l := l) (G := G) (ad := gad (S0 + 328)) gInj_gad (xs (i + 1)) IM JM r h2) kLM_0 rfl (gG_V q_1534 q_1535 q_1536 q_139 q_1537) nm_X7_at ⟨Nat.le_of_ble_eq_true rfl, Nat.le_of_ble_eq_true rfl⟩ rfl rfl (Nat.le_of_ble_eq_true rfl) ⟨Nat.le_of_ble_eq_true rfl, Nat.le_of_ble_eq_true rfl⟩ dL_law_792 (fun H locs hT => ?_)
  refine lv_icmp_eq (tgt := 1916) hx hb dL_law_795 (by decide) (fun _ => ?_) (fun c1 => absurd rfl c1)
  exact hnext _ _ _ _ _ hV2 hT _ hl
def st_18 (V : gV) : Prop := ∀ (a1 : Int32) (IC IM : gI) (JM : gJ), V IC IM JM → ∃ (r : Int32), fX6_is a1 IC = r ∧ fX7_is a1 IM = some r ∧ V IC IM JM
set_option maxHeartbeats 4000000 in
set_option maxRecDepth 100000 in
theorem law_18 {p : Program} {l : Launch} {e : Env} {s : State} {m : MethodId} {args : Array Value} {below : List Frame} {meth : Method} {c : Code} {Q : State → Prop} {G : gG} {S0 b Ln : Nat} {xs : Nat → Int32} {V : gV} (K : gLw G S0 b Ln xs p s m args c) {i : Nat} (hi : i + 6 ≤ Ln) (hst : st_18 V) (hnext : ∀ (IC IM : gI) (JM : gJ) (H : Heap) (locs : List Loc), V IC IM JM → gTw G S0 s IC IM JM H locs → ∀ (ls : Array Slot), lv_has ls 4 [(0, .ref b), (1, .ref (gad S0 0)), (2, .ref (gad (S0 + 328) 0)), (3, .int (nI i))] → W p l e room_1 s m args below meth c H locs 341 15174 Q (F0 m 1916 ls [])) : ∀ (IC IM : gI) (JM : gJ) (H : Heap) (locs : List Loc), V IC IM JM → gTw G S0 s IC IM JM H locs → ∀ (ls : Array Slot), lv_has ls 4 [(0, .ref b), (1, .ref (gad S0 0)), (2, .ref (gad (S0 + 328) 0)), (3, .int (nI i))] → W p l e room_1 s m args below meth c H locs 341 15174 Q (F0 m 800 ls []) := by
  have hx := K.1.1; have hb := K.1.2.1
  intro IC IM JM H locs hV hT ls hl
  obtain ⟨r, h1, h2, hV2⟩ := hst (xs (i + 1)) IC IM JM hV
  refine lv_aload_n hx hb dL_law_800 rfl (lv_at hl 1 rfl) ?_
  refine lv_aload_n hx hb dL_law_801 rfl (lv_at hl 0 rfl) ?_
  refine lv_iload_n hx hb dL_law_802 rfl (lv_at hl 3 rfl) ?_
  refine lv_iconst (v := (1 : Int32)) hx hb dL_law_803 (by decide) ?_
  refine lv_iadd hx hb dL_law_804 ?_
  refine w_sld K hT (n := 1) rfl (by omega) dL_law_805 ?_
  refine w_callCi (rest := []) K hT hl (kX6_is (l := l) (G := G) (ad := gad S0) gInj_gad (xs (i + 1)) IC J00 r h1) kLC_0 rfl (gG_V q_862 q_863 q_864 q_133 q_865) nm_X6_is ⟨Nat.le_of_ble_eq_true rfl, Nat.le_of_ble_eq_true rfl⟩ rfl rfl (Nat.le_of_ble_eq_true rfl) ⟨Nat.le_of_ble_eq_true rfl, Nat.le_of_ble_eq_true rfl⟩ dL_law_806 (fun H locs hT => ?_)
  refine lv_aload_n hx hb dL_law_809 rfl (lv_at hl 2 rfl) ?_
  refine lv_aload_n hx hb dL_law_810 rfl (lv_at hl 0 rfl) ?_
  refine lv_iload_n hx hb dL_law_811 rfl (lv_at hl 3 rfl) ?_
  refine lv_iconst (v := (1 : Int32)) hx hb dL_law_812 (by decide) ?_
  refine lv_iadd hx hb dL_law_813 ?_
  refine w_sld K hT (n := 1) rfl (by omega) dL_law_814 ?_
  refine w_callMi (rest := [.int r]) K hT hl (kX7_is (l := l) (G := G) (ad := gad (S0 + 328)) gInj_gad (xs (i + 1)) IM JM r h2) kLM_0 rfl (gG_V q_1538 q_1539 q_1540 q_139 q_1541) nm_X7_is ⟨Nat.le_of_ble_eq_true rfl, Nat.le_of_ble_eq_true rfl⟩ rfl rfl (Nat.le_of_ble_eq_true rfl) ⟨Nat.le_of_ble_eq_true rfl, Nat.le_of_ble_eq_true rfl⟩ dL_law_815 (fun H locs hT => ?_)
  refine lv_icmp_eq (tgt := 1916) hx hb dL_law_818 (by decide) (fun _ => ?_) (fun c1 => absurd rfl c1)
  exact hnext _ _ _ _ _ hV2 hT _ hl
def st_19 (V : gV) : Prop := ∀ (a1 a2 : Int32) (IC IM : gI) (JM : gJ), V IC IM JM → ∃ (r : Int32), fX6_book a1 a2 IC = some r ∧ fX7_book a1 a2 IM = some r ∧ V IC IM JM
set_option maxHeartbeats 4000000 in
set_option maxRecDepth 100000 in
theorem law_19 {p : Program} {l : Launch} {e : Env} {s : State} {m : MethodId} {args : Array Value} {below : List Frame} {meth : Method} {c : Code} {Q : State → Prop} {G : gG} {S0 b Ln : Nat} {xs : Nat → Int32} {V : gV} (K : gLw G S0 b Ln xs p s m args c) {i : Nat} (hi : i + 6 ≤ Ln) (hst : st_19 V) (hnext : ∀ (IC IM : gI) (JM : gJ) (H : Heap) (locs : List Loc), V IC IM JM → gTw G S0 s IC IM JM H locs → ∀ (ls : Array Slot), lv_has ls 4 [(0, .ref b), (1, .ref (gad S0 0)), (2, .ref (gad (S0 + 328) 0)), (3, .int (nI i))] → W p l e room_1 s m args below meth c H locs 341 15174 Q (F0 m 1916 ls [])) : ∀ (IC IM : gI) (JM : gJ) (H : Heap) (locs : List Loc), V IC IM JM → gTw G S0 s IC IM JM H locs → ∀ (ls : Array Slot), lv_has ls 4 [(0, .ref b), (1, .ref (gad S0 0)), (2, .ref (gad (S0 + 328) 0)), (3, .int (nI i))] → W p l e room_1 s m args below meth c H locs 341 15174 Q (F0 m 823 ls []) := by
  have hx := K.1.1; have hb := K.1.2.1
  intro IC IM JM H locs hV hT ls hl
  obtain ⟨r, h1, h2, hV2⟩ := hst (xs (i + 1)) (xs (i + 2)) IC IM JM hV
  refine lv_aload_n hx hb dL_law_823 rfl (lv_at hl 1 rfl) ?_
  refine lv_aload_n hx hb dL_law_824 rfl (lv_at hl 0 rfl) ?_
  refine lv_iload_n hx hb dL_law_825 rfl (lv_at hl 3 rfl) ?_
  refine lv_iconst (v := (1 : Int32)) hx hb dL_law_826 (by decide) ?_
  refine lv_iadd hx hb dL_law_827 ?_
  refine w_sld K hT (n := 1) rfl (by omega) dL_law_828 ?_
  refine lv_aload_n hx hb dL_law_829 rfl (lv_at hl 0 rfl) ?_
  refine lv_iload_n hx hb dL_law_830 rfl (lv_at hl 3 rfl) ?_
  refine lv_iconst (v := (2 : Int32)) hx hb dL_law_831 (by decide) ?_
  refine lv_iadd hx hb dL_law_832 ?_
  refine w_sld K hT (n := 2) rfl (by omega) dL_law_833 ?_
  refine w_callCi (rest := []) K hT hl (kX6_book (l := l) (G := G) (ad := gad S0) gInj_gad (xs (i + 1)) (xs (i + 2)) IC J00 r h1) kLC_0 rfl (gG_V q_866 q_867 q_868 q_133 q_869) nm_X6_book ⟨Nat.le_of_ble_eq_true rfl, Nat.le_of_ble_eq_true rfl⟩ rfl rfl (Nat.le_of_ble_eq_true rfl) ⟨Nat.le_of_ble_eq_true rfl, Nat.le_of_ble_eq_true rfl⟩ dL_law_834 (fun H locs hT => ?_)
  refine lv_aload_n hx hb dL_law_837 rfl (lv_at hl 2 rfl) ?_
  refine lv_aload_n hx hb dL_law_838 rfl (lv_at hl 0 rfl) ?_
  refine lv_iload_n hx hb dL_law_839 rfl (lv_at hl 3 rfl) ?_
  refine lv_iconst (v := (1 : Int32)) hx hb dL_law_840 (by decide) ?_
  refine lv_iadd hx hb dL_law_841 ?_
  refine w_sld K hT (n := 1) rfl (by omega) dL_law_842 ?_
  refine lv_aload_n hx hb dL_law_843 rfl (lv_at hl 0 rfl) ?_
  refine lv_iload_n hx hb dL_law_844 rfl (lv_at hl 3 rfl) ?_
  refine lv_iconst (v := (2 : Int32)) hx hb dL_law_845 (by decide) ?_
  refine lv_iadd hx hb dL_law_846 ?_
  refine w_sld K hT (n := 2) rfl (by omega) dL_law_847 ?_
  refine w_callMi (rest := [.int r]) K hT hl (kX7_book (l := l) (G := G) (ad := gad (S0 + 328)) gInj_gad (xs (i + 1)) (xs (i + 2)) IM JM r h2) kLM_0 rfl (gG_V q_1542 q_1543 q_1544 q_139 q_1545) nm_X7_book ⟨Nat.le_of_ble_eq_true rfl, Nat.le_of_ble_eq_true rfl⟩ rfl rfl (Nat.le_of_ble_eq_true rfl) ⟨Nat.le_of_ble_eq_true rfl, Nat.le_of_ble_eq_true rfl⟩ dL_law_848 (fun H locs hT => ?_)
  refine lv_icmp_eq (tgt := 1916) hx hb dL_law_851 (by decide) (fun _ => ?_) (fun c1 => absurd rfl c1)
  exact hnext _ _ _ _ _ hV2 hT _ hl
def st_20 (V : gV) : Prop := ∀ (a1 a2 : Int32) (IC IM : gI) (JM : gJ), V IC IM JM → ∃ (r : Int32) (IC' : gI) (IM' : gI) (JM' : gJ), fX6_foretold a1 a2 IC = some (r, IC') ∧ fX7_foretold a1 a2 IM JM = some (r, IM', JM') ∧ V IC' IM' JM'
set_option maxHeartbeats 4000000 in
set_option maxRecDepth 100000 in
theorem law_20 {p : Program} {l : Launch} {e : Env} {s : State} {m : MethodId} {args : Array Value} {below : List Frame} {meth : Method} {c : Code} {Q : State → Prop} {G : gG} {S0 b Ln : Nat} {xs : Nat → Int32} {V : gV} (K : gLw G S0 b Ln xs p s m args c) {i : Nat} (hi : i + 6 ≤ Ln) (hst : st_20 V) (hnext : ∀ (IC IM : gI) (JM : gJ) (H : Heap) (locs : List Loc), V IC IM JM → gTw G S0 s IC IM JM H locs → ∀ (ls : Array Slot), lv_has ls 4 [(0, .ref b), (1, .ref (gad S0 0)), (2, .ref (gad (S0 + 328) 0)), (3, .int (nI i))] → W p l e room_1 s m args below meth c H locs 341 15174 Q (F0 m 1916 ls [])) : ∀ (IC IM : gI) (JM : gJ) (H : Heap) (locs : List Loc), V IC IM JM → gTw G S0 s IC IM JM H locs → ∀ (ls : Array Slot), lv_has ls 4 [(0, .ref b), (1, .ref (gad S0 0)), (2, .ref (gad (S0 + 328) 0)), (3, .int (nI i))] → W p l e room_1 s m args below meth c H locs 341 15174 Q (F0 m 856 ls []) := by
  have hx := K.1.1; have hb := K.1.2.1
  intro IC IM JM H locs hV hT ls hl
  obtain ⟨r, IC', IM', JM', h1, h2, hV2⟩ := hst (xs (i + 1)) (xs (i + 2)) IC IM JM hV
  refine lv_aload_n hx hb dL_law_856 rfl (lv_at hl 1 rfl) ?_
  refine lv_aload_n hx hb dL_law_857 rfl (lv_at hl 0 rfl) ?_
  refine lv_iload_n hx hb dL_law_858 rfl (lv_at hl 3 rfl) ?_
  refine lv_iconst (v := (1 : Int32)) hx hb dL_law_859 (by decide) ?_
  refine lv_iadd hx hb dL_law_860 ?_
  refine w_sld K hT (n := 1) rfl (by omega) dL_law_861 ?_
  refine lv_aload_n hx hb dL_law_862 rfl (lv_at hl 0 rfl) ?_
  refine lv_iload_n hx hb dL_law_863 rfl (lv_at hl 3 rfl) ?_
  refine lv_iconst (v := (2 : Int32)) hx hb dL_law_864 (by decide) ?_
  refine lv_iadd hx hb dL_law_865 ?_
  refine w_sld K hT (n := 2) rfl (by omega) dL_law_866 ?_
  refine w_callCi (rest := []) K hT hl (kX6_foretold (l := l) (G := G) (ad := gad S0) gInj_gad (xs (i + 1)) (xs (i + 2)) IC J00 r IC' h1) kLC_0 rfl (gG_V q_894 q_895 q_896 q_133 q_897) nm_X6_foretold ⟨Nat.le_of_ble_eq_true rfl, Nat.le_of_ble_eq_true rfl⟩ rfl rfl (Nat.le_of_ble_eq_true rfl) ⟨Nat.le_of_ble_eq_true rfl, Nat.le_of_ble_eq_true rfl⟩ dL_law_867 (fun H locs hT => ?_)
  refine lv_aload_n hx hb dL_law_870 rfl (lv_at hl 2 rfl) ?_
  refine lv_aload_n hx hb dL_law_871 rfl (lv_at hl 0 rfl) ?_
  refine lv_iload_n hx hb dL_law_872 rfl (lv_at hl 3 rfl) ?_
  refine lv_iconst (v := (1 : Int32)) hx hb dL_law_873 (by decide) ?_
  refine lv_iadd hx hb dL_law_874 ?_
  refine w_sld K hT (n := 1) rfl (by omega) dL_law_875 ?_
  refine lv_aload_n hx hb dL_law_876 rfl (lv_at hl 0 rfl) ?_
  refine lv_iload_n hx hb dL_law_877 rfl (lv_at hl 3 rfl) ?_
  refine lv_iconst (v := (2 : Int32)) hx hb dL_law_878 (by decide) ?_
  refine lv_iadd hx hb dL_law_879 ?_
  refine w_sld K hT (n := 2) rfl (by omega) dL_law_880 ?_
  refine w_callMi (rest := [.int r]) K hT hl (kX7_foretold (l := l) (G := G) (ad := gad (S0 + 328)) gInj_gad (xs (i + 1)) (xs (i + 2)) IM JM r IM' JM' h2) kLM_0 rfl (gG_V q_1601 q_1602 q_1603 q_139 q_1604) nm_X7_foretold ⟨Nat.le_of_ble_eq_true rfl, Nat.le_of_ble_eq_true rfl⟩ rfl rfl (Nat.le_of_ble_eq_true rfl) ⟨Nat.le_of_ble_eq_true rfl, Nat.le_of_ble_eq_true rfl⟩ dL_law_881 (fun H locs hT => ?_)
  refine lv_icmp_eq (tgt := 1916) hx hb dL_law_884 (by decide) (fun _ => ?_) (fun c1 => absurd rfl c1)
  exact hnext _ _ _ _ _ hV2 hT _ hl
def st_21 (V : gV) : Prop := ∀ (a1 a2 : Int32) (IC IM : gI) (JM : gJ), V IC IM JM → ∃ (r : Int32) (IC' : gI) (IM' : gI) (JM' : gJ), fX6_pack a1 (bz a2) IC = some (r, IC') ∧ fX7_pack a1 (bz a2) IM JM = some (r, IM', JM') ∧ V IC' IM' JM'
set_option maxHeartbeats 4000000 in
set_option maxRecDepth 100000 in
theorem law_21 {p : Program} {l : Launch} {e : Env} {s : State} {m : MethodId} {args : Array Value} {below : List Frame} {meth : Method} {c : Code} {Q : State → Prop} {G : gG} {S0 b Ln : Nat} {xs : Nat → Int32} {V : gV} (K : gLw G S0 b Ln xs p s m args c) {i : Nat} (hi : i + 6 ≤ Ln) (hst : st_21 V) (hnext : ∀ (IC IM : gI) (JM : gJ) (H : Heap) (locs : List Loc), V IC IM JM → gTw G S0 s IC IM JM H locs → ∀ (ls : Array Slot), lv_has ls 4 [(0, .ref b), (1, .ref (gad S0 0)), (2, .ref (gad (S0 + 328) 0)), (3, .int (nI i))] → W p l e room_1 s m args below meth c H locs 341 15174 Q (F0 m 1916 ls [])) : ∀ (IC IM : gI) (JM : gJ) (H : Heap) (locs : List Loc), V IC IM JM → gTw G S0 s IC IM JM H locs → ∀ (ls : Array Slot), lv_has ls 4 [(0, .ref b), (1, .ref (gad S0 0)), (2, .ref (gad (S0 + 328) 0)), (3, .int (nI i))] → W p l e room_1 s m args below meth c H locs 341 15174 Q (F0 m 889 ls []) := by
  have hx := K.1.1; have hb := K.1.2.1
  intro IC IM JM H locs hV hT ls hl
  obtain ⟨r, IC', IM', JM', h1, h2, hV2⟩ := hst (xs (i + 1)) (xs (i + 2)) IC IM JM hV
  refine lv_aload_n hx hb dL_law_889 rfl (lv_at hl 1 rfl) ?_
  refine lv_aload_n hx hb dL_law_890 rfl (lv_at hl 0 rfl) ?_
  refine lv_iload_n hx hb dL_law_891 rfl (lv_at hl 3 rfl) ?_
  refine lv_iconst (v := (1 : Int32)) hx hb dL_law_892 (by decide) ?_
  refine lv_iadd hx hb dL_law_893 ?_
  refine w_sld K hT (n := 1) rfl (by omega) dL_law_894 ?_
  refine lv_aload_n hx hb dL_law_895 rfl (lv_at hl 0 rfl) ?_
  refine lv_iload_n hx hb dL_law_896 rfl (lv_at hl 3 rfl) ?_
  refine lv_iconst (v := (2 : Int32)) hx hb dL_law_897 (by decide) ?_
  refine lv_iadd hx hb dL_law_898 ?_
  refine w_sld K hT (n := 2) rfl (by omega) dL_law_899 ?_
  refine w_bool K dL_law_900 dL_law_903 dL_law_904 dL_law_907 ?_
  refine w_callCi (rest := []) K hT hl (kX6_pack (l := l) (G := G) (ad := gad S0) gInj_gad (xs (i + 1)) (bz (xs (i + 2))) IC J00 r IC' h1) kLC_0 rfl (gG_V q_898 q_899 q_900 q_133 q_901) nm_X6_pack ⟨Nat.le_of_ble_eq_true rfl, Nat.le_of_ble_eq_true rfl⟩ rfl rfl (Nat.le_of_ble_eq_true rfl) ⟨Nat.le_of_ble_eq_true rfl, Nat.le_of_ble_eq_true rfl⟩ dL_law_908 (fun H locs hT => ?_)
  refine lv_aload_n hx hb dL_law_911 rfl (lv_at hl 2 rfl) ?_
  refine lv_aload_n hx hb dL_law_912 rfl (lv_at hl 0 rfl) ?_
  refine lv_iload_n hx hb dL_law_913 rfl (lv_at hl 3 rfl) ?_
  refine lv_iconst (v := (1 : Int32)) hx hb dL_law_914 (by decide) ?_
  refine lv_iadd hx hb dL_law_915 ?_
  refine w_sld K hT (n := 1) rfl (by omega) dL_law_916 ?_
  refine lv_aload_n hx hb dL_law_917 rfl (lv_at hl 0 rfl) ?_
  refine lv_iload_n hx hb dL_law_918 rfl (lv_at hl 3 rfl) ?_
  refine lv_iconst (v := (2 : Int32)) hx hb dL_law_919 (by decide) ?_
  refine lv_iadd hx hb dL_law_920 ?_
  refine w_sld K hT (n := 2) rfl (by omega) dL_law_921 ?_
  refine w_bool K dL_law_922 dL_law_925 dL_law_926 dL_law_929 ?_
  refine w_callMi (rest := [.int r]) K hT hl (kX7_pack (l := l) (G := G) (ad := gad (S0 + 328)) gInj_gad (xs (i + 1)) (bz (xs (i + 2))) IM JM r IM' JM' h2) kLM_0 rfl (gG_V q_1605 q_1606 q_1607 q_139 q_1608) nm_X7_pack ⟨Nat.le_of_ble_eq_true rfl, Nat.le_of_ble_eq_true rfl⟩ rfl rfl (Nat.le_of_ble_eq_true rfl) ⟨Nat.le_of_ble_eq_true rfl, Nat.le_of_ble_eq_true rfl⟩ dL_law_930 (fun H locs hT => ?_)
  refine lv_icmp_eq (tgt := 1916) hx hb dL_law_933 (by decide) (fun _ => ?_) (fun c1 => absurd rfl c1)
  exact hnext _ _ _ _ _ hV2 hT _ hl
def st_22 (V : gV) : Prop := ∀ (a1 a2 : Int32) (IC IM : gI) (JM : gJ), V IC IM JM → ∃ (r : Int32) (IC' : gI) (IM' : gI) (JM' : gJ), fX6_see a1 a2 IC = some (r, IC') ∧ fX7_see a1 a2 IM JM = some (r, IM', JM') ∧ V IC' IM' JM'
set_option maxHeartbeats 4000000 in
set_option maxRecDepth 100000 in
theorem law_22 {p : Program} {l : Launch} {e : Env} {s : State} {m : MethodId} {args : Array Value} {below : List Frame} {meth : Method} {c : Code} {Q : State → Prop} {G : gG} {S0 b Ln : Nat} {xs : Nat → Int32} {V : gV} (K : gLw G S0 b Ln xs p s m args c) {i : Nat} (hi : i + 6 ≤ Ln) (hst : st_22 V) (hnext : ∀ (IC IM : gI) (JM : gJ) (H : Heap) (locs : List Loc), V IC IM JM → gTw G S0 s IC IM JM H locs → ∀ (ls : Array Slot), lv_has ls 4 [(0, .ref b), (1, .ref (gad S0 0)), (2, .ref (gad (S0 + 328) 0)), (3, .int (nI i))] → W p l e room_1 s m args below meth c H locs 341 15174 Q (F0 m 1916 ls [])) : ∀ (IC IM : gI) (JM : gJ) (H : Heap) (locs : List Loc), V IC IM JM → gTw G S0 s IC IM JM H locs → ∀ (ls : Array Slot), lv_has ls 4 [(0, .ref b), (1, .ref (gad S0 0)), (2, .ref (gad (S0 + 328) 0)), (3, .int (nI i))] → W p l e room_1 s m args below meth c H locs 341 15174 Q (F0 m 938 ls []) := by
  have hx := K.1.1; have hb := K.1.2.1
  intro IC IM JM H locs hV hT ls hl
  obtain ⟨r, IC', IM', JM', h1, h2, hV2⟩ := hst (xs (i + 1)) (xs (i + 2)) IC IM JM hV
  refine lv_aload_n hx hb dL_law_938 rfl (lv_at hl 1 rfl) ?_
  refine lv_aload_n hx hb dL_law_939 rfl (lv_at hl 0 rfl) ?_
  refine lv_iload_n hx hb dL_law_940 rfl (lv_at hl 3 rfl) ?_
  refine lv_iconst (v := (1 : Int32)) hx hb dL_law_941 (by decide) ?_
  refine lv_iadd hx hb dL_law_942 ?_
  refine w_sld K hT (n := 1) rfl (by omega) dL_law_943 ?_
  refine lv_aload_n hx hb dL_law_944 rfl (lv_at hl 0 rfl) ?_
  refine lv_iload_n hx hb dL_law_945 rfl (lv_at hl 3 rfl) ?_
  refine lv_iconst (v := (2 : Int32)) hx hb dL_law_946 (by decide) ?_
  refine lv_iadd hx hb dL_law_947 ?_
  refine w_sld K hT (n := 2) rfl (by omega) dL_law_948 ?_
  refine w_callCi (rest := []) K hT hl (kX6_see (l := l) (G := G) (ad := gad S0) gInj_gad (xs (i + 1)) (xs (i + 2)) IC J00 r IC' h1) kLC_0 rfl (gG_V q_914 q_915 q_916 q_133 q_917) nm_X6_see ⟨Nat.le_of_ble_eq_true rfl, Nat.le_of_ble_eq_true rfl⟩ rfl rfl (Nat.le_of_ble_eq_true rfl) ⟨Nat.le_of_ble_eq_true rfl, Nat.le_of_ble_eq_true rfl⟩ dL_law_949 (fun H locs hT => ?_)
  refine lv_aload_n hx hb dL_law_952 rfl (lv_at hl 2 rfl) ?_
  refine lv_aload_n hx hb dL_law_953 rfl (lv_at hl 0 rfl) ?_
  refine lv_iload_n hx hb dL_law_954 rfl (lv_at hl 3 rfl) ?_
  refine lv_iconst (v := (1 : Int32)) hx hb dL_law_955 (by decide) ?_
  refine lv_iadd hx hb dL_law_956 ?_
  refine w_sld K hT (n := 1) rfl (by omega) dL_law_957 ?_
  refine lv_aload_n hx hb dL_law_958 rfl (lv_at hl 0 rfl) ?_
  refine lv_iload_n hx hb dL_law_959 rfl (lv_at hl 3 rfl) ?_
  refine lv_iconst (v := (2 : Int32)) hx hb dL_law_960 (by decide) ?_
  refine lv_iadd hx hb dL_law_961 ?_
  refine w_sld K hT (n := 2) rfl (by omega) dL_law_962 ?_
  refine w_callMi (rest := [.int r]) K hT hl (kX7_see (l := l) (G := G) (ad := gad (S0 + 328)) gInj_gad (xs (i + 1)) (xs (i + 2)) IM JM r IM' JM' h2) kLM_0 rfl (gG_V q_1617 q_1618 q_1619 q_139 q_1620) nm_X7_see ⟨Nat.le_of_ble_eq_true rfl, Nat.le_of_ble_eq_true rfl⟩ rfl rfl (Nat.le_of_ble_eq_true rfl) ⟨Nat.le_of_ble_eq_true rfl, Nat.le_of_ble_eq_true rfl⟩ dL_law_963 (fun H locs hT => ?_)
  refine lv_icmp_eq (tgt := 1916) hx hb dL_law_966 (by decide) (fun _ => ?_) (fun c1 => absurd rfl c1)
  exact hnext _ _ _ _ _ hV2 hT _ hl
def st_23 (V : gV) : Prop := ∀ (a1 a2 : Int32) (IC IM : gI) (JM : gJ), V IC IM JM → ∃ (r : Int64), fX6_hope a1 (bz a2) IC = some r ∧ fX7_hope a1 (bz a2) IM = some r ∧ V IC IM JM
set_option maxHeartbeats 4000000 in
set_option maxRecDepth 100000 in
theorem law_23 {p : Program} {l : Launch} {e : Env} {s : State} {m : MethodId} {args : Array Value} {below : List Frame} {meth : Method} {c : Code} {Q : State → Prop} {G : gG} {S0 b Ln : Nat} {xs : Nat → Int32} {V : gV} (K : gLw G S0 b Ln xs p s m args c) {i : Nat} (hi : i + 6 ≤ Ln) (hst : st_23 V) (hnext : ∀ (IC IM : gI) (JM : gJ) (H : Heap) (locs : List Loc), V IC IM JM → gTw G S0 s IC IM JM H locs → ∀ (ls : Array Slot), lv_has ls 4 [(0, .ref b), (1, .ref (gad S0 0)), (2, .ref (gad (S0 + 328) 0)), (3, .int (nI i))] → W p l e room_1 s m args below meth c H locs 341 15174 Q (F0 m 1916 ls [])) : ∀ (IC IM : gI) (JM : gJ) (H : Heap) (locs : List Loc), V IC IM JM → gTw G S0 s IC IM JM H locs → ∀ (ls : Array Slot), lv_has ls 4 [(0, .ref b), (1, .ref (gad S0 0)), (2, .ref (gad (S0 + 328) 0)), (3, .int (nI i))] → W p l e room_1 s m args below meth c H locs 341 15174 Q (F0 m 971 ls []) := by
  have hx := K.1.1; have hb := K.1.2.1
  intro IC IM JM H locs hV hT ls hl
  obtain ⟨r, h1, h2, hV2⟩ := hst (xs (i + 1)) (xs (i + 2)) IC IM JM hV
  refine lv_aload_n hx hb dL_law_971 rfl (lv_at hl 1 rfl) ?_
  refine lv_aload_n hx hb dL_law_972 rfl (lv_at hl 0 rfl) ?_
  refine lv_iload_n hx hb dL_law_973 rfl (lv_at hl 3 rfl) ?_
  refine lv_iconst (v := (1 : Int32)) hx hb dL_law_974 (by decide) ?_
  refine lv_iadd hx hb dL_law_975 ?_
  refine w_sld K hT (n := 1) rfl (by omega) dL_law_976 ?_
  refine lv_aload_n hx hb dL_law_977 rfl (lv_at hl 0 rfl) ?_
  refine lv_iload_n hx hb dL_law_978 rfl (lv_at hl 3 rfl) ?_
  refine lv_iconst (v := (2 : Int32)) hx hb dL_law_979 (by decide) ?_
  refine lv_iadd hx hb dL_law_980 ?_
  refine w_sld K hT (n := 2) rfl (by omega) dL_law_981 ?_
  refine w_bool K dL_law_982 dL_law_985 dL_law_986 dL_law_989 ?_
  refine w_callCl (rest := []) K hT hl (kX6_hope (l := l) (G := G) (ad := gad S0) gInj_gad (xs (i + 1)) (bz (xs (i + 2))) IC J00 r h1) kLC_0 rfl (gG_V q_935 q_936 q_937 q_133 q_938) nm_X6_hope ⟨Nat.le_of_ble_eq_true rfl, Nat.le_of_ble_eq_true rfl⟩ rfl rfl (Nat.le_of_ble_eq_true rfl) ⟨Nat.le_of_ble_eq_true rfl, Nat.le_of_ble_eq_true rfl⟩ dL_law_990 (fun H locs hT => ?_)
  refine lv_aload_n hx hb dL_law_993 rfl (lv_at hl 2 rfl) ?_
  refine lv_aload_n hx hb dL_law_994 rfl (lv_at hl 0 rfl) ?_
  refine lv_iload_n hx hb dL_law_995 rfl (lv_at hl 3 rfl) ?_
  refine lv_iconst (v := (1 : Int32)) hx hb dL_law_996 (by decide) ?_
  refine lv_iadd hx hb dL_law_997 ?_
  refine w_sld K hT (n := 1) rfl (by omega) dL_law_998 ?_
  refine lv_aload_n hx hb dL_law_999 rfl (lv_at hl 0 rfl) ?_
  refine lv_iload_n hx hb dL_law_1000 rfl (lv_at hl 3 rfl) ?_
  refine lv_iconst (v := (2 : Int32)) hx hb dL_law_1001 (by decide) ?_
  refine lv_iadd hx hb dL_law_1002 ?_
  refine w_sld K hT (n := 2) rfl (by omega) dL_law_1003 ?_
  refine w_bool K dL_law_1004 dL_law_1007 dL_law_1008 dL_law_1011 ?_
  refine w_callMl (rest := [.long r]) K hT hl (kX7_hope (l := l) (G := G) (ad := gad (S0 + 328)) gInj_gad (xs (i + 1)) (bz (xs (i + 2))) IM JM r h2) kLM_0 rfl (gG_V q_1621 q_1622 q_1623 q_139 q_1624) nm_X7_hope ⟨Nat.le_of_ble_eq_true rfl, Nat.le_of_ble_eq_true rfl⟩ rfl rfl (Nat.le_of_ble_eq_true rfl) ⟨Nat.le_of_ble_eq_true rfl, Nat.le_of_ble_eq_true rfl⟩ dL_law_1012 (fun H locs hT => ?_)
  refine W.lcmp hx hb dL_law_1015 ?_
  refine lv_if_eq (tgt := 1916) hx hb dL_law_1016 (by decide) (fun _ => ?_) (fun c1 => absurd (lg_cmp_self r) c1)
  exact hnext _ _ _ _ _ hV2 hT _ hl
def st_24 (V : gV) : Prop := ∀ (a1 : Int32) (IC IM : gI) (JM : gJ), V IC IM JM → ∃ (r : Int32), fX6_keep a1 IC = some r ∧ fX7_keep a1 IM = some r ∧ V IC IM JM
set_option maxHeartbeats 4000000 in
set_option maxRecDepth 100000 in
theorem law_24 {p : Program} {l : Launch} {e : Env} {s : State} {m : MethodId} {args : Array Value} {below : List Frame} {meth : Method} {c : Code} {Q : State → Prop} {G : gG} {S0 b Ln : Nat} {xs : Nat → Int32} {V : gV} (K : gLw G S0 b Ln xs p s m args c) {i : Nat} (hi : i + 6 ≤ Ln) (hst : st_24 V) (hnext : ∀ (IC IM : gI) (JM : gJ) (H : Heap) (locs : List Loc), V IC IM JM → gTw G S0 s IC IM JM H locs → ∀ (ls : Array Slot), lv_has ls 4 [(0, .ref b), (1, .ref (gad S0 0)), (2, .ref (gad (S0 + 328) 0)), (3, .int (nI i))] → W p l e room_1 s m args below meth c H locs 341 15174 Q (F0 m 1916 ls [])) : ∀ (IC IM : gI) (JM : gJ) (H : Heap) (locs : List Loc), V IC IM JM → gTw G S0 s IC IM JM H locs → ∀ (ls : Array Slot), lv_has ls 4 [(0, .ref b), (1, .ref (gad S0 0)), (2, .ref (gad (S0 + 328) 0)), (3, .int (nI i))] → W p l e room_1 s m args below meth c H locs 341 15174 Q (F0 m 1021 ls []) := by
  have hx := K.1.1; have hb := K.1.2.1
  intro IC IM JM H locs hV hT ls hl
  obtain ⟨r, h1, h2, hV2⟩ := hst (xs (i + 1)) IC IM JM hV
  refine lv_aload_n hx hb dL_law_1021 rfl (lv_at hl 1 rfl) ?_
  refine lv_aload_n hx hb dL_law_1022 rfl (lv_at hl 0 rfl) ?_
  refine lv_iload_n hx hb dL_law_1023 rfl (lv_at hl 3 rfl) ?_
  refine lv_iconst (v := (1 : Int32)) hx hb dL_law_1024 (by decide) ?_
  refine lv_iadd hx hb dL_law_1025 ?_
  refine w_sld K hT (n := 1) rfl (by omega) dL_law_1026 ?_
  refine w_callCi (rest := []) K hT hl (kX6_keep (l := l) (G := G) (ad := gad S0) gInj_gad (xs (i + 1)) IC J00 r h1) kLC_0 rfl (gG_V q_946 q_947 q_948 q_133 q_949) nm_X6_keep ⟨Nat.le_of_ble_eq_true rfl, Nat.le_of_ble_eq_true rfl⟩ rfl rfl (Nat.le_of_ble_eq_true rfl) ⟨Nat.le_of_ble_eq_true rfl, Nat.le_of_ble_eq_true rfl⟩ dL_law_1027 (fun H locs hT => ?_)
  refine lv_aload_n hx hb dL_law_1030 rfl (lv_at hl 2 rfl) ?_
  refine lv_aload_n hx hb dL_law_1031 rfl (lv_at hl 0 rfl) ?_
  refine lv_iload_n hx hb dL_law_1032 rfl (lv_at hl 3 rfl) ?_
  refine lv_iconst (v := (1 : Int32)) hx hb dL_law_1033 (by decide) ?_
  refine lv_iadd hx hb dL_law_1034 ?_
  refine w_sld K hT (n := 1) rfl (by omega) dL_law_1035 ?_
  refine w_callMi (rest := [.int r]) K hT hl (kX7_keep (l := l) (G := G) (ad := gad (S0 + 328)) gInj_gad (xs (i + 1)) IM JM r h2) kLM_0 rfl (gG_V q_1644 q_1645 q_1646 q_139 q_1647) nm_X7_keep ⟨Nat.le_of_ble_eq_true rfl, Nat.le_of_ble_eq_true rfl⟩ rfl rfl (Nat.le_of_ble_eq_true rfl) ⟨Nat.le_of_ble_eq_true rfl, Nat.le_of_ble_eq_true rfl⟩ dL_law_1036 (fun H locs hT => ?_)
  refine lv_icmp_eq (tgt := 1916) hx hb dL_law_1039 (by decide) (fun _ => ?_) (fun c1 => absurd rfl c1)
  exact hnext _ _ _ _ _ hV2 hT _ hl
def st_25 (V : gV) : Prop := ∀ (a1 a2 : Int32) (IC IM : gI) (JM : gJ), V IC IM JM → ∃ (r : Int64), fX6_chance a1 (bz a2) IC = some r ∧ fX7_chance a1 (bz a2) IM = some r ∧ V IC IM JM
set_option maxHeartbeats 4000000 in
set_option maxRecDepth 100000 in
theorem law_25 {p : Program} {l : Launch} {e : Env} {s : State} {m : MethodId} {args : Array Value} {below : List Frame} {meth : Method} {c : Code} {Q : State → Prop} {G : gG} {S0 b Ln : Nat} {xs : Nat → Int32} {V : gV} (K : gLw G S0 b Ln xs p s m args c) {i : Nat} (hi : i + 6 ≤ Ln) (hst : st_25 V) (hnext : ∀ (IC IM : gI) (JM : gJ) (H : Heap) (locs : List Loc), V IC IM JM → gTw G S0 s IC IM JM H locs → ∀ (ls : Array Slot), lv_has ls 4 [(0, .ref b), (1, .ref (gad S0 0)), (2, .ref (gad (S0 + 328) 0)), (3, .int (nI i))] → W p l e room_1 s m args below meth c H locs 341 15174 Q (F0 m 1916 ls [])) : ∀ (IC IM : gI) (JM : gJ) (H : Heap) (locs : List Loc), V IC IM JM → gTw G S0 s IC IM JM H locs → ∀ (ls : Array Slot), lv_has ls 4 [(0, .ref b), (1, .ref (gad S0 0)), (2, .ref (gad (S0 + 328) 0)), (3, .int (nI i))] → W p l e room_1 s m args below meth c H locs 341 15174 Q (F0 m 1044 ls []) := by
  have hx := K.1.1; have hb := K.1.2.1
  intro IC IM JM H locs hV hT ls hl
  obtain ⟨r, h1, h2, hV2⟩ := hst (xs (i + 1)) (xs (i + 2)) IC IM JM hV
  refine lv_aload_n hx hb dL_law_1044 rfl (lv_at hl 1 rfl) ?_
  refine lv_aload_n hx hb dL_law_1045 rfl (lv_at hl 0 rfl) ?_
  refine lv_iload_n hx hb dL_law_1046 rfl (lv_at hl 3 rfl) ?_
  refine lv_iconst (v := (1 : Int32)) hx hb dL_law_1047 (by decide) ?_
  refine lv_iadd hx hb dL_law_1048 ?_
  refine w_sld K hT (n := 1) rfl (by omega) dL_law_1049 ?_
  refine lv_aload_n hx hb dL_law_1050 rfl (lv_at hl 0 rfl) ?_
  refine lv_iload_n hx hb dL_law_1051 rfl (lv_at hl 3 rfl) ?_
  refine lv_iconst (v := (2 : Int32)) hx hb dL_law_1052 (by decide) ?_
  refine lv_iadd hx hb dL_law_1053 ?_
  refine w_sld K hT (n := 2) rfl (by omega) dL_law_1054 ?_
  refine w_bool K dL_law_1055 dL_law_1058 dL_law_1059 dL_law_1062 ?_
  refine w_callCl (rest := []) K hT hl (kX6_chance (l := l) (G := G) (ad := gad S0) gInj_gad (xs (i + 1)) (bz (xs (i + 2))) IC J00 r h1) kLC_0 rfl (gG_V q_950 q_951 q_952 q_133 q_953) nm_X6_chance ⟨Nat.le_of_ble_eq_true rfl, Nat.le_of_ble_eq_true rfl⟩ rfl rfl (Nat.le_of_ble_eq_true rfl) ⟨Nat.le_of_ble_eq_true rfl, Nat.le_of_ble_eq_true rfl⟩ dL_law_1063 (fun H locs hT => ?_)
  refine lv_aload_n hx hb dL_law_1066 rfl (lv_at hl 2 rfl) ?_
  refine lv_aload_n hx hb dL_law_1067 rfl (lv_at hl 0 rfl) ?_
  refine lv_iload_n hx hb dL_law_1068 rfl (lv_at hl 3 rfl) ?_
  refine lv_iconst (v := (1 : Int32)) hx hb dL_law_1069 (by decide) ?_
  refine lv_iadd hx hb dL_law_1070 ?_
  refine w_sld K hT (n := 1) rfl (by omega) dL_law_1071 ?_
  refine lv_aload_n hx hb dL_law_1072 rfl (lv_at hl 0 rfl) ?_
  refine lv_iload_n hx hb dL_law_1073 rfl (lv_at hl 3 rfl) ?_
  refine lv_iconst (v := (2 : Int32)) hx hb dL_law_1074 (by decide) ?_
  refine lv_iadd hx hb dL_law_1075 ?_
  refine w_sld K hT (n := 2) rfl (by omega) dL_law_1076 ?_
  refine w_bool K dL_law_1077 dL_law_1080 dL_law_1081 dL_law_1084 ?_
  refine w_callMl (rest := [.long r]) K hT hl (kX7_chance (l := l) (G := G) (ad := gad (S0 + 328)) gInj_gad (xs (i + 1)) (bz (xs (i + 2))) IM JM r h2) kLM_0 rfl (gG_V q_1648 q_1649 q_1650 q_139 q_1651) nm_X7_chance ⟨Nat.le_of_ble_eq_true rfl, Nat.le_of_ble_eq_true rfl⟩ rfl rfl (Nat.le_of_ble_eq_true rfl) ⟨Nat.le_of_ble_eq_true rfl, Nat.le_of_ble_eq_true rfl⟩ dL_law_1085 (fun H locs hT => ?_)
  refine W.lcmp hx hb dL_law_1088 ?_
  refine lv_if_eq (tgt := 1916) hx hb dL_law_1089 (by decide) (fun _ => ?_) (fun c1 => absurd (lg_cmp_self r) c1)
  exact hnext _ _ _ _ _ hV2 hT _ hl
def st_26 (V : gV) : Prop := ∀ (a1 : Int32) (IC IM : gI) (JM : gJ), V IC IM JM → ∃ (r : Int32), fX6_first a1 IC = some r ∧ fX7_first a1 IM = some r ∧ V IC IM JM
set_option maxHeartbeats 4000000 in
set_option maxRecDepth 100000 in
theorem law_26 {p : Program} {l : Launch} {e : Env} {s : State} {m : MethodId} {args : Array Value} {below : List Frame} {meth : Method} {c : Code} {Q : State → Prop} {G : gG} {S0 b Ln : Nat} {xs : Nat → Int32} {V : gV} (K : gLw G S0 b Ln xs p s m args c) {i : Nat} (hi : i + 6 ≤ Ln) (hst : st_26 V) (hnext : ∀ (IC IM : gI) (JM : gJ) (H : Heap) (locs : List Loc), V IC IM JM → gTw G S0 s IC IM JM H locs → ∀ (ls : Array Slot), lv_has ls 4 [(0, .ref b), (1, .ref (gad S0 0)), (2, .ref (gad (S0 + 328) 0)), (3, .int (nI i))] → W p l e room_1 s m args below meth c H locs 341 15174 Q (F0 m 1916 ls [])) : ∀ (IC IM : gI) (JM : gJ) (H : Heap) (locs : List Loc), V IC IM JM → gTw G S0 s IC IM JM H locs → ∀ (ls : Array Slot), lv_has ls 4 [(0, .ref b), (1, .ref (gad S0 0)), (2, .ref (gad (S0 + 328) 0)), (3, .int (nI i))] → W p l e room_1 s m args below meth c H locs 341 15174 Q (F0 m 1094 ls []) := by
  have hx := K.1.1; have hb := K.1.2.1
  intro IC IM JM H locs hV hT ls hl
  obtain ⟨r, h1, h2, hV2⟩ := hst (xs (i + 1)) IC IM JM hV
  refine lv_aload_n hx hb dL_law_1094 rfl (lv_at hl 1 rfl) ?_
  refine lv_aload_n hx hb dL_law_1095 rfl (lv_at hl 0 rfl) ?_
  refine lv_iload_n hx hb dL_law_1096 rfl (lv_at hl 3 rfl) ?_
  refine lv_iconst (v := (1 : Int32)) hx hb dL_law_1097 (by decide) ?_
  refine lv_iadd hx hb dL_law_1098 ?_
  refine w_sld K hT (n := 1) rfl (by omega) dL_law_1099 ?_
  refine w_callCi (rest := []) K hT hl (kX6_first (l := l) (G := G) (ad := gad S0) gInj_gad (xs (i + 1)) IC J00 r h1) kLC_0 rfl (gG_V q_954 q_955 q_956 q_133 q_957) nm_X6_first ⟨Nat.le_of_ble_eq_true rfl, Nat.le_of_ble_eq_true rfl⟩ rfl rfl (Nat.le_of_ble_eq_true rfl) ⟨Nat.le_of_ble_eq_true rfl, Nat.le_of_ble_eq_true rfl⟩ dL_law_1100 (fun H locs hT => ?_)
  refine lv_aload_n hx hb dL_law_1103 rfl (lv_at hl 2 rfl) ?_
  refine lv_aload_n hx hb dL_law_1104 rfl (lv_at hl 0 rfl) ?_
  refine lv_iload_n hx hb dL_law_1105 rfl (lv_at hl 3 rfl) ?_
  refine lv_iconst (v := (1 : Int32)) hx hb dL_law_1106 (by decide) ?_
  refine lv_iadd hx hb dL_law_1107 ?_
  refine w_sld K hT (n := 1) rfl (by omega) dL_law_1108 ?_
  refine w_callMi (rest := [.int r]) K hT hl (kX7_first (l := l) (G := G) (ad := gad (S0 + 328)) gInj_gad (xs (i + 1)) IM JM r h2) kLM_0 rfl (gG_V q_1652 q_1653 q_1654 q_139 q_1655) nm_X7_first ⟨Nat.le_of_ble_eq_true rfl, Nat.le_of_ble_eq_true rfl⟩ rfl rfl (Nat.le_of_ble_eq_true rfl) ⟨Nat.le_of_ble_eq_true rfl, Nat.le_of_ble_eq_true rfl⟩ dL_law_1109 (fun H locs hT => ?_)
  refine lv_icmp_eq (tgt := 1916) hx hb dL_law_1112 (by decide) (fun _ => ?_) (fun c1 => absurd rfl c1)
  exact hnext _ _ _ _ _ hV2 hT _ hl
def st_27 (V : gV) : Prop := ∀ (a1 a2 : Int32) (IC IM : gI) (JM : gJ), V IC IM JM → ∃ (r : Int32) (IC' : gI) (IM' : gI), fX6_paid a1 (bz a2) IC = (r, IC') ∧ fX7_paid a1 (bz a2) IM = some (r, IM') ∧ V IC' IM' JM
set_option maxHeartbeats 4000000 in
set_option maxRecDepth 100000 in
theorem law_27 {p : Program} {l : Launch} {e : Env} {s : State} {m : MethodId} {args : Array Value} {below : List Frame} {meth : Method} {c : Code} {Q : State → Prop} {G : gG} {S0 b Ln : Nat} {xs : Nat → Int32} {V : gV} (K : gLw G S0 b Ln xs p s m args c) {i : Nat} (hi : i + 6 ≤ Ln) (hst : st_27 V) (hnext : ∀ (IC IM : gI) (JM : gJ) (H : Heap) (locs : List Loc), V IC IM JM → gTw G S0 s IC IM JM H locs → ∀ (ls : Array Slot), lv_has ls 4 [(0, .ref b), (1, .ref (gad S0 0)), (2, .ref (gad (S0 + 328) 0)), (3, .int (nI i))] → W p l e room_1 s m args below meth c H locs 341 15174 Q (F0 m 1916 ls [])) : ∀ (IC IM : gI) (JM : gJ) (H : Heap) (locs : List Loc), V IC IM JM → gTw G S0 s IC IM JM H locs → ∀ (ls : Array Slot), lv_has ls 4 [(0, .ref b), (1, .ref (gad S0 0)), (2, .ref (gad (S0 + 328) 0)), (3, .int (nI i))] → W p l e room_1 s m args below meth c H locs 341 15174 Q (F0 m 1117 ls []) := by
  have hx := K.1.1; have hb := K.1.2.1
  intro IC IM JM H locs hV hT ls hl
  obtain ⟨r, IC', IM', h1, h2, hV2⟩ := hst (xs (i + 1)) (xs (i + 2)) IC IM JM hV
  refine lv_aload_n hx hb dL_law_1117 rfl (lv_at hl 1 rfl) ?_
  refine lv_aload_n hx hb dL_law_1118 rfl (lv_at hl 0 rfl) ?_
  refine lv_iload_n hx hb dL_law_1119 rfl (lv_at hl 3 rfl) ?_
  refine lv_iconst (v := (1 : Int32)) hx hb dL_law_1120 (by decide) ?_
  refine lv_iadd hx hb dL_law_1121 ?_
  refine w_sld K hT (n := 1) rfl (by omega) dL_law_1122 ?_
  refine lv_aload_n hx hb dL_law_1123 rfl (lv_at hl 0 rfl) ?_
  refine lv_iload_n hx hb dL_law_1124 rfl (lv_at hl 3 rfl) ?_
  refine lv_iconst (v := (2 : Int32)) hx hb dL_law_1125 (by decide) ?_
  refine lv_iadd hx hb dL_law_1126 ?_
  refine w_sld K hT (n := 2) rfl (by omega) dL_law_1127 ?_
  refine w_bool K dL_law_1128 dL_law_1131 dL_law_1132 dL_law_1135 ?_
  refine w_callCi (rest := []) K hT hl (kX6_paid (l := l) (G := G) (ad := gad S0) gInj_gad (xs (i + 1)) (bz (xs (i + 2))) IC J00 r IC' h1) kLC_0 rfl (gG_V q_457 q_458 q_459 q_133 q_460) nm_X6_paid ⟨Nat.le_of_ble_eq_true rfl, Nat.le_of_ble_eq_true rfl⟩ rfl rfl (Nat.le_of_ble_eq_true rfl) ⟨Nat.le_of_ble_eq_true rfl, Nat.le_of_ble_eq_true rfl⟩ dL_law_1136 (fun H locs hT => ?_)
  refine lv_aload_n hx hb dL_law_1139 rfl (lv_at hl 2 rfl) ?_
  refine lv_aload_n hx hb dL_law_1140 rfl (lv_at hl 0 rfl) ?_
  refine lv_iload_n hx hb dL_law_1141 rfl (lv_at hl 3 rfl) ?_
  refine lv_iconst (v := (1 : Int32)) hx hb dL_law_1142 (by decide) ?_
  refine lv_iadd hx hb dL_law_1143 ?_
  refine w_sld K hT (n := 1) rfl (by omega) dL_law_1144 ?_
  refine lv_aload_n hx hb dL_law_1145 rfl (lv_at hl 0 rfl) ?_
  refine lv_iload_n hx hb dL_law_1146 rfl (lv_at hl 3 rfl) ?_
  refine lv_iconst (v := (2 : Int32)) hx hb dL_law_1147 (by decide) ?_
  refine lv_iadd hx hb dL_law_1148 ?_
  refine w_sld K hT (n := 2) rfl (by omega) dL_law_1149 ?_
  refine w_bool K dL_law_1150 dL_law_1153 dL_law_1154 dL_law_1157 ?_
  refine w_callMi (rest := [.int r]) K hT hl (kX7_paid (l := l) (G := G) (ad := gad (S0 + 328)) gInj_gad (xs (i + 1)) (bz (xs (i + 2))) IM JM r IM' h2) kLM_0 rfl (gG_V q_1657 q_1658 q_1659 q_139 q_1660) nm_X7_paid ⟨Nat.le_of_ble_eq_true rfl, Nat.le_of_ble_eq_true rfl⟩ rfl rfl (Nat.le_of_ble_eq_true rfl) ⟨Nat.le_of_ble_eq_true rfl, Nat.le_of_ble_eq_true rfl⟩ dL_law_1158 (fun H locs hT => ?_)
  refine lv_icmp_eq (tgt := 1916) hx hb dL_law_1161 (by decide) (fun _ => ?_) (fun c1 => absurd rfl c1)
  exact hnext _ _ _ _ _ hV2 hT _ hl
def st_28 (V : gV) : Prop := ∀ (IC IM : gI) (JM : gJ), V IC IM JM → ∃ (r : Int32), fX6_was IC = some r ∧ fX7_was IM = some r ∧ V IC IM JM
set_option maxHeartbeats 4000000 in
set_option maxRecDepth 100000 in
theorem law_28 {p : Program} {l : Launch} {e : Env} {s : State} {m : MethodId} {args : Array Value} {below : List Frame} {meth : Method} {c : Code} {Q : State → Prop} {G : gG} {S0 b Ln : Nat} {xs : Nat → Int32} {V : gV} (K : gLw G S0 b Ln xs p s m args c) {i : Nat} (hi : i + 6 ≤ Ln) (hst : st_28 V) (hnext : ∀ (IC IM : gI) (JM : gJ) (H : Heap) (locs : List Loc), V IC IM JM → gTw G S0 s IC IM JM H locs → ∀ (ls : Array Slot), lv_has ls 4 [(0, .ref b), (1, .ref (gad S0 0)), (2, .ref (gad (S0 + 328) 0)), (3, .int (nI i))] → W p l e room_1 s m args below meth c H locs 341 15174 Q (F0 m 1916 ls [])) : ∀ (IC IM : gI) (JM : gJ) (H : Heap) (locs : List Loc), V IC IM JM → gTw G S0 s IC IM JM H locs → ∀ (ls : Array Slot), lv_has ls 4 [(0, .ref b), (1, .ref (gad S0 0)), (2, .ref (gad (S0 + 328) 0)), (3, .int (nI i))] → W p l e room_1 s m args below meth c H locs 341 15174 Q (F0 m 1166 ls []) := by
  have hx := K.1.1; have hb := K.1.2.1
  intro IC IM JM H locs hV hT ls hl
  obtain ⟨r, h1, h2, hV2⟩ := hst  IC IM JM hV
  refine lv_aload_n hx hb dL_law_1166 rfl (lv_at hl 1 rfl) ?_
  refine w_callCi (rest := []) K hT hl (kX6_was (l := l) (G := G) (ad := gad S0) gInj_gad IC J00 r h1) kLC_0 rfl (gG_V q_959 q_960 q_961 q_133 q_962) nm_X6_was ⟨Nat.le_of_ble_eq_true rfl, Nat.le_of_ble_eq_true rfl⟩ rfl rfl (Nat.le_of_ble_eq_true rfl) ⟨Nat.le_of_ble_eq_true rfl, Nat.le_of_ble_eq_true rfl⟩ dL_law_1167 (fun H locs hT => ?_)
  refine lv_aload_n hx hb dL_law_1170 rfl (lv_at hl 2 rfl) ?_
  refine w_callMi (rest := [.int r]) K hT hl (kX7_was (l := l) (G := G) (ad := gad (S0 + 328)) gInj_gad IM JM r h2) kLM_0 rfl (gG_V q_1661 q_1662 q_1663 q_139 q_1664) nm_X7_was ⟨Nat.le_of_ble_eq_true rfl, Nat.le_of_ble_eq_true rfl⟩ rfl rfl (Nat.le_of_ble_eq_true rfl) ⟨Nat.le_of_ble_eq_true rfl, Nat.le_of_ble_eq_true rfl⟩ dL_law_1171 (fun H locs hT => ?_)
  refine lv_icmp_eq (tgt := 1916) hx hb dL_law_1174 (by decide) (fun _ => ?_) (fun c1 => absurd rfl c1)
  exact hnext _ _ _ _ _ hV2 hT _ hl
def st_29 (V : gV) : Prop := ∀ (a1 : Int32) (IC IM : gI) (JM : gJ), V IC IM JM → ∃ (r : Int64), fX6_surest (bz a1) IC = some r ∧ fX7_surest (bz a1) IM = some r ∧ V IC IM JM
set_option maxHeartbeats 4000000 in
set_option maxRecDepth 100000 in
theorem law_29 {p : Program} {l : Launch} {e : Env} {s : State} {m : MethodId} {args : Array Value} {below : List Frame} {meth : Method} {c : Code} {Q : State → Prop} {G : gG} {S0 b Ln : Nat} {xs : Nat → Int32} {V : gV} (K : gLw G S0 b Ln xs p s m args c) {i : Nat} (hi : i + 6 ≤ Ln) (hst : st_29 V) (hnext : ∀ (IC IM : gI) (JM : gJ) (H : Heap) (locs : List Loc), V IC IM JM → gTw G S0 s IC IM JM H locs → ∀ (ls : Array Slot), lv_has ls 4 [(0, .ref b), (1, .ref (gad S0 0)), (2, .ref (gad (S0 + 328) 0)), (3, .int (nI i))] → W p l e room_1 s m args below meth c H locs 341 15174 Q (F0 m 1916 ls [])) : ∀ (IC IM : gI) (JM : gJ) (H : Heap) (locs : List Loc), V IC IM JM → gTw G S0 s IC IM JM H locs → ∀ (ls : Array Slot), lv_has ls 4 [(0, .ref b), (1, .ref (gad S0 0)), (2, .ref (gad (S0 + 328) 0)), (3, .int (nI i))] → W p l e room_1 s m args below meth c H locs 341 15174 Q (F0 m 1179 ls []) := by
  have hx := K.1.1; have hb := K.1.2.1
  intro IC IM JM H locs hV hT ls hl
  obtain ⟨r, h1, h2, hV2⟩ := hst (xs (i + 1)) IC IM JM hV
  refine lv_aload_n hx hb dL_law_1179 rfl (lv_at hl 1 rfl) ?_
  refine lv_aload_n hx hb dL_law_1180 rfl (lv_at hl 0 rfl) ?_
  refine lv_iload_n hx hb dL_law_1181 rfl (lv_at hl 3 rfl) ?_
  refine lv_iconst (v := (1 : Int32)) hx hb dL_law_1182 (by decide) ?_
  refine lv_iadd hx hb dL_law_1183 ?_
  refine w_sld K hT (n := 1) rfl (by omega) dL_law_1184 ?_
  refine w_bool K dL_law_1185 dL_law_1188 dL_law_1189 dL_law_1192 ?_
  refine w_callCl (rest := []) K hT hl (kX6_surest (l := l) (G := G) (ad := gad S0) gInj_gad (bz (xs (i + 1))) IC J00 r h1) kLC_0 rfl (gG_V q_968 q_969 q_970 q_133 q_971) nm_X6_surest ⟨Nat.le_of_ble_eq_true rfl, Nat.le_of_ble_eq_true rfl⟩ rfl rfl (Nat.le_of_ble_eq_true rfl) ⟨Nat.le_of_ble_eq_true rfl, Nat.le_of_ble_eq_true rfl⟩ dL_law_1193 (fun H locs hT => ?_)
  refine lv_aload_n hx hb dL_law_1196 rfl (lv_at hl 2 rfl) ?_
  refine lv_aload_n hx hb dL_law_1197 rfl (lv_at hl 0 rfl) ?_
  refine lv_iload_n hx hb dL_law_1198 rfl (lv_at hl 3 rfl) ?_
  refine lv_iconst (v := (1 : Int32)) hx hb dL_law_1199 (by decide) ?_
  refine lv_iadd hx hb dL_law_1200 ?_
  refine w_sld K hT (n := 1) rfl (by omega) dL_law_1201 ?_
  refine w_bool K dL_law_1202 dL_law_1205 dL_law_1206 dL_law_1209 ?_
  refine w_callMl (rest := [.long r]) K hT hl (kX7_surest (l := l) (G := G) (ad := gad (S0 + 328)) gInj_gad (bz (xs (i + 1))) IM JM r h2) kLM_0 rfl (gG_V q_1681 q_1682 q_1683 q_139 q_1684) nm_X7_surest ⟨Nat.le_of_ble_eq_true rfl, Nat.le_of_ble_eq_true rfl⟩ rfl rfl (Nat.le_of_ble_eq_true rfl) ⟨Nat.le_of_ble_eq_true rfl, Nat.le_of_ble_eq_true rfl⟩ dL_law_1210 (fun H locs hT => ?_)
  refine W.lcmp hx hb dL_law_1213 ?_
  refine lv_if_eq (tgt := 1916) hx hb dL_law_1214 (by decide) (fun _ => ?_) (fun c1 => absurd (lg_cmp_self r) c1)
  exact hnext _ _ _ _ _ hV2 hT _ hl
def st_30 (V : gV) : Prop := ∀ (IC IM : gI) (JM : gJ), V IC IM JM → ∃ (r : Int32), fX6_likeliest IC = some r ∧ fX7_likeliest IM = some r ∧ V IC IM JM
set_option maxHeartbeats 4000000 in
set_option maxRecDepth 100000 in
theorem law_30 {p : Program} {l : Launch} {e : Env} {s : State} {m : MethodId} {args : Array Value} {below : List Frame} {meth : Method} {c : Code} {Q : State → Prop} {G : gG} {S0 b Ln : Nat} {xs : Nat → Int32} {V : gV} (K : gLw G S0 b Ln xs p s m args c) {i : Nat} (hi : i + 6 ≤ Ln) (hst : st_30 V) (hnext : ∀ (IC IM : gI) (JM : gJ) (H : Heap) (locs : List Loc), V IC IM JM → gTw G S0 s IC IM JM H locs → ∀ (ls : Array Slot), lv_has ls 4 [(0, .ref b), (1, .ref (gad S0 0)), (2, .ref (gad (S0 + 328) 0)), (3, .int (nI i))] → W p l e room_1 s m args below meth c H locs 341 15174 Q (F0 m 1916 ls [])) : ∀ (IC IM : gI) (JM : gJ) (H : Heap) (locs : List Loc), V IC IM JM → gTw G S0 s IC IM JM H locs → ∀ (ls : Array Slot), lv_has ls 4 [(0, .ref b), (1, .ref (gad S0 0)), (2, .ref (gad (S0 + 328) 0)), (3, .int (nI i))] → W p l e room_1 s m args below meth c H locs 341 15174 Q (F0 m 1219 ls []) := by
  have hx := K.1.1; have hb := K.1.2.1
  intro IC IM JM H locs hV hT ls hl
  obtain ⟨r, h1, h2, hV2⟩ := hst  IC IM JM hV
  refine lv_aload_n hx hb dL_law_1219 rfl (lv_at hl 1 rfl) ?_
  refine w_callCi (rest := []) K hT hl (kX6_likeliest (l := l) (G := G) (ad := gad S0) gInj_gad IC J00 r h1) kLC_0 rfl (gG_V q_963 q_964 q_965 q_133 q_966) nm_X6_likeliest ⟨Nat.le_of_ble_eq_true rfl, Nat.le_of_ble_eq_true rfl⟩ rfl rfl (Nat.le_of_ble_eq_true rfl) ⟨Nat.le_of_ble_eq_true rfl, Nat.le_of_ble_eq_true rfl⟩ dL_law_1220 (fun H locs hT => ?_)
  refine lv_aload_n hx hb dL_law_1223 rfl (lv_at hl 2 rfl) ?_
  refine w_callMi (rest := [.int r]) K hT hl (kX7_likeliest (l := l) (G := G) (ad := gad (S0 + 328)) gInj_gad IM JM r h2) kLM_0 rfl (gG_V q_1673 q_1674 q_1675 q_139 q_1676) nm_X7_likeliest ⟨Nat.le_of_ble_eq_true rfl, Nat.le_of_ble_eq_true rfl⟩ rfl rfl (Nat.le_of_ble_eq_true rfl) ⟨Nat.le_of_ble_eq_true rfl, Nat.le_of_ble_eq_true rfl⟩ dL_law_1224 (fun H locs hT => ?_)
  refine lv_icmp_eq (tgt := 1916) hx hb dL_law_1227 (by decide) (fun _ => ?_) (fun c1 => absurd rfl c1)
  exact hnext _ _ _ _ _ hV2 hT _ hl
def st_31 (V : gV) : Prop := ∀ (IC IM : gI) (JM : gJ), V IC IM JM → ∃ (r : Int32), fX6_ask IC = some r ∧ fX7_ask IM = some r ∧ V IC IM JM
set_option maxHeartbeats 4000000 in
set_option maxRecDepth 100000 in
theorem law_31 {p : Program} {l : Launch} {e : Env} {s : State} {m : MethodId} {args : Array Value} {below : List Frame} {meth : Method} {c : Code} {Q : State → Prop} {G : gG} {S0 b Ln : Nat} {xs : Nat → Int32} {V : gV} (K : gLw G S0 b Ln xs p s m args c) {i : Nat} (hi : i + 6 ≤ Ln) (hst : st_31 V) (hnext : ∀ (IC IM : gI) (JM : gJ) (H : Heap) (locs : List Loc), V IC IM JM → gTw G S0 s IC IM JM H locs → ∀ (ls : Array Slot), lv_has ls 4 [(0, .ref b), (1, .ref (gad S0 0)), (2, .ref (gad (S0 + 328) 0)), (3, .int (nI i))] → W p l e room_1 s m args below meth c H locs 341 15174 Q (F0 m 1916 ls [])) : ∀ (IC IM : gI) (JM : gJ) (H : Heap) (locs : List Loc), V IC IM JM → gTw G S0 s IC IM JM H locs → ∀ (ls : Array Slot), lv_has ls 4 [(0, .ref b), (1, .ref (gad S0 0)), (2, .ref (gad (S0 + 328) 0)), (3, .int (nI i))] → W p l e room_1 s m args below meth c H locs 341 15174 Q (F0 m 1232 ls []) := by
  have hx := K.1.1; have hb := K.1.2.1
  intro IC IM JM H locs hV hT ls hl
  obtain ⟨r, h1, h2, hV2⟩ := hst  IC IM JM hV
  refine lv_aload_n hx hb dL_law_1232 rfl (lv_at hl 1 rfl) ?_
  refine w_callCi (rest := []) K hT hl (kX6_ask (l := l) (G := G) (ad := gad S0) gInj_gad IC J00 r h1) kLC_0 rfl (gG_V q_977 q_978 q_979 q_133 q_980) nm_X6_ask ⟨Nat.le_of_ble_eq_true rfl, Nat.le_of_ble_eq_true rfl⟩ rfl rfl (Nat.le_of_ble_eq_true rfl) ⟨Nat.le_of_ble_eq_true rfl, Nat.le_of_ble_eq_true rfl⟩ dL_law_1233 (fun H locs hT => ?_)
  refine lv_aload_n hx hb dL_law_1236 rfl (lv_at hl 2 rfl) ?_
  refine w_callMi (rest := [.int r]) K hT hl (kX7_ask (l := l) (G := G) (ad := gad (S0 + 328)) gInj_gad IM JM r h2) kLM_0 rfl (gG_V q_1689 q_1690 q_1691 q_139 q_1692) nm_X7_ask ⟨Nat.le_of_ble_eq_true rfl, Nat.le_of_ble_eq_true rfl⟩ rfl rfl (Nat.le_of_ble_eq_true rfl) ⟨Nat.le_of_ble_eq_true rfl, Nat.le_of_ble_eq_true rfl⟩ dL_law_1237 (fun H locs hT => ?_)
  refine lv_icmp_eq (tgt := 1916) hx hb dL_law_1240 (by decide) (fun _ => ?_) (fun c1 => absurd rfl c1)
  exact hnext _ _ _ _ _ hV2 hT _ hl
def st_32 (V : gV) : Prop := ∀ (a1 a2 : Int32) (IC IM : gI) (JM : gJ), V IC IM JM → ∃ (r : Int32) (IC' : gI) (IM' : gI) (JM' : gJ), fX6_auction a1 a2 IC = some (r, IC') ∧ fX7_auction a1 a2 IM JM = some (r, IM', JM') ∧ V IC' IM' JM'
set_option maxHeartbeats 4000000 in
set_option maxRecDepth 100000 in
theorem law_32 {p : Program} {l : Launch} {e : Env} {s : State} {m : MethodId} {args : Array Value} {below : List Frame} {meth : Method} {c : Code} {Q : State → Prop} {G : gG} {S0 b Ln : Nat} {xs : Nat → Int32} {V : gV} (K : gLw G S0 b Ln xs p s m args c) {i : Nat} (hi : i + 6 ≤ Ln) (hst : st_32 V) (hnext : ∀ (IC IM : gI) (JM : gJ) (H : Heap) (locs : List Loc), V IC IM JM → gTw G S0 s IC IM JM H locs → ∀ (ls : Array Slot), lv_has ls 4 [(0, .ref b), (1, .ref (gad S0 0)), (2, .ref (gad (S0 + 328) 0)), (3, .int (nI i))] → W p l e room_1 s m args below meth c H locs 341 15174 Q (F0 m 1916 ls [])) : ∀ (IC IM : gI) (JM : gJ) (H : Heap) (locs : List Loc), V IC IM JM → gTw G S0 s IC IM JM H locs → ∀ (ls : Array Slot), lv_has ls 4 [(0, .ref b), (1, .ref (gad S0 0)), (2, .ref (gad (S0 + 328) 0)), (3, .int (nI i))] → W p l e room_1 s m args below meth c H locs 341 15174 Q (F0 m 1245 ls []) := by
  have hx := K.1.1; have hb := K.1.2.1
  intro IC IM JM H locs hV hT ls hl
  obtain ⟨r, IC', IM', JM', h1, h2, hV2⟩ := hst (xs (i + 1)) (xs (i + 2)) IC IM JM hV
  refine lv_aload_n hx hb dL_law_1245 rfl (lv_at hl 1 rfl) ?_
  refine lv_aload_n hx hb dL_law_1246 rfl (lv_at hl 0 rfl) ?_
  refine lv_iload_n hx hb dL_law_1247 rfl (lv_at hl 3 rfl) ?_
  refine lv_iconst (v := (1 : Int32)) hx hb dL_law_1248 (by decide) ?_
  refine lv_iadd hx hb dL_law_1249 ?_
  refine w_sld K hT (n := 1) rfl (by omega) dL_law_1250 ?_
  refine lv_aload_n hx hb dL_law_1251 rfl (lv_at hl 0 rfl) ?_
  refine lv_iload_n hx hb dL_law_1252 rfl (lv_at hl 3 rfl) ?_
  refine lv_iconst (v := (2 : Int32)) hx hb dL_law_1253 (by decide) ?_
  refine lv_iadd hx hb dL_law_1254 ?_
  refine w_sld K hT (n := 2) rfl (by omega) dL_law_1255 ?_
  refine w_callCi (rest := []) K hT hl (kX6_auction (l := l) (G := G) (ad := gad S0) gInj_gad (xs (i + 1)) (xs (i + 2)) IC J00 r IC' h1) kLC_0 rfl (gG_V q_981 q_982 q_983 q_133 q_984) nm_X6_auction ⟨Nat.le_of_ble_eq_true rfl, Nat.le_of_ble_eq_true rfl⟩ rfl rfl (Nat.le_of_ble_eq_true rfl) ⟨Nat.le_of_ble_eq_true rfl, Nat.le_of_ble_eq_true rfl⟩ dL_law_1256 (fun H locs hT => ?_)
  refine lv_aload_n hx hb dL_law_1259 rfl (lv_at hl 2 rfl) ?_
  refine lv_aload_n hx hb dL_law_1260 rfl (lv_at hl 0 rfl) ?_
  refine lv_iload_n hx hb dL_law_1261 rfl (lv_at hl 3 rfl) ?_
  refine lv_iconst (v := (1 : Int32)) hx hb dL_law_1262 (by decide) ?_
  refine lv_iadd hx hb dL_law_1263 ?_
  refine w_sld K hT (n := 1) rfl (by omega) dL_law_1264 ?_
  refine lv_aload_n hx hb dL_law_1265 rfl (lv_at hl 0 rfl) ?_
  refine lv_iload_n hx hb dL_law_1266 rfl (lv_at hl 3 rfl) ?_
  refine lv_iconst (v := (2 : Int32)) hx hb dL_law_1267 (by decide) ?_
  refine lv_iadd hx hb dL_law_1268 ?_
  refine w_sld K hT (n := 2) rfl (by omega) dL_law_1269 ?_
  refine w_callMi (rest := [.int r]) K hT hl (kX7_auction (l := l) (G := G) (ad := gad (S0 + 328)) gInj_gad (xs (i + 1)) (xs (i + 2)) IM JM r IM' JM' h2) kLM_0 rfl (gG_V q_1697 q_1698 q_1699 q_139 q_1700) nm_X7_auction ⟨Nat.le_of_ble_eq_true rfl, Nat.le_of_ble_eq_true rfl⟩ rfl rfl (Nat.le_of_ble_eq_true rfl) ⟨Nat.le_of_ble_eq_true rfl, Nat.le_of_ble_eq_true rfl⟩ dL_law_1270 (fun H locs hT => ?_)
  refine lv_icmp_eq (tgt := 1916) hx hb dL_law_1273 (by decide) (fun _ => ?_) (fun c1 => absurd rfl c1)
  exact hnext _ _ _ _ _ hV2 hT _ hl
def st_33 (V : gV) : Prop := ∀ (a1 : Int32) (IC IM : gI) (JM : gJ), V IC IM JM → ∃ (r : Int32), fX6_stab (bz a1) IC = some r ∧ fX7_stab (bz a1) IM = some r ∧ V IC IM JM
set_option maxHeartbeats 4000000 in
set_option maxRecDepth 100000 in
theorem law_33 {p : Program} {l : Launch} {e : Env} {s : State} {m : MethodId} {args : Array Value} {below : List Frame} {meth : Method} {c : Code} {Q : State → Prop} {G : gG} {S0 b Ln : Nat} {xs : Nat → Int32} {V : gV} (K : gLw G S0 b Ln xs p s m args c) {i : Nat} (hi : i + 6 ≤ Ln) (hst : st_33 V) (hnext : ∀ (IC IM : gI) (JM : gJ) (H : Heap) (locs : List Loc), V IC IM JM → gTw G S0 s IC IM JM H locs → ∀ (ls : Array Slot), lv_has ls 4 [(0, .ref b), (1, .ref (gad S0 0)), (2, .ref (gad (S0 + 328) 0)), (3, .int (nI i))] → W p l e room_1 s m args below meth c H locs 341 15174 Q (F0 m 1916 ls [])) : ∀ (IC IM : gI) (JM : gJ) (H : Heap) (locs : List Loc), V IC IM JM → gTw G S0 s IC IM JM H locs → ∀ (ls : Array Slot), lv_has ls 4 [(0, .ref b), (1, .ref (gad S0 0)), (2, .ref (gad (S0 + 328) 0)), (3, .int (nI i))] → W p l e room_1 s m args below meth c H locs 341 15174 Q (F0 m 1278 ls []) := by
  have hx := K.1.1; have hb := K.1.2.1
  intro IC IM JM H locs hV hT ls hl
  obtain ⟨r, h1, h2, hV2⟩ := hst (xs (i + 1)) IC IM JM hV
  refine lv_aload_n hx hb dL_law_1278 rfl (lv_at hl 1 rfl) ?_
  refine lv_aload_n hx hb dL_law_1279 rfl (lv_at hl 0 rfl) ?_
  refine lv_iload_n hx hb dL_law_1280 rfl (lv_at hl 3 rfl) ?_
  refine lv_iconst (v := (1 : Int32)) hx hb dL_law_1281 (by decide) ?_
  refine lv_iadd hx hb dL_law_1282 ?_
  refine w_sld K hT (n := 1) rfl (by omega) dL_law_1283 ?_
  refine w_bool K dL_law_1284 dL_law_1287 dL_law_1288 dL_law_1291 ?_
  refine w_callCi (rest := []) K hT hl (kX6_stab (l := l) (G := G) (ad := gad S0) gInj_gad (bz (xs (i + 1))) IC J00 r h1) kLC_0 rfl (gG_V q_989 q_990 q_991 q_133 q_992) nm_X6_stab ⟨Nat.le_of_ble_eq_true rfl, Nat.le_of_ble_eq_true rfl⟩ rfl rfl (Nat.le_of_ble_eq_true rfl) ⟨Nat.le_of_ble_eq_true rfl, Nat.le_of_ble_eq_true rfl⟩ dL_law_1292 (fun H locs hT => ?_)
  refine lv_aload_n hx hb dL_law_1295 rfl (lv_at hl 2 rfl) ?_
  refine lv_aload_n hx hb dL_law_1296 rfl (lv_at hl 0 rfl) ?_
  refine lv_iload_n hx hb dL_law_1297 rfl (lv_at hl 3 rfl) ?_
  refine lv_iconst (v := (1 : Int32)) hx hb dL_law_1298 (by decide) ?_
  refine lv_iadd hx hb dL_law_1299 ?_
  refine w_sld K hT (n := 1) rfl (by omega) dL_law_1300 ?_
  refine w_bool K dL_law_1301 dL_law_1304 dL_law_1305 dL_law_1308 ?_
  refine w_callMi (rest := [.int r]) K hT hl (kX7_stab (l := l) (G := G) (ad := gad (S0 + 328)) gInj_gad (bz (xs (i + 1))) IM JM r h2) kLM_0 rfl (gG_V q_1713 q_1714 q_1715 q_139 q_1716) nm_X7_stab ⟨Nat.le_of_ble_eq_true rfl, Nat.le_of_ble_eq_true rfl⟩ rfl rfl (Nat.le_of_ble_eq_true rfl) ⟨Nat.le_of_ble_eq_true rfl, Nat.le_of_ble_eq_true rfl⟩ dL_law_1309 (fun H locs hT => ?_)
  refine lv_icmp_eq (tgt := 1916) hx hb dL_law_1312 (by decide) (fun _ => ?_) (fun c1 => absurd rfl c1)
  exact hnext _ _ _ _ _ hV2 hT _ hl
def st_34 (V : gV) : Prop := ∀ (a1 : Int32) (IC IM : gI) (JM : gJ), V IC IM JM → ∃ (r : Int32), fX6_crowd (bz a1) IC = some r ∧ fX7_crowd (bz a1) IM = some r ∧ V IC IM JM
set_option maxHeartbeats 4000000 in
set_option maxRecDepth 100000 in
theorem law_34 {p : Program} {l : Launch} {e : Env} {s : State} {m : MethodId} {args : Array Value} {below : List Frame} {meth : Method} {c : Code} {Q : State → Prop} {G : gG} {S0 b Ln : Nat} {xs : Nat → Int32} {V : gV} (K : gLw G S0 b Ln xs p s m args c) {i : Nat} (hi : i + 6 ≤ Ln) (hst : st_34 V) (hnext : ∀ (IC IM : gI) (JM : gJ) (H : Heap) (locs : List Loc), V IC IM JM → gTw G S0 s IC IM JM H locs → ∀ (ls : Array Slot), lv_has ls 4 [(0, .ref b), (1, .ref (gad S0 0)), (2, .ref (gad (S0 + 328) 0)), (3, .int (nI i))] → W p l e room_1 s m args below meth c H locs 341 15174 Q (F0 m 1916 ls [])) : ∀ (IC IM : gI) (JM : gJ) (H : Heap) (locs : List Loc), V IC IM JM → gTw G S0 s IC IM JM H locs → ∀ (ls : Array Slot), lv_has ls 4 [(0, .ref b), (1, .ref (gad S0 0)), (2, .ref (gad (S0 + 328) 0)), (3, .int (nI i))] → W p l e room_1 s m args below meth c H locs 341 15174 Q (F0 m 1317 ls []) := by
  have hx := K.1.1; have hb := K.1.2.1
  intro IC IM JM H locs hV hT ls hl
  obtain ⟨r, h1, h2, hV2⟩ := hst (xs (i + 1)) IC IM JM hV
  refine lv_aload_n hx hb dL_law_1317 rfl (lv_at hl 1 rfl) ?_
  refine lv_aload_n hx hb dL_law_1318 rfl (lv_at hl 0 rfl) ?_
  refine lv_iload_n hx hb dL_law_1319 rfl (lv_at hl 3 rfl) ?_
  refine lv_iconst (v := (1 : Int32)) hx hb dL_law_1320 (by decide) ?_
  refine lv_iadd hx hb dL_law_1321 ?_
  refine w_sld K hT (n := 1) rfl (by omega) dL_law_1322 ?_
  refine w_bool K dL_law_1323 dL_law_1326 dL_law_1327 dL_law_1330 ?_
  refine w_callCi (rest := []) K hT hl (kX6_crowd (l := l) (G := G) (ad := gad S0) gInj_gad (bz (xs (i + 1))) IC J00 r h1) kLC_0 rfl (gG_V q_993 q_994 q_995 q_133 q_996) nm_X6_crowd ⟨Nat.le_of_ble_eq_true rfl, Nat.le_of_ble_eq_true rfl⟩ rfl rfl (Nat.le_of_ble_eq_true rfl) ⟨Nat.le_of_ble_eq_true rfl, Nat.le_of_ble_eq_true rfl⟩ dL_law_1331 (fun H locs hT => ?_)
  refine lv_aload_n hx hb dL_law_1334 rfl (lv_at hl 2 rfl) ?_
  refine lv_aload_n hx hb dL_law_1335 rfl (lv_at hl 0 rfl) ?_
  refine lv_iload_n hx hb dL_law_1336 rfl (lv_at hl 3 rfl) ?_
  refine lv_iconst (v := (1 : Int32)) hx hb dL_law_1337 (by decide) ?_
  refine lv_iadd hx hb dL_law_1338 ?_
  refine w_sld K hT (n := 1) rfl (by omega) dL_law_1339 ?_
  refine w_bool K dL_law_1340 dL_law_1343 dL_law_1344 dL_law_1347 ?_
  refine w_callMi (rest := [.int r]) K hT hl (kX7_crowd (l := l) (G := G) (ad := gad (S0 + 328)) gInj_gad (bz (xs (i + 1))) IM JM r h2) kLM_0 rfl (gG_V q_1721 q_1722 q_1723 q_139 q_1724) nm_X7_crowd ⟨Nat.le_of_ble_eq_true rfl, Nat.le_of_ble_eq_true rfl⟩ rfl rfl (Nat.le_of_ble_eq_true rfl) ⟨Nat.le_of_ble_eq_true rfl, Nat.le_of_ble_eq_true rfl⟩ dL_law_1348 (fun H locs hT => ?_)
  refine lv_icmp_eq (tgt := 1916) hx hb dL_law_1351 (by decide) (fun _ => ?_) (fun c1 => absurd rfl c1)
  exact hnext _ _ _ _ _ hV2 hT _ hl
def st_35 (V : gV) : Prop := ∀ (a1 : Int32) (IC IM : gI) (JM : gJ), V IC IM JM → ∃ (r : Int32) (IC' : gI) (IM' : gI), fX6_dawns a1 IC = some (r, IC') ∧ fX7_dawns a1 IM = some (r, IM') ∧ V IC' IM' JM
set_option maxHeartbeats 4000000 in
set_option maxRecDepth 100000 in
theorem law_35 {p : Program} {l : Launch} {e : Env} {s : State} {m : MethodId} {args : Array Value} {below : List Frame} {meth : Method} {c : Code} {Q : State → Prop} {G : gG} {S0 b Ln : Nat} {xs : Nat → Int32} {V : gV} (K : gLw G S0 b Ln xs p s m args c) {i : Nat} (hi : i + 6 ≤ Ln) (hst : st_35 V) (hnext : ∀ (IC IM : gI) (JM : gJ) (H : Heap) (locs : List Loc), V IC IM JM → gTw G S0 s IC IM JM H locs → ∀ (ls : Array Slot), lv_has ls 4 [(0, .ref b), (1, .ref (gad S0 0)), (2, .ref (gad (S0 + 328) 0)), (3, .int (nI i))] → W p l e room_1 s m args below meth c H locs 341 15174 Q (F0 m 1916 ls [])) : ∀ (IC IM : gI) (JM : gJ) (H : Heap) (locs : List Loc), V IC IM JM → gTw G S0 s IC IM JM H locs → ∀ (ls : Array Slot), lv_has ls 4 [(0, .ref b), (1, .ref (gad S0 0)), (2, .ref (gad (S0 + 328) 0)), (3, .int (nI i))] → W p l e room_1 s m args below meth c H locs 341 15174 Q (F0 m 1356 ls []) := by
  have hx := K.1.1; have hb := K.1.2.1
  intro IC IM JM H locs hV hT ls hl
  obtain ⟨r, IC', IM', h1, h2, hV2⟩ := hst (xs (i + 1)) IC IM JM hV
  refine lv_aload_n hx hb dL_law_1356 rfl (lv_at hl 1 rfl) ?_
  refine lv_aload_n hx hb dL_law_1357 rfl (lv_at hl 0 rfl) ?_
  refine lv_iload_n hx hb dL_law_1358 rfl (lv_at hl 3 rfl) ?_
  refine lv_iconst (v := (1 : Int32)) hx hb dL_law_1359 (by decide) ?_
  refine lv_iadd hx hb dL_law_1360 ?_
  refine w_sld K hT (n := 1) rfl (by omega) dL_law_1361 ?_
  refine w_callCi (rest := []) K hT hl (kX6_dawns (l := l) (G := G) (ad := gad S0) gInj_gad (xs (i + 1)) IC J00 r IC' h1) kLC_0 rfl (gG_V q_997 q_998 q_999 q_133 q_1000) nm_X6_dawns ⟨Nat.le_of_ble_eq_true rfl, Nat.le_of_ble_eq_true rfl⟩ rfl rfl (Nat.le_of_ble_eq_true rfl) ⟨Nat.le_of_ble_eq_true rfl, Nat.le_of_ble_eq_true rfl⟩ dL_law_1362 (fun H locs hT => ?_)
  refine lv_aload_n hx hb dL_law_1365 rfl (lv_at hl 2 rfl) ?_
  refine lv_aload_n hx hb dL_law_1366 rfl (lv_at hl 0 rfl) ?_
  refine lv_iload_n hx hb dL_law_1367 rfl (lv_at hl 3 rfl) ?_
  refine lv_iconst (v := (1 : Int32)) hx hb dL_law_1368 (by decide) ?_
  refine lv_iadd hx hb dL_law_1369 ?_
  refine w_sld K hT (n := 1) rfl (by omega) dL_law_1370 ?_
  refine w_callMi (rest := [.int r]) K hT hl (kX7_dawns (l := l) (G := G) (ad := gad (S0 + 328)) gInj_gad (xs (i + 1)) IM JM r IM' h2) kLM_0 rfl (gG_V q_1729 q_1730 q_1731 q_139 q_1732) nm_X7_dawns ⟨Nat.le_of_ble_eq_true rfl, Nat.le_of_ble_eq_true rfl⟩ rfl rfl (Nat.le_of_ble_eq_true rfl) ⟨Nat.le_of_ble_eq_true rfl, Nat.le_of_ble_eq_true rfl⟩ dL_law_1371 (fun H locs hT => ?_)
  refine lv_icmp_eq (tgt := 1916) hx hb dL_law_1374 (by decide) (fun _ => ?_) (fun c1 => absurd rfl c1)
  exact hnext _ _ _ _ _ hV2 hT _ hl
def st_36 (V : gV) : Prop := ∀ (a1 a2 : Int32) (IC IM : gI) (JM : gJ), V IC IM JM → ∃ (r : Int64) (IC' : gI) (IM' : gI) (JM' : gJ), fX6_month a1 (bz a2) IC = some (r, IC') ∧ fX7_month a1 (bz a2) IM JM = some (r, IM', JM') ∧ V IC' IM' JM'
set_option maxHeartbeats 4000000 in
set_option maxRecDepth 100000 in
theorem law_36 {p : Program} {l : Launch} {e : Env} {s : State} {m : MethodId} {args : Array Value} {below : List Frame} {meth : Method} {c : Code} {Q : State → Prop} {G : gG} {S0 b Ln : Nat} {xs : Nat → Int32} {V : gV} (K : gLw G S0 b Ln xs p s m args c) {i : Nat} (hi : i + 6 ≤ Ln) (hst : st_36 V) (hnext : ∀ (IC IM : gI) (JM : gJ) (H : Heap) (locs : List Loc), V IC IM JM → gTw G S0 s IC IM JM H locs → ∀ (ls : Array Slot), lv_has ls 4 [(0, .ref b), (1, .ref (gad S0 0)), (2, .ref (gad (S0 + 328) 0)), (3, .int (nI i))] → W p l e room_1 s m args below meth c H locs 341 15174 Q (F0 m 1916 ls [])) : ∀ (IC IM : gI) (JM : gJ) (H : Heap) (locs : List Loc), V IC IM JM → gTw G S0 s IC IM JM H locs → ∀ (ls : Array Slot), lv_has ls 4 [(0, .ref b), (1, .ref (gad S0 0)), (2, .ref (gad (S0 + 328) 0)), (3, .int (nI i))] → W p l e room_1 s m args below meth c H locs 341 15174 Q (F0 m 1379 ls []) := by
  have hx := K.1.1; have hb := K.1.2.1
  intro IC IM JM H locs hV hT ls hl
  obtain ⟨r, IC', IM', JM', h1, h2, hV2⟩ := hst (xs (i + 1)) (xs (i + 2)) IC IM JM hV
  refine lv_aload_n hx hb dL_law_1379 rfl (lv_at hl 1 rfl) ?_
  refine lv_aload_n hx hb dL_law_1380 rfl (lv_at hl 0 rfl) ?_
  refine lv_iload_n hx hb dL_law_1381 rfl (lv_at hl 3 rfl) ?_
  refine lv_iconst (v := (1 : Int32)) hx hb dL_law_1382 (by decide) ?_
  refine lv_iadd hx hb dL_law_1383 ?_
  refine w_sld K hT (n := 1) rfl (by omega) dL_law_1384 ?_
  refine lv_aload_n hx hb dL_law_1385 rfl (lv_at hl 0 rfl) ?_
  refine lv_iload_n hx hb dL_law_1386 rfl (lv_at hl 3 rfl) ?_
  refine lv_iconst (v := (2 : Int32)) hx hb dL_law_1387 (by decide) ?_
  refine lv_iadd hx hb dL_law_1388 ?_
  refine w_sld K hT (n := 2) rfl (by omega) dL_law_1389 ?_
  refine w_bool K dL_law_1390 dL_law_1393 dL_law_1394 dL_law_1397 ?_
  refine w_callCl (rest := []) K hT hl (kX6_month (l := l) (G := G) (ad := gad S0) gInj_gad (xs (i + 1)) (bz (xs (i + 2))) IC J00 r IC' h1) kLC_0 rfl (gG_V q_918 q_919 q_920 q_133 q_921) nm_X6_month ⟨Nat.le_of_ble_eq_true rfl, Nat.le_of_ble_eq_true rfl⟩ rfl rfl (Nat.le_of_ble_eq_true rfl) ⟨Nat.le_of_ble_eq_true rfl, Nat.le_of_ble_eq_true rfl⟩ dL_law_1398 (fun H locs hT => ?_)
  refine lv_aload_n hx hb dL_law_1401 rfl (lv_at hl 2 rfl) ?_
  refine lv_aload_n hx hb dL_law_1402 rfl (lv_at hl 0 rfl) ?_
  refine lv_iload_n hx hb dL_law_1403 rfl (lv_at hl 3 rfl) ?_
  refine lv_iconst (v := (1 : Int32)) hx hb dL_law_1404 (by decide) ?_
  refine lv_iadd hx hb dL_law_1405 ?_
  refine w_sld K hT (n := 1) rfl (by omega) dL_law_1406 ?_
  refine lv_aload_n hx hb dL_law_1407 rfl (lv_at hl 0 rfl) ?_
  refine lv_iload_n hx hb dL_law_1408 rfl (lv_at hl 3 rfl) ?_
  refine lv_iconst (v := (2 : Int32)) hx hb dL_law_1409 (by decide) ?_
  refine lv_iadd hx hb dL_law_1410 ?_
  refine w_sld K hT (n := 2) rfl (by omega) dL_law_1411 ?_
  refine w_bool K dL_law_1412 dL_law_1415 dL_law_1416 dL_law_1419 ?_
  refine w_callMl (rest := [.long r]) K hT hl (kX7_month (l := l) (G := G) (ad := gad (S0 + 328)) gInj_gad (xs (i + 1)) (bz (xs (i + 2))) IM JM r IM' JM' h2) kLM_0 rfl (gG_V q_1737 q_1738 q_1739 q_139 q_1740) nm_X7_month ⟨Nat.le_of_ble_eq_true rfl, Nat.le_of_ble_eq_true rfl⟩ rfl rfl (Nat.le_of_ble_eq_true rfl) ⟨Nat.le_of_ble_eq_true rfl, Nat.le_of_ble_eq_true rfl⟩ dL_law_1420 (fun H locs hT => ?_)
  refine W.lcmp hx hb dL_law_1423 ?_
  refine lv_if_eq (tgt := 1916) hx hb dL_law_1424 (by decide) (fun _ => ?_) (fun c1 => absurd (lg_cmp_self r) c1)
  exact hnext _ _ _ _ _ hV2 hT _ hl
def st_37 (V : gV) : Prop := ∀ (a1 a2 : Int32) (IC IM : gI) (JM : gJ), V IC IM JM → ∃ (r : Int32) (IC' : gI) (IM' : gI), fX6_value a1 a2 IC = some (r, IC') ∧ fX7_value a1 a2 IM = some (r, IM') ∧ V IC' IM' JM
set_option maxHeartbeats 4000000 in
set_option maxRecDepth 100000 in
theorem law_37 {p : Program} {l : Launch} {e : Env} {s : State} {m : MethodId} {args : Array Value} {below : List Frame} {meth : Method} {c : Code} {Q : State → Prop} {G : gG} {S0 b Ln : Nat} {xs : Nat → Int32} {V : gV} (K : gLw G S0 b Ln xs p s m args c) {i : Nat} (hi : i + 6 ≤ Ln) (hst : st_37 V) (hnext : ∀ (IC IM : gI) (JM : gJ) (H : Heap) (locs : List Loc), V IC IM JM → gTw G S0 s IC IM JM H locs → ∀ (ls : Array Slot), lv_has ls 4 [(0, .ref b), (1, .ref (gad S0 0)), (2, .ref (gad (S0 + 328) 0)), (3, .int (nI i))] → W p l e room_1 s m args below meth c H locs 341 15174 Q (F0 m 1916 ls [])) : ∀ (IC IM : gI) (JM : gJ) (H : Heap) (locs : List Loc), V IC IM JM → gTw G S0 s IC IM JM H locs → ∀ (ls : Array Slot), lv_has ls 4 [(0, .ref b), (1, .ref (gad S0 0)), (2, .ref (gad (S0 + 328) 0)), (3, .int (nI i))] → W p l e room_1 s m args below meth c H locs 341 15174 Q (F0 m 1429 ls []) := by
  have hx := K.1.1; have hb := K.1.2.1
  intro IC IM JM H locs hV hT ls hl
  obtain ⟨r, IC', IM', h1, h2, hV2⟩ := hst (xs (i + 1)) (xs (i + 2)) IC IM JM hV
  refine lv_aload_n hx hb dL_law_1429 rfl (lv_at hl 1 rfl) ?_
  refine lv_aload_n hx hb dL_law_1430 rfl (lv_at hl 0 rfl) ?_
  refine lv_iload_n hx hb dL_law_1431 rfl (lv_at hl 3 rfl) ?_
  refine lv_iconst (v := (1 : Int32)) hx hb dL_law_1432 (by decide) ?_
  refine lv_iadd hx hb dL_law_1433 ?_
  refine w_sld K hT (n := 1) rfl (by omega) dL_law_1434 ?_
  refine lv_aload_n hx hb dL_law_1435 rfl (lv_at hl 0 rfl) ?_
  refine lv_iload_n hx hb dL_law_1436 rfl (lv_at hl 3 rfl) ?_
  refine lv_iconst (v := (2 : Int32)) hx hb dL_law_1437 (by decide) ?_
  refine lv_iadd hx hb dL_law_1438 ?_
  refine w_sld K hT (n := 2) rfl (by omega) dL_law_1439 ?_
  refine w_callCi (rest := []) K hT hl (kX6_value (l := l) (G := G) (ad := gad S0) gInj_gad (xs (i + 1)) (xs (i + 2)) IC J00 r IC' h1) kLC_0 rfl (gG_V q_450 q_451 q_452 q_133 q_453) nm_X6_value ⟨Nat.le_of_ble_eq_true rfl, Nat.le_of_ble_eq_true rfl⟩ rfl rfl (Nat.le_of_ble_eq_true rfl) ⟨Nat.le_of_ble_eq_true rfl, Nat.le_of_ble_eq_true rfl⟩ dL_law_1440 (fun H locs hT => ?_)
  refine lv_aload_n hx hb dL_law_1443 rfl (lv_at hl 2 rfl) ?_
  refine lv_aload_n hx hb dL_law_1444 rfl (lv_at hl 0 rfl) ?_
  refine lv_iload_n hx hb dL_law_1445 rfl (lv_at hl 3 rfl) ?_
  refine lv_iconst (v := (1 : Int32)) hx hb dL_law_1446 (by decide) ?_
  refine lv_iadd hx hb dL_law_1447 ?_
  refine w_sld K hT (n := 1) rfl (by omega) dL_law_1448 ?_
  refine lv_aload_n hx hb dL_law_1449 rfl (lv_at hl 0 rfl) ?_
  refine lv_iload_n hx hb dL_law_1450 rfl (lv_at hl 3 rfl) ?_
  refine lv_iconst (v := (2 : Int32)) hx hb dL_law_1451 (by decide) ?_
  refine lv_iadd hx hb dL_law_1452 ?_
  refine w_sld K hT (n := 2) rfl (by omega) dL_law_1453 ?_
  refine w_callMi (rest := [.int r]) K hT hl (kX7_value (l := l) (G := G) (ad := gad (S0 + 328)) gInj_gad (xs (i + 1)) (xs (i + 2)) IM JM r IM' h2) kLM_0 rfl (gG_V q_1741 q_1742 q_1743 q_139 q_1744) nm_X7_value ⟨Nat.le_of_ble_eq_true rfl, Nat.le_of_ble_eq_true rfl⟩ rfl rfl (Nat.le_of_ble_eq_true rfl) ⟨Nat.le_of_ble_eq_true rfl, Nat.le_of_ble_eq_true rfl⟩ dL_law_1454 (fun H locs hT => ?_)
  refine lv_icmp_eq (tgt := 1916) hx hb dL_law_1457 (by decide) (fun _ => ?_) (fun c1 => absurd rfl c1)
  exact hnext _ _ _ _ _ hV2 hT _ hl
def st_38 (V : gV) : Prop := ∀ (a1 a2 : Int32) (IC IM : gI) (JM : gJ), V IC IM JM → ∃ (r : Int32) (IC' : gI) (IM' : gI), fX6_ends a1 a2 IC = some (r, IC') ∧ fX7_ends a1 a2 IM = some (r, IM') ∧ V IC' IM' JM
set_option maxHeartbeats 4000000 in
set_option maxRecDepth 100000 in
theorem law_38 {p : Program} {l : Launch} {e : Env} {s : State} {m : MethodId} {args : Array Value} {below : List Frame} {meth : Method} {c : Code} {Q : State → Prop} {G : gG} {S0 b Ln : Nat} {xs : Nat → Int32} {V : gV} (K : gLw G S0 b Ln xs p s m args c) {i : Nat} (hi : i + 6 ≤ Ln) (hst : st_38 V) (hnext : ∀ (IC IM : gI) (JM : gJ) (H : Heap) (locs : List Loc), V IC IM JM → gTw G S0 s IC IM JM H locs → ∀ (ls : Array Slot), lv_has ls 4 [(0, .ref b), (1, .ref (gad S0 0)), (2, .ref (gad (S0 + 328) 0)), (3, .int (nI i))] → W p l e room_1 s m args below meth c H locs 341 15174 Q (F0 m 1916 ls [])) : ∀ (IC IM : gI) (JM : gJ) (H : Heap) (locs : List Loc), V IC IM JM → gTw G S0 s IC IM JM H locs → ∀ (ls : Array Slot), lv_has ls 4 [(0, .ref b), (1, .ref (gad S0 0)), (2, .ref (gad (S0 + 328) 0)), (3, .int (nI i))] → W p l e room_1 s m args below meth c H locs 341 15174 Q (F0 m 1462 ls []) := by
  have hx := K.1.1; have hb := K.1.2.1
  intro IC IM JM H locs hV hT ls hl
  obtain ⟨r, IC', IM', h1, h2, hV2⟩ := hst (xs (i + 1)) (xs (i + 2)) IC IM JM hV
  refine lv_aload_n hx hb dL_law_1462 rfl (lv_at hl 1 rfl) ?_
  refine lv_aload_n hx hb dL_law_1463 rfl (lv_at hl 0 rfl) ?_
  refine lv_iload_n hx hb dL_law_1464 rfl (lv_at hl 3 rfl) ?_
  refine lv_iconst (v := (1 : Int32)) hx hb dL_law_1465 (by decide) ?_
  refine lv_iadd hx hb dL_law_1466 ?_
  refine w_sld K hT (n := 1) rfl (by omega) dL_law_1467 ?_
  refine lv_aload_n hx hb dL_law_1468 rfl (lv_at hl 0 rfl) ?_
  refine lv_iload_n hx hb dL_law_1469 rfl (lv_at hl 3 rfl) ?_
  refine lv_iconst (v := (2 : Int32)) hx hb dL_law_1470 (by decide) ?_
  refine lv_iadd hx hb dL_law_1471 ?_
  refine w_sld K hT (n := 2) rfl (by omega) dL_law_1472 ?_
  refine w_callCi (rest := []) K hT hl (kX6_ends (l := l) (G := G) (ad := gad S0) gInj_gad (xs (i + 1)) (xs (i + 2)) IC J00 r IC' h1) kLC_0 rfl (gG_V q_1005 q_1006 q_1007 q_133 q_1008) nm_X6_ends ⟨Nat.le_of_ble_eq_true rfl, Nat.le_of_ble_eq_true rfl⟩ rfl rfl (Nat.le_of_ble_eq_true rfl) ⟨Nat.le_of_ble_eq_true rfl, Nat.le_of_ble_eq_true rfl⟩ dL_law_1473 (fun H locs hT => ?_)
  refine lv_aload_n hx hb dL_law_1476 rfl (lv_at hl 2 rfl) ?_
  refine lv_aload_n hx hb dL_law_1477 rfl (lv_at hl 0 rfl) ?_
  refine lv_iload_n hx hb dL_law_1478 rfl (lv_at hl 3 rfl) ?_
  refine lv_iconst (v := (1 : Int32)) hx hb dL_law_1479 (by decide) ?_
  refine lv_iadd hx hb dL_law_1480 ?_
  refine w_sld K hT (n := 1) rfl (by omega) dL_law_1481 ?_
  refine lv_aload_n hx hb dL_law_1482 rfl (lv_at hl 0 rfl) ?_
  refine lv_iload_n hx hb dL_law_1483 rfl (lv_at hl 3 rfl) ?_
  refine lv_iconst (v := (2 : Int32)) hx hb dL_law_1484 (by decide) ?_
  refine lv_iadd hx hb dL_law_1485 ?_
  refine w_sld K hT (n := 2) rfl (by omega) dL_law_1486 ?_
  refine w_callMi (rest := [.int r]) K hT hl (kX7_ends (l := l) (G := G) (ad := gad (S0 + 328)) gInj_gad (xs (i + 1)) (xs (i + 2)) IM JM r IM' h2) kLM_0 rfl (gG_V q_1745 q_1746 q_1747 q_139 q_1748) nm_X7_ends ⟨Nat.le_of_ble_eq_true rfl, Nat.le_of_ble_eq_true rfl⟩ rfl rfl (Nat.le_of_ble_eq_true rfl) ⟨Nat.le_of_ble_eq_true rfl, Nat.le_of_ble_eq_true rfl⟩ dL_law_1487 (fun H locs hT => ?_)
  refine lv_icmp_eq (tgt := 1916) hx hb dL_law_1490 (by decide) (fun _ => ?_) (fun c1 => absurd rfl c1)
  exact hnext _ _ _ _ _ hV2 hT _ hl
def st_39 (V : gV) : Prop := ∀ (a1 a2 : Int32) (IC IM : gI) (JM : gJ), V IC IM JM → ∃ (r : Int32) (IC' : gI) (IM' : gI), fX6_take a1 a2 IC = some (r, IC') ∧ fX7_take a1 a2 IM = some (r, IM') ∧ V IC' IM' JM
set_option maxHeartbeats 4000000 in
set_option maxRecDepth 100000 in
theorem law_39 {p : Program} {l : Launch} {e : Env} {s : State} {m : MethodId} {args : Array Value} {below : List Frame} {meth : Method} {c : Code} {Q : State → Prop} {G : gG} {S0 b Ln : Nat} {xs : Nat → Int32} {V : gV} (K : gLw G S0 b Ln xs p s m args c) {i : Nat} (hi : i + 6 ≤ Ln) (hst : st_39 V) (hnext : ∀ (IC IM : gI) (JM : gJ) (H : Heap) (locs : List Loc), V IC IM JM → gTw G S0 s IC IM JM H locs → ∀ (ls : Array Slot), lv_has ls 4 [(0, .ref b), (1, .ref (gad S0 0)), (2, .ref (gad (S0 + 328) 0)), (3, .int (nI i))] → W p l e room_1 s m args below meth c H locs 341 15174 Q (F0 m 1916 ls [])) : ∀ (IC IM : gI) (JM : gJ) (H : Heap) (locs : List Loc), V IC IM JM → gTw G S0 s IC IM JM H locs → ∀ (ls : Array Slot), lv_has ls 4 [(0, .ref b), (1, .ref (gad S0 0)), (2, .ref (gad (S0 + 328) 0)), (3, .int (nI i))] → W p l e room_1 s m args below meth c H locs 341 15174 Q (F0 m 1495 ls []) := by
  have hx := K.1.1; have hb := K.1.2.1
  intro IC IM JM H locs hV hT ls hl
  obtain ⟨r, IC', IM', h1, h2, hV2⟩ := hst (xs (i + 1)) (xs (i + 2)) IC IM JM hV
  refine lv_aload_n hx hb dL_law_1495 rfl (lv_at hl 1 rfl) ?_
  refine lv_aload_n hx hb dL_law_1496 rfl (lv_at hl 0 rfl) ?_
  refine lv_iload_n hx hb dL_law_1497 rfl (lv_at hl 3 rfl) ?_
  refine lv_iconst (v := (1 : Int32)) hx hb dL_law_1498 (by decide) ?_
  refine lv_iadd hx hb dL_law_1499 ?_
  refine w_sld K hT (n := 1) rfl (by omega) dL_law_1500 ?_
  refine lv_aload_n hx hb dL_law_1501 rfl (lv_at hl 0 rfl) ?_
  refine lv_iload_n hx hb dL_law_1502 rfl (lv_at hl 3 rfl) ?_
  refine lv_iconst (v := (2 : Int32)) hx hb dL_law_1503 (by decide) ?_
  refine lv_iadd hx hb dL_law_1504 ?_
  refine w_sld K hT (n := 2) rfl (by omega) dL_law_1505 ?_
  refine w_callCi (rest := []) K hT hl (kX6_take (l := l) (G := G) (ad := gad S0) gInj_gad (xs (i + 1)) (xs (i + 2)) IC J00 r IC' h1) kLC_0 rfl (gG_V q_1013 q_1014 q_1015 q_133 q_1016) nm_X6_take ⟨Nat.le_of_ble_eq_true rfl, Nat.le_of_ble_eq_true rfl⟩ rfl rfl (Nat.le_of_ble_eq_true rfl) ⟨Nat.le_of_ble_eq_true rfl, Nat.le_of_ble_eq_true rfl⟩ dL_law_1506 (fun H locs hT => ?_)
  refine lv_aload_n hx hb dL_law_1509 rfl (lv_at hl 2 rfl) ?_
  refine lv_aload_n hx hb dL_law_1510 rfl (lv_at hl 0 rfl) ?_
  refine lv_iload_n hx hb dL_law_1511 rfl (lv_at hl 3 rfl) ?_
  refine lv_iconst (v := (1 : Int32)) hx hb dL_law_1512 (by decide) ?_
  refine lv_iadd hx hb dL_law_1513 ?_
  refine w_sld K hT (n := 1) rfl (by omega) dL_law_1514 ?_
  refine lv_aload_n hx hb dL_law_1515 rfl (lv_at hl 0 rfl) ?_
  refine lv_iload_n hx hb dL_law_1516 rfl (lv_at hl 3 rfl) ?_
  refine lv_iconst (v := (2 : Int32)) hx hb dL_law_1517 (by decide) ?_
  refine lv_iadd hx hb dL_law_1518 ?_
  refine w_sld K hT (n := 2) rfl (by omega) dL_law_1519 ?_
  refine w_callMi (rest := [.int r]) K hT hl (kX7_take (l := l) (G := G) (ad := gad (S0 + 328)) gInj_gad (xs (i + 1)) (xs (i + 2)) IM JM r IM' h2) kLM_0 rfl (gG_V q_1761 q_1762 q_1763 q_139 q_1764) nm_X7_take ⟨Nat.le_of_ble_eq_true rfl, Nat.le_of_ble_eq_true rfl⟩ rfl rfl (Nat.le_of_ble_eq_true rfl) ⟨Nat.le_of_ble_eq_true rfl, Nat.le_of_ble_eq_true rfl⟩ dL_law_1520 (fun H locs hT => ?_)
  refine lv_icmp_eq (tgt := 1916) hx hb dL_law_1523 (by decide) (fun _ => ?_) (fun c1 => absurd rfl c1)
  exact hnext _ _ _ _ _ hV2 hT _ hl
def st_40 (V : gV) : Prop := ∀ (a1 a2 a3 : Int32) (IC IM : gI) (JM : gJ), V IC IM JM → ∃ (r : Int32), fX6_best a1 a2 a3 IC = some r ∧ fX7_best a1 a2 a3 IM = some r ∧ V IC IM JM
set_option maxHeartbeats 4000000 in
set_option maxRecDepth 100000 in
theorem law_40 {p : Program} {l : Launch} {e : Env} {s : State} {m : MethodId} {args : Array Value} {below : List Frame} {meth : Method} {c : Code} {Q : State → Prop} {G : gG} {S0 b Ln : Nat} {xs : Nat → Int32} {V : gV} (K : gLw G S0 b Ln xs p s m args c) {i : Nat} (hi : i + 6 ≤ Ln) (hst : st_40 V) (hnext : ∀ (IC IM : gI) (JM : gJ) (H : Heap) (locs : List Loc), V IC IM JM → gTw G S0 s IC IM JM H locs → ∀ (ls : Array Slot), lv_has ls 4 [(0, .ref b), (1, .ref (gad S0 0)), (2, .ref (gad (S0 + 328) 0)), (3, .int (nI i))] → W p l e room_1 s m args below meth c H locs 341 15174 Q (F0 m 1916 ls [])) : ∀ (IC IM : gI) (JM : gJ) (H : Heap) (locs : List Loc), V IC IM JM → gTw G S0 s IC IM JM H locs → ∀ (ls : Array Slot), lv_has ls 4 [(0, .ref b), (1, .ref (gad S0 0)), (2, .ref (gad (S0 + 328) 0)), (3, .int (nI i))] → W p l e room_1 s m args below meth c H locs 341 15174 Q (F0 m 1528 ls []) := by
  have hx := K.1.1; have hb := K.1.2.1
  intro IC IM JM H locs hV hT ls hl
  obtain ⟨r, h1, h2, hV2⟩ := hst (xs (i + 1)) (xs (i + 2)) (xs (i + 3)) IC IM JM hV
  refine lv_aload_n hx hb dL_law_1528 rfl (lv_at hl 1 rfl) ?_
  refine lv_aload_n hx hb dL_law_1529 rfl (lv_at hl 0 rfl) ?_
  refine lv_iload_n hx hb dL_law_1530 rfl (lv_at hl 3 rfl) ?_
  refine lv_iconst (v := (1 : Int32)) hx hb dL_law_1531 (by decide) ?_
  refine lv_iadd hx hb dL_law_1532 ?_
  refine w_sld K hT (n := 1) rfl (by omega) dL_law_1533 ?_
  refine lv_aload_n hx hb dL_law_1534 rfl (lv_at hl 0 rfl) ?_
  refine lv_iload_n hx hb dL_law_1535 rfl (lv_at hl 3 rfl) ?_
  refine lv_iconst (v := (2 : Int32)) hx hb dL_law_1536 (by decide) ?_
  refine lv_iadd hx hb dL_law_1537 ?_
  refine w_sld K hT (n := 2) rfl (by omega) dL_law_1538 ?_
  refine lv_aload_n hx hb dL_law_1539 rfl (lv_at hl 0 rfl) ?_
  refine lv_iload_n hx hb dL_law_1540 rfl (lv_at hl 3 rfl) ?_
  refine lv_iconst (v := (3 : Int32)) hx hb dL_law_1541 (by decide) ?_
  refine lv_iadd hx hb dL_law_1542 ?_
  refine w_sld K hT (n := 3) rfl (by omega) dL_law_1543 ?_
  refine w_callCi (rest := []) K hT hl (kX6_best (l := l) (G := G) (ad := gad S0) gInj_gad (xs (i + 1)) (xs (i + 2)) (xs (i + 3)) IC J00 r h1) kLC_0 rfl (gG_V q_1017 q_1018 q_1019 q_133 q_1020) nm_X6_best ⟨Nat.le_of_ble_eq_true rfl, Nat.le_of_ble_eq_true rfl⟩ rfl rfl (Nat.le_of_ble_eq_true rfl) ⟨Nat.le_of_ble_eq_true rfl, Nat.le_of_ble_eq_true rfl⟩ dL_law_1544 (fun H locs hT => ?_)
  refine lv_aload_n hx hb dL_law_1547 rfl (lv_at hl 2 rfl) ?_
  refine lv_aload_n hx hb dL_law_1548 rfl (lv_at hl 0 rfl) ?_
  refine lv_iload_n hx hb dL_law_1549 rfl (lv_at hl 3 rfl) ?_
  refine lv_iconst (v := (1 : Int32)) hx hb dL_law_1550 (by decide) ?_
  refine lv_iadd hx hb dL_law_1551 ?_
  refine w_sld K hT (n := 1) rfl (by omega) dL_law_1552 ?_
  refine lv_aload_n hx hb dL_law_1553 rfl (lv_at hl 0 rfl) ?_
  refine lv_iload_n hx hb dL_law_1554 rfl (lv_at hl 3 rfl) ?_
  refine lv_iconst (v := (2 : Int32)) hx hb dL_law_1555 (by decide) ?_
  refine lv_iadd hx hb dL_law_1556 ?_
  refine w_sld K hT (n := 2) rfl (by omega) dL_law_1557 ?_
  refine lv_aload_n hx hb dL_law_1558 rfl (lv_at hl 0 rfl) ?_
  refine lv_iload_n hx hb dL_law_1559 rfl (lv_at hl 3 rfl) ?_
  refine lv_iconst (v := (3 : Int32)) hx hb dL_law_1560 (by decide) ?_
  refine lv_iadd hx hb dL_law_1561 ?_
  refine w_sld K hT (n := 3) rfl (by omega) dL_law_1562 ?_
  refine w_callMi (rest := [.int r]) K hT hl (kX7_best (l := l) (G := G) (ad := gad (S0 + 328)) gInj_gad (xs (i + 1)) (xs (i + 2)) (xs (i + 3)) IM JM r h2) kLM_0 rfl (gG_V q_1765 q_1766 q_1767 q_139 q_1768) nm_X7_best ⟨Nat.le_of_ble_eq_true rfl, Nat.le_of_ble_eq_true rfl⟩ rfl rfl (Nat.le_of_ble_eq_true rfl) ⟨Nat.le_of_ble_eq_true rfl, Nat.le_of_ble_eq_true rfl⟩ dL_law_1563 (fun H locs hT => ?_)
  refine lv_icmp_eq (tgt := 1916) hx hb dL_law_1566 (by decide) (fun _ => ?_) (fun c1 => absurd rfl c1)
  exact hnext _ _ _ _ _ hV2 hT _ hl
def st_41 (V : gV) : Prop := ∀ (a1 a2 : Int32) (IC IM : gI) (JM : gJ), V IC IM JM → ∃ (r : Int32) (IC' : gI) (IM' : gI), fX6_said a1 a2 IC = some (r, IC') ∧ fX7_said a1 a2 IM = some (r, IM') ∧ V IC' IM' JM
set_option maxHeartbeats 4000000 in
set_option maxRecDepth 100000 in
theorem law_41 {p : Program} {l : Launch} {e : Env} {s : State} {m : MethodId} {args : Array Value} {below : List Frame} {meth : Method} {c : Code} {Q : State → Prop} {G : gG} {S0 b Ln : Nat} {xs : Nat → Int32} {V : gV} (K : gLw G S0 b Ln xs p s m args c) {i : Nat} (hi : i + 6 ≤ Ln) (hst : st_41 V) (hnext : ∀ (IC IM : gI) (JM : gJ) (H : Heap) (locs : List Loc), V IC IM JM → gTw G S0 s IC IM JM H locs → ∀ (ls : Array Slot), lv_has ls 4 [(0, .ref b), (1, .ref (gad S0 0)), (2, .ref (gad (S0 + 328) 0)), (3, .int (nI i))] → W p l e room_1 s m args below meth c H locs 341 15174 Q (F0 m 1916 ls [])) : ∀ (IC IM : gI) (JM : gJ) (H : Heap) (locs : List Loc), V IC IM JM → gTw G S0 s IC IM JM H locs → ∀ (ls : Array Slot), lv_has ls 4 [(0, .ref b), (1, .ref (gad S0 0)), (2, .ref (gad (S0 + 328) 0)), (3, .int (nI i))] → W p l e room_1 s m args below meth c H locs 341 15174 Q (F0 m 1571 ls []) := by
  have hx := K.1.1; have hb := K.1.2.1
  intro IC IM JM H locs hV hT ls hl
  obtain ⟨r, IC', IM', h1, h2, hV2⟩ := hst (xs (i + 1)) (xs (i + 2)) IC IM JM hV
  refine lv_aload_n hx hb dL_law_1571 rfl (lv_at hl 1 rfl) ?_
  refine lv_aload_n hx hb dL_law_1572 rfl (lv_at hl 0 rfl) ?_
  refine lv_iload_n hx hb dL_law_1573 rfl (lv_at hl 3 rfl) ?_
  refine lv_iconst (v := (1 : Int32)) hx hb dL_law_1574 (by decide) ?_
  refine lv_iadd hx hb dL_law_1575 ?_
  refine w_sld K hT (n := 1) rfl (by omega) dL_law_1576 ?_
  refine lv_aload_n hx hb dL_law_1577 rfl (lv_at hl 0 rfl) ?_
  refine lv_iload_n hx hb dL_law_1578 rfl (lv_at hl 3 rfl) ?_
  refine lv_iconst (v := (2 : Int32)) hx hb dL_law_1579 (by decide) ?_
  refine lv_iadd hx hb dL_law_1580 ?_
  refine w_sld K hT (n := 2) rfl (by omega) dL_law_1581 ?_
  refine w_callCi (rest := []) K hT hl (kX6_said (l := l) (G := G) (ad := gad S0) gInj_gad (xs (i + 1)) (xs (i + 2)) IC J00 r IC' h1) kLC_0 rfl (gG_V q_471 q_472 q_473 q_133 q_474) nm_X6_said ⟨Nat.le_of_ble_eq_true rfl, Nat.le_of_ble_eq_true rfl⟩ rfl rfl (Nat.le_of_ble_eq_true rfl) ⟨Nat.le_of_ble_eq_true rfl, Nat.le_of_ble_eq_true rfl⟩ dL_law_1582 (fun H locs hT => ?_)
  refine lv_aload_n hx hb dL_law_1585 rfl (lv_at hl 2 rfl) ?_
  refine lv_aload_n hx hb dL_law_1586 rfl (lv_at hl 0 rfl) ?_
  refine lv_iload_n hx hb dL_law_1587 rfl (lv_at hl 3 rfl) ?_
  refine lv_iconst (v := (1 : Int32)) hx hb dL_law_1588 (by decide) ?_
  refine lv_iadd hx hb dL_law_1589 ?_
  refine w_sld K hT (n := 1) rfl (by omega) dL_law_1590 ?_
  refine lv_aload_n hx hb dL_law_1591 rfl (lv_at hl 0 rfl) ?_
  refine lv_iload_n hx hb dL_law_1592 rfl (lv_at hl 3 rfl) ?_
  refine lv_iconst (v := (2 : Int32)) hx hb dL_law_1593 (by decide) ?_
  refine lv_iadd hx hb dL_law_1594 ?_
  refine w_sld K hT (n := 2) rfl (by omega) dL_law_1595 ?_
  refine w_callMi (rest := [.int r]) K hT hl (kX7_said (l := l) (G := G) (ad := gad (S0 + 328)) gInj_gad (xs (i + 1)) (xs (i + 2)) IM JM r IM' h2) kLM_0 rfl (gG_V q_1773 q_1774 q_1775 q_139 q_1776) nm_X7_said ⟨Nat.le_of_ble_eq_true rfl, Nat.le_of_ble_eq_true rfl⟩ rfl rfl (Nat.le_of_ble_eq_true rfl) ⟨Nat.le_of_ble_eq_true rfl, Nat.le_of_ble_eq_true rfl⟩ dL_law_1596 (fun H locs hT => ?_)
  refine lv_icmp_eq (tgt := 1916) hx hb dL_law_1599 (by decide) (fun _ => ?_) (fun c1 => absurd rfl c1)
  exact hnext _ _ _ _ _ hV2 hT _ hl
def st_42 (V : gV) : Prop := ∀ (IC IM : gI) (JM : gJ), V IC IM JM → ∃ (r : Int32) (IC' : gI) (IM' : gI) (JM' : gJ), fX6_whose IC = some (r, IC') ∧ fX7_whose IM JM = some (r, IM', JM') ∧ V IC' IM' JM'
set_option maxHeartbeats 4000000 in
set_option maxRecDepth 100000 in
theorem law_42 {p : Program} {l : Launch} {e : Env} {s : State} {m : MethodId} {args : Array Value} {below : List Frame} {meth : Method} {c : Code} {Q : State → Prop} {G : gG} {S0 b Ln : Nat} {xs : Nat → Int32} {V : gV} (K : gLw G S0 b Ln xs p s m args c) {i : Nat} (hi : i + 6 ≤ Ln) (hst : st_42 V) (hnext : ∀ (IC IM : gI) (JM : gJ) (H : Heap) (locs : List Loc), V IC IM JM → gTw G S0 s IC IM JM H locs → ∀ (ls : Array Slot), lv_has ls 4 [(0, .ref b), (1, .ref (gad S0 0)), (2, .ref (gad (S0 + 328) 0)), (3, .int (nI i))] → W p l e room_1 s m args below meth c H locs 341 15174 Q (F0 m 1916 ls [])) : ∀ (IC IM : gI) (JM : gJ) (H : Heap) (locs : List Loc), V IC IM JM → gTw G S0 s IC IM JM H locs → ∀ (ls : Array Slot), lv_has ls 4 [(0, .ref b), (1, .ref (gad S0 0)), (2, .ref (gad (S0 + 328) 0)), (3, .int (nI i))] → W p l e room_1 s m args below meth c H locs 341 15174 Q (F0 m 1604 ls []) := by
  have hx := K.1.1; have hb := K.1.2.1
  intro IC IM JM H locs hV hT ls hl
  obtain ⟨r, IC', IM', JM', h1, h2, hV2⟩ := hst  IC IM JM hV
  refine lv_aload_n hx hb dL_law_1604 rfl (lv_at hl 1 rfl) ?_
  refine w_callCi (rest := []) K hT hl (kX6_whose (l := l) (G := G) (ad := gad S0) gInj_gad IC J00 r IC' h1) kLC_0 rfl (gG_V q_1021 q_1022 q_1023 q_133 q_1024) nm_X6_whose ⟨Nat.le_of_ble_eq_true rfl, Nat.le_of_ble_eq_true rfl⟩ rfl rfl (Nat.le_of_ble_eq_true rfl) ⟨Nat.le_of_ble_eq_true rfl, Nat.le_of_ble_eq_true rfl⟩ dL_law_1605 (fun H locs hT => ?_)
  refine lv_aload_n hx hb dL_law_1608 rfl (lv_at hl 2 rfl) ?_
  refine w_callMi (rest := [.int r]) K hT hl (kX7_whose (l := l) (G := G) (ad := gad (S0 + 328)) gInj_gad IM JM r IM' JM' h2) kLM_0 rfl (gG_V q_1777 q_1778 q_1779 q_139 q_1780) nm_X7_whose ⟨Nat.le_of_ble_eq_true rfl, Nat.le_of_ble_eq_true rfl⟩ rfl rfl (Nat.le_of_ble_eq_true rfl) ⟨Nat.le_of_ble_eq_true rfl, Nat.le_of_ble_eq_true rfl⟩ dL_law_1609 (fun H locs hT => ?_)
  refine lv_icmp_eq (tgt := 1916) hx hb dL_law_1612 (by decide) (fun _ => ?_) (fun c1 => absurd rfl c1)
  exact hnext _ _ _ _ _ hV2 hT _ hl
def st_43 (V : gV) : Prop := ∀ (IC IM : gI) (JM : gJ), V IC IM JM → ∃ (r : Int32), fX6_richest IC = some r ∧ fX7_richest IM = some r ∧ V IC IM JM
set_option maxHeartbeats 4000000 in
set_option maxRecDepth 100000 in
theorem law_43 {p : Program} {l : Launch} {e : Env} {s : State} {m : MethodId} {args : Array Value} {below : List Frame} {meth : Method} {c : Code} {Q : State → Prop} {G : gG} {S0 b Ln : Nat} {xs : Nat → Int32} {V : gV} (K : gLw G S0 b Ln xs p s m args c) {i : Nat} (hi : i + 6 ≤ Ln) (hst : st_43 V) (hnext : ∀ (IC IM : gI) (JM : gJ) (H : Heap) (locs : List Loc), V IC IM JM → gTw G S0 s IC IM JM H locs → ∀ (ls : Array Slot), lv_has ls 4 [(0, .ref b), (1, .ref (gad S0 0)), (2, .ref (gad (S0 + 328) 0)), (3, .int (nI i))] → W p l e room_1 s m args below meth c H locs 341 15174 Q (F0 m 1916 ls [])) : ∀ (IC IM : gI) (JM : gJ) (H : Heap) (locs : List Loc), V IC IM JM → gTw G S0 s IC IM JM H locs → ∀ (ls : Array Slot), lv_has ls 4 [(0, .ref b), (1, .ref (gad S0 0)), (2, .ref (gad (S0 + 328) 0)), (3, .int (nI i))] → W p l e room_1 s m args below meth c H locs 341 15174 Q (F0 m 1617 ls []) := by
  have hx := K.1.1; have hb := K.1.2.1
  intro IC IM JM H locs hV hT ls hl
  obtain ⟨r, h1, h2, hV2⟩ := hst  IC IM JM hV
  refine lv_aload_n hx hb dL_law_1617 rfl (lv_at hl 1 rfl) ?_
  refine w_callCi (rest := []) K hT hl (kX6_richest (l := l) (G := G) (ad := gad S0) gInj_gad IC J00 r h1) kLC_0 rfl (gG_V q_1025 q_1026 q_1027 q_133 q_1028) nm_X6_richest ⟨Nat.le_of_ble_eq_true rfl, Nat.le_of_ble_eq_true rfl⟩ rfl rfl (Nat.le_of_ble_eq_true rfl) ⟨Nat.le_of_ble_eq_true rfl, Nat.le_of_ble_eq_true rfl⟩ dL_law_1618 (fun H locs hT => ?_)
  refine lv_aload_n hx hb dL_law_1621 rfl (lv_at hl 2 rfl) ?_
  refine w_callMi (rest := [.int r]) K hT hl (kX7_richest (l := l) (G := G) (ad := gad (S0 + 328)) gInj_gad IM JM r h2) kLM_0 rfl (gG_V q_1554 q_1555 q_1556 q_139 q_1557) nm_X7_richest ⟨Nat.le_of_ble_eq_true rfl, Nat.le_of_ble_eq_true rfl⟩ rfl rfl (Nat.le_of_ble_eq_true rfl) ⟨Nat.le_of_ble_eq_true rfl, Nat.le_of_ble_eq_true rfl⟩ dL_law_1622 (fun H locs hT => ?_)
  refine lv_icmp_eq (tgt := 1916) hx hb dL_law_1625 (by decide) (fun _ => ?_) (fun c1 => absurd rfl c1)
  exact hnext _ _ _ _ _ hV2 hT _ hl
def st_44 (V : gV) : Prop := ∀ (a1 : Int32) (IC IM : gI) (JM : gJ), V IC IM JM → ∃ (r : Int32), fX6_rival a1 IC = some r ∧ fX7_rival a1 IM = some r ∧ V IC IM JM
set_option maxHeartbeats 4000000 in
set_option maxRecDepth 100000 in
theorem law_44 {p : Program} {l : Launch} {e : Env} {s : State} {m : MethodId} {args : Array Value} {below : List Frame} {meth : Method} {c : Code} {Q : State → Prop} {G : gG} {S0 b Ln : Nat} {xs : Nat → Int32} {V : gV} (K : gLw G S0 b Ln xs p s m args c) {i : Nat} (hi : i + 6 ≤ Ln) (hst : st_44 V) (hnext : ∀ (IC IM : gI) (JM : gJ) (H : Heap) (locs : List Loc), V IC IM JM → gTw G S0 s IC IM JM H locs → ∀ (ls : Array Slot), lv_has ls 4 [(0, .ref b), (1, .ref (gad S0 0)), (2, .ref (gad (S0 + 328) 0)), (3, .int (nI i))] → W p l e room_1 s m args below meth c H locs 341 15174 Q (F0 m 1916 ls [])) : ∀ (IC IM : gI) (JM : gJ) (H : Heap) (locs : List Loc), V IC IM JM → gTw G S0 s IC IM JM H locs → ∀ (ls : Array Slot), lv_has ls 4 [(0, .ref b), (1, .ref (gad S0 0)), (2, .ref (gad (S0 + 328) 0)), (3, .int (nI i))] → W p l e room_1 s m args below meth c H locs 341 15174 Q (F0 m 1630 ls []) := by
  have hx := K.1.1; have hb := K.1.2.1
  intro IC IM JM H locs hV hT ls hl
  obtain ⟨r, h1, h2, hV2⟩ := hst (xs (i + 1)) IC IM JM hV
  refine lv_aload_n hx hb dL_law_1630 rfl (lv_at hl 1 rfl) ?_
  refine lv_aload_n hx hb dL_law_1631 rfl (lv_at hl 0 rfl) ?_
  refine lv_iload_n hx hb dL_law_1632 rfl (lv_at hl 3 rfl) ?_
  refine lv_iconst (v := (1 : Int32)) hx hb dL_law_1633 (by decide) ?_
  refine lv_iadd hx hb dL_law_1634 ?_
  refine w_sld K hT (n := 1) rfl (by omega) dL_law_1635 ?_
  refine w_callCi (rest := []) K hT hl (kX6_rival (l := l) (G := G) (ad := gad S0) gInj_gad (xs (i + 1)) IC J00 r h1) kLC_0 rfl (gG_V q_1029 q_1030 q_1031 q_133 q_1032) nm_X6_rival ⟨Nat.le_of_ble_eq_true rfl, Nat.le_of_ble_eq_true rfl⟩ rfl rfl (Nat.le_of_ble_eq_true rfl) ⟨Nat.le_of_ble_eq_true rfl, Nat.le_of_ble_eq_true rfl⟩ dL_law_1636 (fun H locs hT => ?_)
  refine lv_aload_n hx hb dL_law_1639 rfl (lv_at hl 2 rfl) ?_
  refine lv_aload_n hx hb dL_law_1640 rfl (lv_at hl 0 rfl) ?_
  refine lv_iload_n hx hb dL_law_1641 rfl (lv_at hl 3 rfl) ?_
  refine lv_iconst (v := (1 : Int32)) hx hb dL_law_1642 (by decide) ?_
  refine lv_iadd hx hb dL_law_1643 ?_
  refine w_sld K hT (n := 1) rfl (by omega) dL_law_1644 ?_
  refine w_callMi (rest := [.int r]) K hT hl (kX7_rival (l := l) (G := G) (ad := gad (S0 + 328)) gInj_gad (xs (i + 1)) IM JM r h2) kLM_0 rfl (gG_V q_1558 q_1559 q_1560 q_139 q_1561) nm_X7_rival ⟨Nat.le_of_ble_eq_true rfl, Nat.le_of_ble_eq_true rfl⟩ rfl rfl (Nat.le_of_ble_eq_true rfl) ⟨Nat.le_of_ble_eq_true rfl, Nat.le_of_ble_eq_true rfl⟩ dL_law_1645 (fun H locs hT => ?_)
  refine lv_icmp_eq (tgt := 1916) hx hb dL_law_1648 (by decide) (fun _ => ?_) (fun c1 => absurd rfl c1)
  exact hnext _ _ _ _ _ hV2 hT _ hl
def st_45 (V : gV) : Prop := ∀ (a1 a2 : Int32) (IC IM : gI) (JM : gJ), V IC IM JM → ∃ (r : Int64), fX6_learnt a1 (bz a2) IC = some r ∧ fX7_learnt a1 (bz a2) IM = some r ∧ V IC IM JM
set_option maxHeartbeats 4000000 in
set_option maxRecDepth 100000 in
theorem law_45 {p : Program} {l : Launch} {e : Env} {s : State} {m : MethodId} {args : Array Value} {below : List Frame} {meth : Method} {c : Code} {Q : State → Prop} {G : gG} {S0 b Ln : Nat} {xs : Nat → Int32} {V : gV} (K : gLw G S0 b Ln xs p s m args c) {i : Nat} (hi : i + 6 ≤ Ln) (hst : st_45 V) (hnext : ∀ (IC IM : gI) (JM : gJ) (H : Heap) (locs : List Loc), V IC IM JM → gTw G S0 s IC IM JM H locs → ∀ (ls : Array Slot), lv_has ls 4 [(0, .ref b), (1, .ref (gad S0 0)), (2, .ref (gad (S0 + 328) 0)), (3, .int (nI i))] → W p l e room_1 s m args below meth c H locs 341 15174 Q (F0 m 1916 ls [])) : ∀ (IC IM : gI) (JM : gJ) (H : Heap) (locs : List Loc), V IC IM JM → gTw G S0 s IC IM JM H locs → ∀ (ls : Array Slot), lv_has ls 4 [(0, .ref b), (1, .ref (gad S0 0)), (2, .ref (gad (S0 + 328) 0)), (3, .int (nI i))] → W p l e room_1 s m args below meth c H locs 341 15174 Q (F0 m 1653 ls []) := by
  have hx := K.1.1; have hb := K.1.2.1
  intro IC IM JM H locs hV hT ls hl
  obtain ⟨r, h1, h2, hV2⟩ := hst (xs (i + 1)) (xs (i + 2)) IC IM JM hV
  refine lv_aload_n hx hb dL_law_1653 rfl (lv_at hl 1 rfl) ?_
  refine lv_aload_n hx hb dL_law_1654 rfl (lv_at hl 0 rfl) ?_
  refine lv_iload_n hx hb dL_law_1655 rfl (lv_at hl 3 rfl) ?_
  refine lv_iconst (v := (1 : Int32)) hx hb dL_law_1656 (by decide) ?_
  refine lv_iadd hx hb dL_law_1657 ?_
  refine w_sld K hT (n := 1) rfl (by omega) dL_law_1658 ?_
  refine lv_aload_n hx hb dL_law_1659 rfl (lv_at hl 0 rfl) ?_
  refine lv_iload_n hx hb dL_law_1660 rfl (lv_at hl 3 rfl) ?_
  refine lv_iconst (v := (2 : Int32)) hx hb dL_law_1661 (by decide) ?_
  refine lv_iadd hx hb dL_law_1662 ?_
  refine w_sld K hT (n := 2) rfl (by omega) dL_law_1663 ?_
  refine w_bool K dL_law_1664 dL_law_1667 dL_law_1668 dL_law_1671 ?_
  refine w_callCl (rest := []) K hT hl (kX6_learnt (l := l) (G := G) (ad := gad S0) gInj_gad (xs (i + 1)) (bz (xs (i + 2))) IC J00 r h1) kLC_0 rfl (gG_V q_1033 q_1034 q_1035 q_133 q_1036) nm_X6_learnt ⟨Nat.le_of_ble_eq_true rfl, Nat.le_of_ble_eq_true rfl⟩ rfl rfl (Nat.le_of_ble_eq_true rfl) ⟨Nat.le_of_ble_eq_true rfl, Nat.le_of_ble_eq_true rfl⟩ dL_law_1672 (fun H locs hT => ?_)
  refine lv_aload_n hx hb dL_law_1675 rfl (lv_at hl 2 rfl) ?_
  refine lv_aload_n hx hb dL_law_1676 rfl (lv_at hl 0 rfl) ?_
  refine lv_iload_n hx hb dL_law_1677 rfl (lv_at hl 3 rfl) ?_
  refine lv_iconst (v := (1 : Int32)) hx hb dL_law_1678 (by decide) ?_
  refine lv_iadd hx hb dL_law_1679 ?_
  refine w_sld K hT (n := 1) rfl (by omega) dL_law_1680 ?_
  refine lv_aload_n hx hb dL_law_1681 rfl (lv_at hl 0 rfl) ?_
  refine lv_iload_n hx hb dL_law_1682 rfl (lv_at hl 3 rfl) ?_
  refine lv_iconst (v := (2 : Int32)) hx hb dL_law_1683 (by decide) ?_
  refine lv_iadd hx hb dL_law_1684 ?_
  refine w_sld K hT (n := 2) rfl (by omega) dL_law_1685 ?_
  refine w_bool K dL_law_1686 dL_law_1689 dL_law_1690 dL_law_1693 ?_
  refine w_callMl (rest := [.long r]) K hT hl (kX7_learnt (l := l) (G := G) (ad := gad (S0 + 328)) gInj_gad (xs (i + 1)) (bz (xs (i + 2))) IM JM r h2) kLM_0 rfl (gG_V q_1566 q_1567 q_1568 q_139 q_1569) nm_X7_learnt ⟨Nat.le_of_ble_eq_true rfl, Nat.le_of_ble_eq_true rfl⟩ rfl rfl (Nat.le_of_ble_eq_true rfl) ⟨Nat.le_of_ble_eq_true rfl, Nat.le_of_ble_eq_true rfl⟩ dL_law_1694 (fun H locs hT => ?_)
  refine W.lcmp hx hb dL_law_1697 ?_
  refine lv_if_eq (tgt := 1916) hx hb dL_law_1698 (by decide) (fun _ => ?_) (fun c1 => absurd (lg_cmp_self r) c1)
  exact hnext _ _ _ _ _ hV2 hT _ hl
def st_46 (V : gV) : Prop := ∀ (a1 : Int32) (IC IM : gI) (JM : gJ), V IC IM JM → ∃ (r : Int32), fX6_wanted a1 IC = some r ∧ fX7_wanted a1 IM = some r ∧ V IC IM JM
set_option maxHeartbeats 4000000 in
set_option maxRecDepth 100000 in
theorem law_46 {p : Program} {l : Launch} {e : Env} {s : State} {m : MethodId} {args : Array Value} {below : List Frame} {meth : Method} {c : Code} {Q : State → Prop} {G : gG} {S0 b Ln : Nat} {xs : Nat → Int32} {V : gV} (K : gLw G S0 b Ln xs p s m args c) {i : Nat} (hi : i + 6 ≤ Ln) (hst : st_46 V) (hnext : ∀ (IC IM : gI) (JM : gJ) (H : Heap) (locs : List Loc), V IC IM JM → gTw G S0 s IC IM JM H locs → ∀ (ls : Array Slot), lv_has ls 4 [(0, .ref b), (1, .ref (gad S0 0)), (2, .ref (gad (S0 + 328) 0)), (3, .int (nI i))] → W p l e room_1 s m args below meth c H locs 341 15174 Q (F0 m 1916 ls [])) : ∀ (IC IM : gI) (JM : gJ) (H : Heap) (locs : List Loc), V IC IM JM → gTw G S0 s IC IM JM H locs → ∀ (ls : Array Slot), lv_has ls 4 [(0, .ref b), (1, .ref (gad S0 0)), (2, .ref (gad (S0 + 328) 0)), (3, .int (nI i))] → W p l e room_1 s m args below meth c H locs 341 15174 Q (F0 m 1703 ls []) := by
  have hx := K.1.1; have hb := K.1.2.1
  intro IC IM JM H locs hV hT ls hl
  obtain ⟨r, h1, h2, hV2⟩ := hst (xs (i + 1)) IC IM JM hV
  refine lv_aload_n hx hb dL_law_1703 rfl (lv_at hl 1 rfl) ?_
  refine lv_aload_n hx hb dL_law_1704 rfl (lv_at hl 0 rfl) ?_
  refine lv_iload_n hx hb dL_law_1705 rfl (lv_at hl 3 rfl) ?_
  refine lv_iconst (v := (1 : Int32)) hx hb dL_law_1706 (by decide) ?_
  refine lv_iadd hx hb dL_law_1707 ?_
  refine w_sld K hT (n := 1) rfl (by omega) dL_law_1708 ?_
  refine w_callCi (rest := []) K hT hl (kX6_wanted (l := l) (G := G) (ad := gad S0) gInj_gad (xs (i + 1)) IC J00 r h1) kLC_0 rfl (gG_V q_1044 q_1045 q_1046 q_133 q_1047) nm_X6_wanted ⟨Nat.le_of_ble_eq_true rfl, Nat.le_of_ble_eq_true rfl⟩ rfl rfl (Nat.le_of_ble_eq_true rfl) ⟨Nat.le_of_ble_eq_true rfl, Nat.le_of_ble_eq_true rfl⟩ dL_law_1709 (fun H locs hT => ?_)
  refine lv_aload_n hx hb dL_law_1712 rfl (lv_at hl 2 rfl) ?_
  refine lv_aload_n hx hb dL_law_1713 rfl (lv_at hl 0 rfl) ?_
  refine lv_iload_n hx hb dL_law_1714 rfl (lv_at hl 3 rfl) ?_
  refine lv_iconst (v := (1 : Int32)) hx hb dL_law_1715 (by decide) ?_
  refine lv_iadd hx hb dL_law_1716 ?_
  refine w_sld K hT (n := 1) rfl (by omega) dL_law_1717 ?_
  refine w_callMi (rest := [.int r]) K hT hl (kX7_wanted (l := l) (G := G) (ad := gad (S0 + 328)) gInj_gad (xs (i + 1)) IM JM r h2) kLM_0 rfl (gG_V q_1577 q_1578 q_1579 q_139 q_1580) nm_X7_wanted ⟨Nat.le_of_ble_eq_true rfl, Nat.le_of_ble_eq_true rfl⟩ rfl rfl (Nat.le_of_ble_eq_true rfl) ⟨Nat.le_of_ble_eq_true rfl, Nat.le_of_ble_eq_true rfl⟩ dL_law_1718 (fun H locs hT => ?_)
  refine lv_icmp_eq (tgt := 1916) hx hb dL_law_1721 (by decide) (fun _ => ?_) (fun c1 => absurd rfl c1)
  exact hnext _ _ _ _ _ hV2 hT _ hl
def st_47 (V : gV) : Prop := ∀ (a1 : Int32) (IC IM : gI) (JM : gJ), V IC IM JM → ∃ (r : Int32), fX6_alone a1 IC = some r ∧ fX7_alone a1 IM = some r ∧ V IC IM JM
set_option maxHeartbeats 4000000 in
set_option maxRecDepth 100000 in
theorem law_47 {p : Program} {l : Launch} {e : Env} {s : State} {m : MethodId} {args : Array Value} {below : List Frame} {meth : Method} {c : Code} {Q : State → Prop} {G : gG} {S0 b Ln : Nat} {xs : Nat → Int32} {V : gV} (K : gLw G S0 b Ln xs p s m args c) {i : Nat} (hi : i + 6 ≤ Ln) (hst : st_47 V) (hnext : ∀ (IC IM : gI) (JM : gJ) (H : Heap) (locs : List Loc), V IC IM JM → gTw G S0 s IC IM JM H locs → ∀ (ls : Array Slot), lv_has ls 4 [(0, .ref b), (1, .ref (gad S0 0)), (2, .ref (gad (S0 + 328) 0)), (3, .int (nI i))] → W p l e room_1 s m args below meth c H locs 341 15174 Q (F0 m 1916 ls [])) : ∀ (IC IM : gI) (JM : gJ) (H : Heap) (locs : List Loc), V IC IM JM → gTw G S0 s IC IM JM H locs → ∀ (ls : Array Slot), lv_has ls 4 [(0, .ref b), (1, .ref (gad S0 0)), (2, .ref (gad (S0 + 328) 0)), (3, .int (nI i))] → W p l e room_1 s m args below meth c H locs 341 15174 Q (F0 m 1726 ls []) := by
  have hx := K.1.1; have hb := K.1.2.1
  intro IC IM JM H locs hV hT ls hl
  obtain ⟨r, h1, h2, hV2⟩ := hst (xs (i + 1)) IC IM JM hV
  refine lv_aload_n hx hb dL_law_1726 rfl (lv_at hl 1 rfl) ?_
  refine lv_aload_n hx hb dL_law_1727 rfl (lv_at hl 0 rfl) ?_
  refine lv_iload_n hx hb dL_law_1728 rfl (lv_at hl 3 rfl) ?_
  refine lv_iconst (v := (1 : Int32)) hx hb dL_law_1729 (by decide) ?_
  refine lv_iadd hx hb dL_law_1730 ?_
  refine w_sld K hT (n := 1) rfl (by omega) dL_law_1731 ?_
  refine w_callCi (rest := []) K hT hl (kX6_alone (l := l) (G := G) (ad := gad S0) gInj_gad (xs (i + 1)) IC J00 r h1) kLC_0 rfl (gG_V q_1048 q_1049 q_1050 q_133 q_1051) nm_X6_alone ⟨Nat.le_of_ble_eq_true rfl, Nat.le_of_ble_eq_true rfl⟩ rfl rfl (Nat.le_of_ble_eq_true rfl) ⟨Nat.le_of_ble_eq_true rfl, Nat.le_of_ble_eq_true rfl⟩ dL_law_1732 (fun H locs hT => ?_)
  refine lv_aload_n hx hb dL_law_1735 rfl (lv_at hl 2 rfl) ?_
  refine lv_aload_n hx hb dL_law_1736 rfl (lv_at hl 0 rfl) ?_
  refine lv_iload_n hx hb dL_law_1737 rfl (lv_at hl 3 rfl) ?_
  refine lv_iconst (v := (1 : Int32)) hx hb dL_law_1738 (by decide) ?_
  refine lv_iadd hx hb dL_law_1739 ?_
  refine w_sld K hT (n := 1) rfl (by omega) dL_law_1740 ?_
  refine w_callMi (rest := [.int r]) K hT hl (kX7_alone (l := l) (G := G) (ad := gad (S0 + 328)) gInj_gad (xs (i + 1)) IM JM r h2) kLM_0 rfl (gG_V q_1581 q_1582 q_1583 q_139 q_1584) nm_X7_alone ⟨Nat.le_of_ble_eq_true rfl, Nat.le_of_ble_eq_true rfl⟩ rfl rfl (Nat.le_of_ble_eq_true rfl) ⟨Nat.le_of_ble_eq_true rfl, Nat.le_of_ble_eq_true rfl⟩ dL_law_1741 (fun H locs hT => ?_)
  refine lv_icmp_eq (tgt := 1916) hx hb dL_law_1744 (by decide) (fun _ => ?_) (fun c1 => absurd rfl c1)
  exact hnext _ _ _ _ _ hV2 hT _ hl
def st_48 (V : gV) : Prop := ∀ (a1 : Int32) (IC IM : gI) (JM : gJ), V IC IM JM → ∃ (r : Int32), fX6_since a1 IC = some r ∧ fX7_since a1 IM = some r ∧ V IC IM JM
set_option maxHeartbeats 4000000 in
set_option maxRecDepth 100000 in
theorem law_48 {p : Program} {l : Launch} {e : Env} {s : State} {m : MethodId} {args : Array Value} {below : List Frame} {meth : Method} {c : Code} {Q : State → Prop} {G : gG} {S0 b Ln : Nat} {xs : Nat → Int32} {V : gV} (K : gLw G S0 b Ln xs p s m args c) {i : Nat} (hi : i + 6 ≤ Ln) (hst : st_48 V) (hnext : ∀ (IC IM : gI) (JM : gJ) (H : Heap) (locs : List Loc), V IC IM JM → gTw G S0 s IC IM JM H locs → ∀ (ls : Array Slot), lv_has ls 4 [(0, .ref b), (1, .ref (gad S0 0)), (2, .ref (gad (S0 + 328) 0)), (3, .int (nI i))] → W p l e room_1 s m args below meth c H locs 341 15174 Q (F0 m 1916 ls [])) : ∀ (IC IM : gI) (JM : gJ) (H : Heap) (locs : List Loc), V IC IM JM → gTw G S0 s IC IM JM H locs → ∀ (ls : Array Slot), lv_has ls 4 [(0, .ref b), (1, .ref (gad S0 0)), (2, .ref (gad (S0 + 328) 0)), (3, .int (nI i))] → W p l e room_1 s m args below meth c H locs 341 15174 Q (F0 m 1749 ls []) := by
  have hx := K.1.1; have hb := K.1.2.1
  intro IC IM JM H locs hV hT ls hl
  obtain ⟨r, h1, h2, hV2⟩ := hst (xs (i + 1)) IC IM JM hV
  refine lv_aload_n hx hb dL_law_1749 rfl (lv_at hl 1 rfl) ?_
  refine lv_aload_n hx hb dL_law_1750 rfl (lv_at hl 0 rfl) ?_
  refine lv_iload_n hx hb dL_law_1751 rfl (lv_at hl 3 rfl) ?_
  refine lv_iconst (v := (1 : Int32)) hx hb dL_law_1752 (by decide) ?_
  refine lv_iadd hx hb dL_law_1753 ?_
  refine w_sld K hT (n := 1) rfl (by omega) dL_law_1754 ?_
  refine w_callCi (rest := []) K hT hl (kX6_since (l := l) (G := G) (ad := gad S0) gInj_gad (xs (i + 1)) IC J00 r h1) kLC_0 rfl (gG_V q_1040 q_1041 q_1042 q_133 q_1043) nm_X6_since ⟨Nat.le_of_ble_eq_true rfl, Nat.le_of_ble_eq_true rfl⟩ rfl rfl (Nat.le_of_ble_eq_true rfl) ⟨Nat.le_of_ble_eq_true rfl, Nat.le_of_ble_eq_true rfl⟩ dL_law_1755 (fun H locs hT => ?_)
  refine lv_aload_n hx hb dL_law_1758 rfl (lv_at hl 2 rfl) ?_
  refine lv_aload_n hx hb dL_law_1759 rfl (lv_at hl 0 rfl) ?_
  refine lv_iload_n hx hb dL_law_1760 rfl (lv_at hl 3 rfl) ?_
  refine lv_iconst (v := (1 : Int32)) hx hb dL_law_1761 (by decide) ?_
  refine lv_iadd hx hb dL_law_1762 ?_
  refine w_sld K hT (n := 1) rfl (by omega) dL_law_1763 ?_
  refine w_callMi (rest := [.int r]) K hT hl (kX7_since (l := l) (G := G) (ad := gad (S0 + 328)) gInj_gad (xs (i + 1)) IM JM r h2) kLM_0 rfl (gG_V q_1585 q_1586 q_1587 q_139 q_1588) nm_X7_since ⟨Nat.le_of_ble_eq_true rfl, Nat.le_of_ble_eq_true rfl⟩ rfl rfl (Nat.le_of_ble_eq_true rfl) ⟨Nat.le_of_ble_eq_true rfl, Nat.le_of_ble_eq_true rfl⟩ dL_law_1764 (fun H locs hT => ?_)
  refine lv_icmp_eq (tgt := 1916) hx hb dL_law_1767 (by decide) (fun _ => ?_) (fun c1 => absurd rfl c1)
  exact hnext _ _ _ _ _ hV2 hT _ hl
def st_49 (V : gV) : Prop := ∀ (IC IM : gI) (JM : gJ), V IC IM JM → ∃ (r : Int32), fX6_idle IC = some r ∧ fX7_idle IM = some r ∧ V IC IM JM
set_option maxHeartbeats 4000000 in
set_option maxRecDepth 100000 in
theorem law_49 {p : Program} {l : Launch} {e : Env} {s : State} {m : MethodId} {args : Array Value} {below : List Frame} {meth : Method} {c : Code} {Q : State → Prop} {G : gG} {S0 b Ln : Nat} {xs : Nat → Int32} {V : gV} (K : gLw G S0 b Ln xs p s m args c) {i : Nat} (hi : i + 6 ≤ Ln) (hst : st_49 V) (hnext : ∀ (IC IM : gI) (JM : gJ) (H : Heap) (locs : List Loc), V IC IM JM → gTw G S0 s IC IM JM H locs → ∀ (ls : Array Slot), lv_has ls 4 [(0, .ref b), (1, .ref (gad S0 0)), (2, .ref (gad (S0 + 328) 0)), (3, .int (nI i))] → W p l e room_1 s m args below meth c H locs 341 15174 Q (F0 m 1916 ls [])) : ∀ (IC IM : gI) (JM : gJ) (H : Heap) (locs : List Loc), V IC IM JM → gTw G S0 s IC IM JM H locs → ∀ (ls : Array Slot), lv_has ls 4 [(0, .ref b), (1, .ref (gad S0 0)), (2, .ref (gad (S0 + 328) 0)), (3, .int (nI i))] → W p l e room_1 s m args below meth c H locs 341 15174 Q (F0 m 1772 ls []) := by
  have hx := K.1.1; have hb := K.1.2.1
  intro IC IM JM H locs hV hT ls hl
  obtain ⟨r, h1, h2, hV2⟩ := hst  IC IM JM hV
  refine lv_aload_n hx hb dL_law_1772 rfl (lv_at hl 1 rfl) ?_
  refine w_callCi (rest := []) K hT hl (kX6_idle (l := l) (G := G) (ad := gad S0) gInj_gad IC J00 r h1) kLC_0 rfl (gG_V q_1052 q_1053 q_1054 q_133 q_1055) nm_X6_idle ⟨Nat.le_of_ble_eq_true rfl, Nat.le_of_ble_eq_true rfl⟩ rfl rfl (Nat.le_of_ble_eq_true rfl) ⟨Nat.le_of_ble_eq_true rfl, Nat.le_of_ble_eq_true rfl⟩ dL_law_1773 (fun H locs hT => ?_)
  refine lv_aload_n hx hb dL_law_1776 rfl (lv_at hl 2 rfl) ?_
  refine w_callMi (rest := [.int r]) K hT hl (kX7_idle (l := l) (G := G) (ad := gad (S0 + 328)) gInj_gad IM JM r h2) kLM_0 rfl (gG_V q_1589 q_1590 q_1591 q_139 q_1592) nm_X7_idle ⟨Nat.le_of_ble_eq_true rfl, Nat.le_of_ble_eq_true rfl⟩ rfl rfl (Nat.le_of_ble_eq_true rfl) ⟨Nat.le_of_ble_eq_true rfl, Nat.le_of_ble_eq_true rfl⟩ dL_law_1777 (fun H locs hT => ?_)
  refine lv_icmp_eq (tgt := 1916) hx hb dL_law_1780 (by decide) (fun _ => ?_) (fun c1 => absurd rfl c1)
  exact hnext _ _ _ _ _ hV2 hT _ hl
def st_50 (V : gV) : Prop := ∀ (IC IM : gI) (JM : gJ), V IC IM JM → ∃ (r : Int32) (IC' : gI) (IM' : gI) (JM' : gJ), fX6_poor IC = some (r, IC') ∧ fX7_poor IM JM = some (r, IM', JM') ∧ V IC' IM' JM'
set_option maxHeartbeats 4000000 in
set_option maxRecDepth 100000 in
theorem law_50 {p : Program} {l : Launch} {e : Env} {s : State} {m : MethodId} {args : Array Value} {below : List Frame} {meth : Method} {c : Code} {Q : State → Prop} {G : gG} {S0 b Ln : Nat} {xs : Nat → Int32} {V : gV} (K : gLw G S0 b Ln xs p s m args c) {i : Nat} (hi : i + 6 ≤ Ln) (hst : st_50 V) (hnext : ∀ (IC IM : gI) (JM : gJ) (H : Heap) (locs : List Loc), V IC IM JM → gTw G S0 s IC IM JM H locs → ∀ (ls : Array Slot), lv_has ls 4 [(0, .ref b), (1, .ref (gad S0 0)), (2, .ref (gad (S0 + 328) 0)), (3, .int (nI i))] → W p l e room_1 s m args below meth c H locs 341 15174 Q (F0 m 1916 ls [])) : ∀ (IC IM : gI) (JM : gJ) (H : Heap) (locs : List Loc), V IC IM JM → gTw G S0 s IC IM JM H locs → ∀ (ls : Array Slot), lv_has ls 4 [(0, .ref b), (1, .ref (gad S0 0)), (2, .ref (gad (S0 + 328) 0)), (3, .int (nI i))] → W p l e room_1 s m args below meth c H locs 341 15174 Q (F0 m 1785 ls []) := by
  have hx := K.1.1; have hb := K.1.2.1
  intro IC IM JM H locs hV hT ls hl
  obtain ⟨r, IC', IM', JM', h1, h2, hV2⟩ := hst  IC IM JM hV
  refine lv_aload_n hx hb dL_law_1785 rfl (lv_at hl 1 rfl) ?_
  refine w_callCi (rest := []) K hT hl (kX6_poor (l := l) (G := G) (ad := gad S0) gInj_gad IC J00 r IC' h1) kLC_0 rfl (gG_V q_1056 q_1057 q_1058 q_133 q_1059) nm_X6_poor ⟨Nat.le_of_ble_eq_true rfl, Nat.le_of_ble_eq_true rfl⟩ rfl rfl (Nat.le_of_ble_eq_true rfl) ⟨Nat.le_of_ble_eq_true rfl, Nat.le_of_ble_eq_true rfl⟩ dL_law_1786 (fun H locs hT => ?_)
  refine lv_aload_n hx hb dL_law_1789 rfl (lv_at hl 2 rfl) ?_
  refine w_callMi (rest := [.int r]) K hT hl (kX7_poor (l := l) (G := G) (ad := gad (S0 + 328)) gInj_gad IM JM r IM' JM' h2) kLM_0 rfl (gG_V q_1593 q_1594 q_1595 q_139 q_1596) nm_X7_poor ⟨Nat.le_of_ble_eq_true rfl, Nat.le_of_ble_eq_true rfl⟩ rfl rfl (Nat.le_of_ble_eq_true rfl) ⟨Nat.le_of_ble_eq_true rfl, Nat.le_of_ble_eq_true rfl⟩ dL_law_1790 (fun H locs hT => ?_)
  refine lv_icmp_eq (tgt := 1916) hx hb dL_law_1793 (by decide) (fun _ => ?_) (fun c1 => absurd rfl c1)
  exact hnext _ _ _ _ _ hV2 hT _ hl
def st_51 (V : gV) : Prop := ∀ (a1 : Int32) (IC IM : gI) (JM : gJ), V IC IM JM → ∃ (r : Int32), fX6_room a1 IC = some r ∧ fX7_room a1 IM = some r ∧ V IC IM JM
set_option maxHeartbeats 4000000 in
set_option maxRecDepth 100000 in
theorem law_51 {p : Program} {l : Launch} {e : Env} {s : State} {m : MethodId} {args : Array Value} {below : List Frame} {meth : Method} {c : Code} {Q : State → Prop} {G : gG} {S0 b Ln : Nat} {xs : Nat → Int32} {V : gV} (K : gLw G S0 b Ln xs p s m args c) {i : Nat} (hi : i + 6 ≤ Ln) (hst : st_51 V) (hnext : ∀ (IC IM : gI) (JM : gJ) (H : Heap) (locs : List Loc), V IC IM JM → gTw G S0 s IC IM JM H locs → ∀ (ls : Array Slot), lv_has ls 4 [(0, .ref b), (1, .ref (gad S0 0)), (2, .ref (gad (S0 + 328) 0)), (3, .int (nI i))] → W p l e room_1 s m args below meth c H locs 341 15174 Q (F0 m 1916 ls [])) : ∀ (IC IM : gI) (JM : gJ) (H : Heap) (locs : List Loc), V IC IM JM → gTw G S0 s IC IM JM H locs → ∀ (ls : Array Slot), lv_has ls 4 [(0, .ref b), (1, .ref (gad S0 0)), (2, .ref (gad (S0 + 328) 0)), (3, .int (nI i))] → W p l e room_1 s m args below meth c H locs 341 15174 Q (F0 m 1798 ls []) := by
  have hx := K.1.1; have hb := K.1.2.1
  intro IC IM JM H locs hV hT ls hl
  obtain ⟨r, h1, h2, hV2⟩ := hst (xs (i + 1)) IC IM JM hV
  refine lv_aload_n hx hb dL_law_1798 rfl (lv_at hl 1 rfl) ?_
  refine lv_aload_n hx hb dL_law_1799 rfl (lv_at hl 0 rfl) ?_
  refine lv_iload_n hx hb dL_law_1800 rfl (lv_at hl 3 rfl) ?_
  refine lv_iconst (v := (1 : Int32)) hx hb dL_law_1801 (by decide) ?_
  refine lv_iadd hx hb dL_law_1802 ?_
  refine w_sld K hT (n := 1) rfl (by omega) dL_law_1803 ?_
  refine w_callCi (rest := []) K hT hl (kX6_room (l := l) (G := G) (ad := gad S0) gInj_gad (xs (i + 1)) IC J00 r h1) kLC_0 rfl (gG_V q_1060 q_1061 q_1062 q_133 q_1063) nm_X6_room ⟨Nat.le_of_ble_eq_true rfl, Nat.le_of_ble_eq_true rfl⟩ rfl rfl (Nat.le_of_ble_eq_true rfl) ⟨Nat.le_of_ble_eq_true rfl, Nat.le_of_ble_eq_true rfl⟩ dL_law_1804 (fun H locs hT => ?_)
  refine lv_aload_n hx hb dL_law_1807 rfl (lv_at hl 2 rfl) ?_
  refine lv_aload_n hx hb dL_law_1808 rfl (lv_at hl 0 rfl) ?_
  refine lv_iload_n hx hb dL_law_1809 rfl (lv_at hl 3 rfl) ?_
  refine lv_iconst (v := (1 : Int32)) hx hb dL_law_1810 (by decide) ?_
  refine lv_iadd hx hb dL_law_1811 ?_
  refine w_sld K hT (n := 1) rfl (by omega) dL_law_1812 ?_
  refine w_callMi (rest := [.int r]) K hT hl (kX7_room (l := l) (G := G) (ad := gad (S0 + 328)) gInj_gad (xs (i + 1)) IM JM r h2) kLM_0 rfl (gG_V q_1597 q_1598 q_1599 q_139 q_1600) nm_X7_room ⟨Nat.le_of_ble_eq_true rfl, Nat.le_of_ble_eq_true rfl⟩ rfl rfl (Nat.le_of_ble_eq_true rfl) ⟨Nat.le_of_ble_eq_true rfl, Nat.le_of_ble_eq_true rfl⟩ dL_law_1813 (fun H locs hT => ?_)
  refine lv_icmp_eq (tgt := 1916) hx hb dL_law_1816 (by decide) (fun _ => ?_) (fun c1 => absurd rfl c1)
  exact hnext _ _ _ _ _ hV2 hT _ hl
def st_52 (V : gV) : Prop := ∀ (a1 : Int32) (IC IM : gI) (JM : gJ), V IC IM JM → ∃ (r : Int32) (IC' : gI) (IM' : gI) (JM' : gJ), fX6_can a1 IC = some (r, IC') ∧ fX7_can a1 IM JM = some (r, IM', JM') ∧ V IC' IM' JM'
set_option maxHeartbeats 4000000 in
set_option maxRecDepth 100000 in
theorem law_52 {p : Program} {l : Launch} {e : Env} {s : State} {m : MethodId} {args : Array Value} {below : List Frame} {meth : Method} {c : Code} {Q : State → Prop} {G : gG} {S0 b Ln : Nat} {xs : Nat → Int32} {V : gV} (K : gLw G S0 b Ln xs p s m args c) {i : Nat} (hi : i + 6 ≤ Ln) (hst : st_52 V) (hnext : ∀ (IC IM : gI) (JM : gJ) (H : Heap) (locs : List Loc), V IC IM JM → gTw G S0 s IC IM JM H locs → ∀ (ls : Array Slot), lv_has ls 4 [(0, .ref b), (1, .ref (gad S0 0)), (2, .ref (gad (S0 + 328) 0)), (3, .int (nI i))] → W p l e room_1 s m args below meth c H locs 341 15174 Q (F0 m 1916 ls [])) : ∀ (IC IM : gI) (JM : gJ) (H : Heap) (locs : List Loc), V IC IM JM → gTw G S0 s IC IM JM H locs → ∀ (ls : Array Slot), lv_has ls 4 [(0, .ref b), (1, .ref (gad S0 0)), (2, .ref (gad (S0 + 328) 0)), (3, .int (nI i))] → W p l e room_1 s m args below meth c H locs 341 15174 Q (F0 m 1821 ls []) := by
  have hx := K.1.1; have hb := K.1.2.1
  intro IC IM JM H locs hV hT ls hl
  obtain ⟨r, IC', IM', JM', h1, h2, hV2⟩ := hst (xs (i + 1)) IC IM JM hV
  refine lv_aload_n hx hb dL_law_1821 rfl (lv_at hl 1 rfl) ?_
  refine lv_aload_n hx hb dL_law_1822 rfl (lv_at hl 0 rfl) ?_
  refine lv_iload_n hx hb dL_law_1823 rfl (lv_at hl 3 rfl) ?_
  refine lv_iconst (v := (1 : Int32)) hx hb dL_law_1824 (by decide) ?_
  refine lv_iadd hx hb dL_law_1825 ?_
  refine w_sld K hT (n := 1) rfl (by omega) dL_law_1826 ?_
  refine w_callCi (rest := []) K hT hl (kX6_can (l := l) (G := G) (ad := gad S0) gInj_gad (xs (i + 1)) IC J00 r IC' h1) kLC_0 rfl (gG_V q_1064 q_1065 q_1066 q_133 q_1067) nm_X6_can ⟨Nat.le_of_ble_eq_true rfl, Nat.le_of_ble_eq_true rfl⟩ rfl rfl (Nat.le_of_ble_eq_true rfl) ⟨Nat.le_of_ble_eq_true rfl, Nat.le_of_ble_eq_true rfl⟩ dL_law_1827 (fun H locs hT => ?_)
  refine lv_aload_n hx hb dL_law_1830 rfl (lv_at hl 2 rfl) ?_
  refine lv_aload_n hx hb dL_law_1831 rfl (lv_at hl 0 rfl) ?_
  refine lv_iload_n hx hb dL_law_1832 rfl (lv_at hl 3 rfl) ?_
  refine lv_iconst (v := (1 : Int32)) hx hb dL_law_1833 (by decide) ?_
  refine lv_iadd hx hb dL_law_1834 ?_
  refine w_sld K hT (n := 1) rfl (by omega) dL_law_1835 ?_
  refine w_callMi (rest := [.int r]) K hT hl (kX7_can (l := l) (G := G) (ad := gad (S0 + 328)) gInj_gad (xs (i + 1)) IM JM r IM' JM' h2) kLM_0 rfl (gG_V q_1562 q_1563 q_1564 q_139 q_1565) nm_X7_can ⟨Nat.le_of_ble_eq_true rfl, Nat.le_of_ble_eq_true rfl⟩ rfl rfl (Nat.le_of_ble_eq_true rfl) ⟨Nat.le_of_ble_eq_true rfl, Nat.le_of_ble_eq_true rfl⟩ dL_law_1836 (fun H locs hT => ?_)
  refine lv_icmp_eq (tgt := 1916) hx hb dL_law_1839 (by decide) (fun _ => ?_) (fun c1 => absurd rfl c1)
  exact hnext _ _ _ _ _ hV2 hT _ hl
def st_53 (V : gV) : Prop := ∀ (a1 : Int32) (IC IM : gI) (JM : gJ), V IC IM JM → ∃ (r : Int32), fX6_ledger a1 IC = some r ∧ fX7_ledger a1 IM = some r ∧ V IC IM JM
set_option maxHeartbeats 4000000 in
set_option maxRecDepth 100000 in
theorem law_53 {p : Program} {l : Launch} {e : Env} {s : State} {m : MethodId} {args : Array Value} {below : List Frame} {meth : Method} {c : Code} {Q : State → Prop} {G : gG} {S0 b Ln : Nat} {xs : Nat → Int32} {V : gV} (K : gLw G S0 b Ln xs p s m args c) {i : Nat} (hi : i + 6 ≤ Ln) (hst : st_53 V) (hnext : ∀ (IC IM : gI) (JM : gJ) (H : Heap) (locs : List Loc), V IC IM JM → gTw G S0 s IC IM JM H locs → ∀ (ls : Array Slot), lv_has ls 4 [(0, .ref b), (1, .ref (gad S0 0)), (2, .ref (gad (S0 + 328) 0)), (3, .int (nI i))] → W p l e room_1 s m args below meth c H locs 341 15174 Q (F0 m 1916 ls [])) : ∀ (IC IM : gI) (JM : gJ) (H : Heap) (locs : List Loc), V IC IM JM → gTw G S0 s IC IM JM H locs → ∀ (ls : Array Slot), lv_has ls 4 [(0, .ref b), (1, .ref (gad S0 0)), (2, .ref (gad (S0 + 328) 0)), (3, .int (nI i))] → W p l e room_1 s m args below meth c H locs 341 15174 Q (F0 m 1844 ls []) := by
  have hx := K.1.1; have hb := K.1.2.1
  intro IC IM JM H locs hV hT ls hl
  obtain ⟨r, h1, h2, hV2⟩ := hst (xs (i + 1)) IC IM JM hV
  refine lv_aload_n hx hb dL_law_1844 rfl (lv_at hl 1 rfl) ?_
  refine lv_aload_n hx hb dL_law_1845 rfl (lv_at hl 0 rfl) ?_
  refine lv_iload_n hx hb dL_law_1846 rfl (lv_at hl 3 rfl) ?_
  refine lv_iconst (v := (1 : Int32)) hx hb dL_law_1847 (by decide) ?_
  refine lv_iadd hx hb dL_law_1848 ?_
  refine w_sld K hT (n := 1) rfl (by omega) dL_law_1849 ?_
  refine w_callCi (rest := []) K hT hl (kX6_ledger (l := l) (G := G) (ad := gad S0) gInj_gad (xs (i + 1)) IC J00 r h1) kLC_0 rfl (gG_V q_882 q_883 q_884 q_133 q_885) nm_X6_ledger ⟨Nat.le_of_ble_eq_true rfl, Nat.le_of_ble_eq_true rfl⟩ rfl rfl (Nat.le_of_ble_eq_true rfl) ⟨Nat.le_of_ble_eq_true rfl, Nat.le_of_ble_eq_true rfl⟩ dL_law_1850 (fun H locs hT => ?_)
  refine lv_aload_n hx hb dL_law_1853 rfl (lv_at hl 2 rfl) ?_
  refine lv_aload_n hx hb dL_law_1854 rfl (lv_at hl 0 rfl) ?_
  refine lv_iload_n hx hb dL_law_1855 rfl (lv_at hl 3 rfl) ?_
  refine lv_iconst (v := (1 : Int32)) hx hb dL_law_1856 (by decide) ?_
  refine lv_iadd hx hb dL_law_1857 ?_
  refine w_sld K hT (n := 1) rfl (by omega) dL_law_1858 ?_
  refine w_callMi (rest := [.int r]) K hT hl (kX7_ledger (l := l) (G := G) (ad := gad (S0 + 328)) gInj_gad (xs (i + 1)) IM JM r h2) kLM_0 rfl (gG_V q_1550 q_1551 q_1552 q_139 q_1553) nm_X7_ledger ⟨Nat.le_of_ble_eq_true rfl, Nat.le_of_ble_eq_true rfl⟩ rfl rfl (Nat.le_of_ble_eq_true rfl) ⟨Nat.le_of_ble_eq_true rfl, Nat.le_of_ble_eq_true rfl⟩ dL_law_1859 (fun H locs hT => ?_)
  refine lv_icmp_eq (tgt := 1916) hx hb dL_law_1862 (by decide) (fun _ => ?_) (fun c1 => absurd rfl c1)
  exact hnext _ _ _ _ _ hV2 hT _ hl
def st_54 (V : gV) : Prop := ∀ (IC IM : gI) (JM : gJ), V IC IM JM → ∃ (r : Int32) (IC' : gI) (IM' : gI), fX6_image IC = some (r, IC') ∧ fX7_image IM = some (r, IM') ∧ V IC' IM' JM
set_option maxHeartbeats 4000000 in
set_option maxRecDepth 100000 in
theorem law_54 {p : Program} {l : Launch} {e : Env} {s : State} {m : MethodId} {args : Array Value} {below : List Frame} {meth : Method} {c : Code} {Q : State → Prop} {G : gG} {S0 b Ln : Nat} {xs : Nat → Int32} {V : gV} (K : gLw G S0 b Ln xs p s m args c) {i : Nat} (hi : i + 6 ≤ Ln) (hst : st_54 V) (hnext : ∀ (IC IM : gI) (JM : gJ) (H : Heap) (locs : List Loc), V IC IM JM → gTw G S0 s IC IM JM H locs → ∀ (ls : Array Slot), lv_has ls 4 [(0, .ref b), (1, .ref (gad S0 0)), (2, .ref (gad (S0 + 328) 0)), (3, .int (nI i))] → W p l e room_1 s m args below meth c H locs 341 15174 Q (F0 m 1916 ls [])) : ∀ (IC IM : gI) (JM : gJ) (H : Heap) (locs : List Loc), V IC IM JM → gTw G S0 s IC IM JM H locs → ∀ (ls : Array Slot), lv_has ls 4 [(0, .ref b), (1, .ref (gad S0 0)), (2, .ref (gad (S0 + 328) 0)), (3, .int (nI i))] → W p l e room_1 s m args below meth c H locs 341 15174 Q (F0 m 1867 ls []) := by
  have hx := K.1.1; have hb := K.1.2.1
  intro IC IM JM H locs hV hT ls hl
  obtain ⟨r, IC', IM', h1, h2, hV2⟩ := hst  IC IM JM hV
  refine lv_aload_n hx hb dL_law_1867 rfl (lv_at hl 1 rfl) ?_
  refine w_callCi (rest := []) K hT hl (kX6_image (l := l) (G := G) (ad := gad S0) gInj_gad IC J00 r IC' h1) kLC_0 rfl (gG_V q_836 q_837 q_838 q_133 q_839) nm_X6_image ⟨Nat.le_of_ble_eq_true rfl, Nat.le_of_ble_eq_true rfl⟩ rfl rfl (Nat.le_of_ble_eq_true rfl) ⟨Nat.le_of_ble_eq_true rfl, Nat.le_of_ble_eq_true rfl⟩ dL_law_1868 (fun H locs hT => ?_)
  refine lv_aload_n hx hb dL_law_1871 rfl (lv_at hl 2 rfl) ?_
  refine w_callMi (rest := [.int r]) K hT hl (kX7_image (l := l) (G := G) (ad := gad (S0 + 328)) gInj_gad IM JM r IM' h2) kLM_0 rfl (gG_V q_1781 q_1782 q_1783 q_139 q_1784) nm_X7_image ⟨Nat.le_of_ble_eq_true rfl, Nat.le_of_ble_eq_true rfl⟩ rfl rfl (Nat.le_of_ble_eq_true rfl) ⟨Nat.le_of_ble_eq_true rfl, Nat.le_of_ble_eq_true rfl⟩ dL_law_1872 (fun H locs hT => ?_)
  refine lv_icmp_eq (tgt := 1916) hx hb dL_law_1875 (by decide) (fun _ => ?_) (fun c1 => absurd rfl c1)
  exact hnext _ _ _ _ _ hV2 hT _ hl
def st_55 (V : gV) : Prop := ∀ (IC IM : gI) (JM : gJ), V IC IM JM → ∃ (r : Int32) (IC' : gI) (IM' : gI), fX6_back IC = some (r, IC') ∧ fX7_back IM = some (r, IM') ∧ V IC' IM' JM
set_option maxHeartbeats 4000000 in
set_option maxRecDepth 100000 in
theorem law_55 {p : Program} {l : Launch} {e : Env} {s : State} {m : MethodId} {args : Array Value} {below : List Frame} {meth : Method} {c : Code} {Q : State → Prop} {G : gG} {S0 b Ln : Nat} {xs : Nat → Int32} {V : gV} (K : gLw G S0 b Ln xs p s m args c) {i : Nat} (hi : i + 6 ≤ Ln) (hst : st_55 V) (hnext : ∀ (IC IM : gI) (JM : gJ) (H : Heap) (locs : List Loc), V IC IM JM → gTw G S0 s IC IM JM H locs → ∀ (ls : Array Slot), lv_has ls 4 [(0, .ref b), (1, .ref (gad S0 0)), (2, .ref (gad (S0 + 328) 0)), (3, .int (nI i))] → W p l e room_1 s m args below meth c H locs 341 15174 Q (F0 m 1916 ls [])) : ∀ (IC IM : gI) (JM : gJ) (H : Heap) (locs : List Loc), V IC IM JM → gTw G S0 s IC IM JM H locs → ∀ (ls : Array Slot), lv_has ls 4 [(0, .ref b), (1, .ref (gad S0 0)), (2, .ref (gad (S0 + 328) 0)), (3, .int (nI i))] → W p l e room_1 s m args below meth c H locs 341 15174 Q (F0 m 1880 ls []) := by
  have hx := K.1.1; have hb := K.1.2.1
  intro IC IM JM H locs hV hT ls hl
  obtain ⟨r, IC', IM', h1, h2, hV2⟩ := hst  IC IM JM hV
  refine lv_aload_n hx hb dL_law_1880 rfl (lv_at hl 1 rfl) ?_
  refine w_callCi (rest := []) K hT hl (kX6_back (l := l) (G := G) (ad := gad S0) gInj_gad IC J00 r IC' h1) kLC_0 rfl (gG_V q_846 q_847 q_848 q_133 q_849) nm_X6_back ⟨Nat.le_of_ble_eq_true rfl, Nat.le_of_ble_eq_true rfl⟩ rfl rfl (Nat.le_of_ble_eq_true rfl) ⟨Nat.le_of_ble_eq_true rfl, Nat.le_of_ble_eq_true rfl⟩ dL_law_1881 (fun H locs hT => ?_)
  refine lv_aload_n hx hb dL_law_1884 rfl (lv_at hl 2 rfl) ?_
  refine w_callMi (rest := [.int r]) K hT hl (kX7_back (l := l) (G := G) (ad := gad (S0 + 328)) gInj_gad IM JM r IM' h2) kLM_0 rfl (gG_V q_1785 q_1786 q_1787 q_139 q_1788) nm_X7_back ⟨Nat.le_of_ble_eq_true rfl, Nat.le_of_ble_eq_true rfl⟩ rfl rfl (Nat.le_of_ble_eq_true rfl) ⟨Nat.le_of_ble_eq_true rfl, Nat.le_of_ble_eq_true rfl⟩ dL_law_1885 (fun H locs hT => ?_)
  refine lv_icmp_eq (tgt := 1916) hx hb dL_law_1888 (by decide) (fun _ => ?_) (fun c1 => absurd rfl c1)
  exact hnext _ _ _ _ _ hV2 hT _ hl
def st_56 (V : gV) : Prop := ∀ (a1 : Int32) (IC IM : gI) (JM : gJ), V IC IM JM → ∃ (r : Int32), fX6_about a1 IC = r ∧ fX7_about a1 IM = some r ∧ V IC IM JM
set_option maxHeartbeats 4000000 in
set_option maxRecDepth 100000 in
theorem law_56 {p : Program} {l : Launch} {e : Env} {s : State} {m : MethodId} {args : Array Value} {below : List Frame} {meth : Method} {c : Code} {Q : State → Prop} {G : gG} {S0 b Ln : Nat} {xs : Nat → Int32} {V : gV} (K : gLw G S0 b Ln xs p s m args c) {i : Nat} (hi : i + 6 ≤ Ln) (hst : st_56 V) (hnext : ∀ (IC IM : gI) (JM : gJ) (H : Heap) (locs : List Loc), V IC IM JM → gTw G S0 s IC IM JM H locs → ∀ (ls : Array Slot), lv_has ls 4 [(0, .ref b), (1, .ref (gad S0 0)), (2, .ref (gad (S0 + 328) 0)), (3, .int (nI i))] → W p l e room_1 s m args below meth c H locs 341 15174 Q (F0 m 1916 ls [])) : ∀ (IC IM : gI) (JM : gJ) (H : Heap) (locs : List Loc), V IC IM JM → gTw G S0 s IC IM JM H locs → ∀ (ls : Array Slot), lv_has ls 4 [(0, .ref b), (1, .ref (gad S0 0)), (2, .ref (gad (S0 + 328) 0)), (3, .int (nI i))] → W p l e room_1 s m args below meth c H locs 341 15174 Q (F0 m 1893 ls []) := by
  have hx := K.1.1; have hb := K.1.2.1
  intro IC IM JM H locs hV hT ls hl
  obtain ⟨r, h1, h2, hV2⟩ := hst (xs (i + 1)) IC IM JM hV
  refine lv_aload_n hx hb dL_law_1893 rfl (lv_at hl 1 rfl) ?_
  refine lv_aload_n hx hb dL_law_1894 rfl (lv_at hl 0 rfl) ?_
  refine lv_iload_n hx hb dL_law_1895 rfl (lv_at hl 3 rfl) ?_
  refine lv_iconst (v := (1 : Int32)) hx hb dL_law_1896 (by decide) ?_
  refine lv_iadd hx hb dL_law_1897 ?_
  refine w_sld K hT (n := 1) rfl (by omega) dL_law_1898 ?_
  refine w_callCi (rest := []) K hT hl (kX6_about (l := l) (G := G) (ad := gad S0) gInj_gad (xs (i + 1)) IC J00 r h1) kLC_0 rfl (gG_V q_890 q_891 q_892 q_133 q_893) nm_X6_about ⟨Nat.le_of_ble_eq_true rfl, Nat.le_of_ble_eq_true rfl⟩ rfl rfl (Nat.le_of_ble_eq_true rfl) ⟨Nat.le_of_ble_eq_true rfl, Nat.le_of_ble_eq_true rfl⟩ dL_law_1899 (fun H locs hT => ?_)
  refine lv_aload_n hx hb dL_law_1902 rfl (lv_at hl 2 rfl) ?_
  refine lv_aload_n hx hb dL_law_1903 rfl (lv_at hl 0 rfl) ?_
  refine lv_iload_n hx hb dL_law_1904 rfl (lv_at hl 3 rfl) ?_
  refine lv_iconst (v := (1 : Int32)) hx hb dL_law_1905 (by decide) ?_
  refine lv_iadd hx hb dL_law_1906 ?_
  refine w_sld K hT (n := 1) rfl (by omega) dL_law_1907 ?_
  refine w_callMi (rest := [.int r]) K hT hl (kX7_about (l := l) (G := G) (ad := gad (S0 + 328)) gInj_gad (xs (i + 1)) IM JM r h2) kLM_0 rfl (gG_V q_1789 q_1790 q_1791 q_139 q_1792) nm_X7_about ⟨Nat.le_of_ble_eq_true rfl, Nat.le_of_ble_eq_true rfl⟩ rfl rfl (Nat.le_of_ble_eq_true rfl) ⟨Nat.le_of_ble_eq_true rfl, Nat.le_of_ble_eq_true rfl⟩ dL_law_1908 (fun H locs hT => ?_)
  refine lv_icmp_eq (tgt := 1916) hx hb dL_law_1911 (by decide) (fun _ => ?_) (fun c1 => absurd rfl c1)
  exact hnext _ _ _ _ _ hV2 hT _ hl
def lawOK (V : gV) : Prop := st_0 V ∧ st_1 V ∧ st_2 V ∧ st_3 V ∧ st_4 V ∧ st_5 V ∧ st_6 V ∧ st_7 V ∧ st_8 V ∧ st_9 V ∧ st_10 V ∧ st_11 V ∧ st_12 V ∧ st_13 V ∧ st_14 V ∧ st_15 V ∧ st_16 V ∧ st_17 V ∧ st_18 V ∧ st_19 V ∧ st_20 V ∧ st_21 V ∧ st_22 V ∧ st_23 V ∧ st_24 V ∧ st_25 V ∧ st_26 V ∧ st_27 V ∧ st_28 V ∧ st_29 V ∧ st_30 V ∧ st_31 V ∧ st_32 V ∧ st_33 V ∧ st_34 V ∧ st_35 V ∧ st_36 V ∧ st_37 V ∧ st_38 V ∧ st_39 V ∧ st_40 V ∧ st_41 V ∧ st_42 V ∧ st_43 V ∧ st_44 V ∧ st_45 V ∧ st_46 V ∧ st_47 V ∧ st_48 V ∧ st_49 V ∧ st_50 V ∧ st_51 V ∧ st_52 V ∧ st_53 V ∧ st_54 V ∧ st_55 V ∧ st_56 V
