-- 23: the law: its loop, its start
/-! THE CLAIM OUT OF ONE WALK OF THE LAW'S BODY. Your part is whole_start (and what it stands on); all else here is the same for every law, but numbers. -/
def R_law : String := "DawnPerquisiteLaw"
def lw_P (b : Addr) (xs : List Int32) (args : Array Value) (s : State) : Prop := args = #[.ref b] ∧ s.IntsAt b xs ∧ xs.length ≤ 3072 ∧ (Jvm.Cond.and given_1 narrow_1).before args s = true
def lw_Q (_ : Array Value) (s : State) (o : Outcome) (t : State) : Prop := o = .returned (some (.int 1)) ∧ Framed s o t [] 600000 7302250
def lw_Z (below : List Frame) (a : Array Value) (s : State) : State → Prop := fun t => ∃ o, t.status = .running ∧ Ended t below o ∧ lw_Q a s o t
/-- the law's own end, with 1 on the stack, nothing written that was there before, its room as the claim has it -/
theorem lw_ret {p : Program} {l : Launch} {e : Env} {s : State} {m : MethodId} {below : List Frame} {meth : Method} {c : Code} {b : Nat} (hx : p.tables.exec = Jvm.exec) (hb : c.code = code) (hr : meth.sig.returnType = ret) (hlocks : meth.locks = false) {pc : Nat} {H : Heap} {ls : Array Slot} (hdg : decode code pc = .ok (.ireturn, 1)) : W p l e room_1 s m #[Value.ref b] below meth c H [] 600000 7302250 (lw_Z below #[Value.ref b] s) (F0 m pc ls [.int 1]) := by
  intro T hT X
  obtain ⟨fs, hret, hrun, hended, hW, hframe⟩ := X.leave (v := some (.int 1)) (hlocks := hlocks) (fun h => by rw [hr] at h; cases h)
  have hmeth' : T.vm.method? m = some meth := X.method'
  refine ⟨T.setFrames fs, ?_, .returned (some (.int 1)), hrun, hended, rfl, ⟨_, rfl⟩, hW, hframe⟩
  jvm_step X.here [X.here.top, hx, hb, hdg, hmeth', hr, ret, narrow_b1]
  (try refine ⟨rfl, ?_⟩); (try refine ⟨rfl, ?_⟩)
  first | (intro acts; rw [hret _ acts rfl rfl rfl]) | rw [hret _ _ rfl rfl rfl]
  exact Steps.refl _
/-- what holds at the law's entry: the machine, the code, the tables' words (any of lw_tbl by 'hts w (by decide +kernel)'), the script of L ints xs at the cell b, what the Statement gives of the start (any of its parts by flat_of_before) -/
def lw_At (p : Program) (s : State) (m : MethodId) (meth : Method) (c : Code) (b L : Nat) (xs : Nat → Int32) : Prop :=
  p.tables.exec = Jvm.exec ∧ c.code = code ∧ meth.sig.returnType = ret ∧ c.maxLocals = 4 ∧ s.vm.findClass R_law = some m.cls ∧ (∀ w ∈ lw_tbl, w.before #[Value.ref b] s = true) ∧ va_X b L xs s s.heap ∧ b < s.heap.size ∧ meth.locks = false ∧ (Jvm.Cond.and given_1 narrow_1).before #[Value.ref b] s = true

set_option maxHeartbeats 8000000 in
set_option maxRecDepth 100000 in
theorem law_turn {p : Program} {l : Launch} {e : Env} {s : State} {m : MethodId} {args : Array Value} {below : List Frame} {meth : Method} {c : Code} {Q : State → Prop} {G : gG} {S0 b Ln : Nat} {xs : Nat → Int32} {V : gV} (K : gLw G S0 b Ln xs p s m args c) (hOK : lawOK V) {i : Nat} (hi : i + 6 ≤ Ln) (hnext : ∀ (IC IM : gI) (JM : gJ) (H : Heap) (locs : List Loc), V IC IM JM → gTw G S0 s IC IM JM H locs → ∀ (ls : Array Slot), lv_has ls 4 [(0, .ref b), (1, .ref (gad S0 0)), (2, .ref (gad (S0 + 328) 0)), (3, .int (nI i))] → W p l e room_1 s m args below meth c H locs 341 15174 Q (F0 m 1916 ls [])) (IC IM : gI) (JM : gJ) (H : Heap) (locs : List Loc) (hV : V IC IM JM) (hT : gTw G S0 s IC IM JM H locs) (ls : Array Slot) (hl : lv_has ls 4 [(0, .ref b), (1, .ref (gad S0 0)), (2, .ref (gad (S0 + 328) 0)), (3, .int (nI i))]) (j : Nat) (hj : j < 64) : W p l e room_1 s m args below meth c H locs 341 15174 Q (F0 m 33 ls [.int (nI j)]) := by
  have hx := K.1.1; have hb := K.1.2.1
  match j, hj with
    | 0, _ => exact g_tabIn (k := nI 0) (tgt := 276) (off := 243) hx hb rfl dL_law_33 (by decide) (by decide) (by decide) (by decide) (law_0 K hi hOK.1 hnext IC IM JM H locs hV hT ls hl)
    | 1, _ => exact g_tabIn (k := nI 1) (tgt := 319) (off := 286) hx hb rfl dL_law_33 (by decide) (by decide) (by decide) (by decide) (law_1 K hi hOK.2.1 hnext IC IM JM H locs hV hT ls hl)
    | 2, _ => exact g_tabIn (k := nI 2) (tgt := 372) (off := 339) hx hb rfl dL_law_33 (by decide) (by decide) (by decide) (by decide) (law_2 K hi hOK.2.2.1 hnext IC IM JM H locs hV hT ls hl)
    | 3, _ => exact g_tabIn (k := nI 3) (tgt := 435) (off := 402) hx hb rfl dL_law_33 (by decide) (by decide) (by decide) (by decide) (law_3 K hi hOK.2.2.2.1 hnext IC IM JM H locs hV hT ls hl)
    | 4, _ => exact g_tabIn (k := nI 4) (tgt := 458) (off := 425) hx hb rfl dL_law_33 (by decide) (by decide) (by decide) (by decide) (law_4 K hi hOK.2.2.2.2.1 hnext IC IM JM H locs hV hT ls hl)
    | 5, _ => exact g_tabIn (k := nI 5) (tgt := 471) (off := 438) hx hb rfl dL_law_33 (by decide) (by decide) (by decide) (by decide) (law_5 K hi hOK.2.2.2.2.2.1 hnext IC IM JM H locs hV hT ls hl)
    | 6, _ => exact g_tabIn (k := nI 6) (tgt := 494) (off := 461) hx hb rfl dL_law_33 (by decide) (by decide) (by decide) (by decide) (law_6 K hi hOK.2.2.2.2.2.2.1 hnext IC IM JM H locs hV hT ls hl)
    | 7, _ => exact g_tabIn (k := nI 7) (tgt := 517) (off := 484) hx hb rfl dL_law_33 (by decide) (by decide) (by decide) (by decide) (law_7 K hi hOK.2.2.2.2.2.2.2.1 hnext IC IM JM H locs hV hT ls hl)
    | 8, _ => exact g_tabIn (k := nI 8) (tgt := 540) (off := 507) hx hb rfl dL_law_33 (by decide) (by decide) (by decide) (by decide) (law_8 K hi hOK.2.2.2.2.2.2.2.2.1 hnext IC IM JM H locs hV hT ls hl)
    | 9, _ => exact g_tabIn (k := nI 9) (tgt := 563) (off := 530) hx hb rfl dL_law_33 (by decide) (by decide) (by decide) (by decide) (law_9 K hi hOK.2.2.2.2.2.2.2.2.2.1 hnext IC IM JM H locs hV hT ls hl)
    | 10, _ => exact g_tabIn (k := nI 10) (tgt := 586) (off := 553) hx hb rfl dL_law_33 (by decide) (by decide) (by decide) (by decide) (law_10 K hi hOK.2.2.2.2.2.2.2.2.2.2.1 hnext IC IM JM H locs hV hT ls hl)
    | 11, _ => exact g_tabIn (k := nI 11) (tgt := 619) (off := 586) hx hb rfl dL_law_33 (by decide) (by decide) (by decide) (by decide) (law_11 K hi hOK.2.2.2.2.2.2.2.2.2.2.2.1 hnext IC IM JM H locs hV hT ls hl)
    | 12, _ => exact g_tabIn (k := nI 12) (tgt := 642) (off := 609) hx hb rfl dL_law_33 (by decide) (by decide) (by decide) (by decide) (law_12 K hi hOK.2.2.2.2.2.2.2.2.2.2.2.2.1 hnext IC IM JM H locs hV hT ls hl)
    | 13, _ => exact g_tabIn (k := nI 13) (tgt := 665) (off := 632) hx hb rfl dL_law_33 (by decide) (by decide) (by decide) (by decide) (law_13 K hi hOK.2.2.2.2.2.2.2.2.2.2.2.2.2.1 hnext IC IM JM H locs hV hT ls hl)
    | 14, _ => exact g_tabIn (k := nI 14) (tgt := 698) (off := 665) hx hb rfl dL_law_33 (by decide) (by decide) (by decide) (by decide) (law_14 K hi hOK.2.2.2.2.2.2.2.2.2.2.2.2.2.2.1 hnext IC IM JM H locs hV hT ls hl)
    | 15, _ => exact g_tabIn (k := nI 15) (tgt := 711) (off := 678) hx hb rfl dL_law_33 (by decide) (by decide) (by decide) (by decide) (law_15 K hi hOK.2.2.2.2.2.2.2.2.2.2.2.2.2.2.2.1 hnext IC IM JM H locs hV hT ls hl)
    | 16, _ => exact g_tabIn (k := nI 16) (tgt := 744) (off := 711) hx hb rfl dL_law_33 (by decide) (by decide) (by decide) (by decide) (law_16 K hi hOK.2.2.2.2.2.2.2.2.2.2.2.2.2.2.2.2.1 hnext IC IM JM H locs hV hT ls hl)
    | 17, _ => exact g_tabIn (k := nI 17) (tgt := 777) (off := 744) hx hb rfl dL_law_33 (by decide) (by decide) (by decide) (by decide) (law_17 K hi hOK.2.2.2.2.2.2.2.2.2.2.2.2.2.2.2.2.2.1 hnext IC IM JM H locs hV hT ls hl)
    | 18, _ => exact g_tabIn (k := nI 18) (tgt := 800) (off := 767) hx hb rfl dL_law_33 (by decide) (by decide) (by decide) (by decide) (law_18 K hi hOK.2.2.2.2.2.2.2.2.2.2.2.2.2.2.2.2.2.2.1 hnext IC IM JM H locs hV hT ls hl)
    | 19, _ => exact g_tabIn (k := nI 19) (tgt := 823) (off := 790) hx hb rfl dL_law_33 (by decide) (by decide) (by decide) (by decide) (law_19 K hi hOK.2.2.2.2.2.2.2.2.2.2.2.2.2.2.2.2.2.2.2.1 hnext IC IM JM H locs hV hT ls hl)
    | 20, _ => exact g_tabIn (k := nI 20) (tgt := 856) (off := 823) hx hb rfl dL_law_33 (by decide) (by decide) (by decide) (by decide) (law_20 K hi hOK.2.2.2.2.2.2.2.2.2.2.2.2.2.2.2.2.2.2.2.2.1 hnext IC IM JM H locs hV hT ls hl)
    | 21, _ => exact g_tabIn (k := nI 21) (tgt := 889) (off := 856) hx hb rfl dL_law_33 (by decide) (by decide) (by decide) (by decide) (law_21 K hi hOK.2.2.2.2.2.2.2.2.2.2.2.2.2.2.2.2.2.2.2.2.2.1 hnext IC IM JM H locs hV hT ls hl)
    | 22, _ => exact g_tabIn (k := nI 22) (tgt := 938) (off := 905) hx hb rfl dL_law_33 (by decide) (by decide) (by decide) (by decide) (law_22 K hi hOK.2.2.2.2.2.2.2.2.2.2.2.2.2.2.2.2.2.2.2.2.2.2.1 hnext IC IM JM H locs hV hT ls hl)
    | 23, _ => exact g_tabIn (k := nI 23) (tgt := 971) (off := 938) hx hb rfl dL_law_33 (by decide) (by decide) (by decide) (by decide) (law_23 K hi hOK.2.2.2.2.2.2.2.2.2.2.2.2.2.2.2.2.2.2.2.2.2.2.2.1 hnext IC IM JM H locs hV hT ls hl)
    | 24, _ => exact g_tabIn (k := nI 24) (tgt := 1021) (off := 988) hx hb rfl dL_law_33 (by decide) (by decide) (by decide) (by decide) (law_24 K hi hOK.2.2.2.2.2.2.2.2.2.2.2.2.2.2.2.2.2.2.2.2.2.2.2.2.1 hnext IC IM JM H locs hV hT ls hl)
    | 25, _ => exact g_tabIn (k := nI 25) (tgt := 1044) (off := 1011) hx hb rfl dL_law_33 (by decide) (by decide) (by decide) (by decide) (law_25 K hi hOK.2.2.2.2.2.2.2.2.2.2.2.2.2.2.2.2.2.2.2.2.2.2.2.2.2.1 hnext IC IM JM H locs hV hT ls hl)
    | 26, _ => exact g_tabIn (k := nI 26) (tgt := 1094) (off := 1061) hx hb rfl dL_law_33 (by decide) (by decide) (by decide) (by decide) (law_26 K hi hOK.2.2.2.2.2.2.2.2.2.2.2.2.2.2.2.2.2.2.2.2.2.2.2.2.2.2.1 hnext IC IM JM H locs hV hT ls hl)
    | 27, _ => exact g_tabIn (k := nI 27) (tgt := 1117) (off := 1084) hx hb rfl dL_law_33 (by decide) (by decide) (by decide) (by decide) (law_27 K hi hOK.2.2.2.2.2.2.2.2.2.2.2.2.2.2.2.2.2.2.2.2.2.2.2.2.2.2.2.1 hnext IC IM JM H locs hV hT ls hl)
    | 28, _ => exact g_tabIn (k := nI 28) (tgt := 1166) (off := 1133) hx hb rfl dL_law_33 (by decide) (by decide) (by decide) (by decide) (law_28 K hi hOK.2.2.2.2.2.2.2.2.2.2.2.2.2.2.2.2.2.2.2.2.2.2.2.2.2.2.2.2.1 hnext IC IM JM H locs hV hT ls hl)
    | 29, _ => exact g_tabIn (k := nI 29) (tgt := 1179) (off := 1146) hx hb rfl dL_law_33 (by decide) (by decide) (by decide) (by decide) (law_29 K hi hOK.2.2.2.2.2.2.2.2.2.2.2.2.2.2.2.2.2.2.2.2.2.2.2.2.2.2.2.2.2.1 hnext IC IM JM H locs hV hT ls hl)
    | 30, _ => exact g_tabIn (k := nI 30) (tgt := 1219) (off := 1186) hx hb rfl dL_law_33 (by decide) (by decide) (by decide) (by decide) (law_30 K hi hOK.2.2.2.2.2.2.2.2.2.2.2.2.2.2.2.2.2.2.2.2.2.2.2.2.2.2.2.2.2.2.1 hnext IC IM JM H locs hV hT ls hl)
    | 31, _ => exact g_tabIn (k := nI 31) (tgt := 1232) (off := 1199) hx hb rfl dL_law_33 (by decide) (by decide) (by decide) (by decide) (law_31 K hi hOK.2.2.2.2.2.2.2.2.2.2.2.2.2.2.2.2.2.2.2.2.2.2.2.2.2.2.2.2.2.2.2.1 hnext IC IM JM H locs hV hT ls hl)
    | 32, _ => exact g_tabIn (k := nI 32) (tgt := 1245) (off := 1212) hx hb rfl dL_law_33 (by decide) (by decide) (by decide) (by decide) (law_32 K hi hOK.2.2.2.2.2.2.2.2.2.2.2.2.2.2.2.2.2.2.2.2.2.2.2.2.2.2.2.2.2.2.2.2.1 hnext IC IM JM H locs hV hT ls hl)
    | 33, _ => exact g_tabIn (k := nI 33) (tgt := 1278) (off := 1245) hx hb rfl dL_law_33 (by decide) (by decide) (by decide) (by decide) (law_33 K hi hOK.2.2.2.2.2.2.2.2.2.2.2.2.2.2.2.2.2.2.2.2.2.2.2.2.2.2.2.2.2.2.2.2.2.1 hnext IC IM JM H locs hV hT ls hl)
    | 34, _ => exact g_tabIn (k := nI 34) (tgt := 1317) (off := 1284) hx hb rfl dL_law_33 (by decide) (by decide) (by decide) (by decide) (law_34 K hi hOK.2.2.2.2.2.2.2.2.2.2.2.2.2.2.2.2.2.2.2.2.2.2.2.2.2.2.2.2.2.2.2.2.2.2.1 hnext IC IM JM H locs hV hT ls hl)
    | 35, _ => exact g_tabIn (k := nI 35) (tgt := 1356) (off := 1323) hx hb rfl dL_law_33 (by decide) (by decide) (by decide) (by decide) (law_35 K hi hOK.2.2.2.2.2.2.2.2.2.2.2.2.2.2.2.2.2.2.2.2.2.2.2.2.2.2.2.2.2.2.2.2.2.2.2.1 hnext IC IM JM H locs hV hT ls hl)
    | 36, _ => exact g_tabIn (k := nI 36) (tgt := 1379) (off := 1346) hx hb rfl dL_law_33 (by decide) (by decide) (by decide) (by decide) (law_36 K hi hOK.2.2.2.2.2.2.2.2.2.2.2.2.2.2.2.2.2.2.2.2.2.2.2.2.2.2.2.2.2.2.2.2.2.2.2.2.1 hnext IC IM JM H locs hV hT ls hl)
    | 37, _ => exact g_tabIn (k := nI 37) (tgt := 1429) (off := 1396) hx hb rfl dL_law_33 (by decide) (by decide) (by decide) (by decide) (law_37 K hi hOK.2.2.2.2.2.2.2.2.2.2.2.2.2.2.2.2.2.2.2.2.2.2.2.2.2.2.2.2.2.2.2.2.2.2.2.2.2.1 hnext IC IM JM H locs hV hT ls hl)
    | 38, _ => exact g_tabIn (k := nI 38) (tgt := 1462) (off := 1429) hx hb rfl dL_law_33 (by decide) (by decide) (by decide) (by decide) (law_38 K hi hOK.2.2.2.2.2.2.2.2.2.2.2.2.2.2.2.2.2.2.2.2.2.2.2.2.2.2.2.2.2.2.2.2.2.2.2.2.2.2.1 hnext IC IM JM H locs hV hT ls hl)
    | 39, _ => exact g_tabIn (k := nI 39) (tgt := 1495) (off := 1462) hx hb rfl dL_law_33 (by decide) (by decide) (by decide) (by decide) (law_39 K hi hOK.2.2.2.2.2.2.2.2.2.2.2.2.2.2.2.2.2.2.2.2.2.2.2.2.2.2.2.2.2.2.2.2.2.2.2.2.2.2.2.1 hnext IC IM JM H locs hV hT ls hl)
    | 40, _ => exact g_tabIn (k := nI 40) (tgt := 1528) (off := 1495) hx hb rfl dL_law_33 (by decide) (by decide) (by decide) (by decide) (law_40 K hi hOK.2.2.2.2.2.2.2.2.2.2.2.2.2.2.2.2.2.2.2.2.2.2.2.2.2.2.2.2.2.2.2.2.2.2.2.2.2.2.2.2.1 hnext IC IM JM H locs hV hT ls hl)
    | 41, _ => exact g_tabIn (k := nI 41) (tgt := 1571) (off := 1538) hx hb rfl dL_law_33 (by decide) (by decide) (by decide) (by decide) (law_41 K hi hOK.2.2.2.2.2.2.2.2.2.2.2.2.2.2.2.2.2.2.2.2.2.2.2.2.2.2.2.2.2.2.2.2.2.2.2.2.2.2.2.2.2.1 hnext IC IM JM H locs hV hT ls hl)
    | 42, _ => exact g_tabIn (k := nI 42) (tgt := 1604) (off := 1571) hx hb rfl dL_law_33 (by decide) (by decide) (by decide) (by decide) (law_42 K hi hOK.2.2.2.2.2.2.2.2.2.2.2.2.2.2.2.2.2.2.2.2.2.2.2.2.2.2.2.2.2.2.2.2.2.2.2.2.2.2.2.2.2.2.1 hnext IC IM JM H locs hV hT ls hl)
    | 43, _ => exact g_tabIn (k := nI 43) (tgt := 1617) (off := 1584) hx hb rfl dL_law_33 (by decide) (by decide) (by decide) (by decide) (law_43 K hi hOK.2.2.2.2.2.2.2.2.2.2.2.2.2.2.2.2.2.2.2.2.2.2.2.2.2.2.2.2.2.2.2.2.2.2.2.2.2.2.2.2.2.2.2.1 hnext IC IM JM H locs hV hT ls hl)
    | 44, _ => exact g_tabIn (k := nI 44) (tgt := 1630) (off := 1597) hx hb rfl dL_law_33 (by decide) (by decide) (by decide) (by decide) (law_44 K hi hOK.2.2.2.2.2.2.2.2.2.2.2.2.2.2.2.2.2.2.2.2.2.2.2.2.2.2.2.2.2.2.2.2.2.2.2.2.2.2.2.2.2.2.2.2.1 hnext IC IM JM H locs hV hT ls hl)
    | 45, _ => exact g_tabIn (k := nI 45) (tgt := 1653) (off := 1620) hx hb rfl dL_law_33 (by decide) (by decide) (by decide) (by decide) (law_45 K hi hOK.2.2.2.2.2.2.2.2.2.2.2.2.2.2.2.2.2.2.2.2.2.2.2.2.2.2.2.2.2.2.2.2.2.2.2.2.2.2.2.2.2.2.2.2.2.1 hnext IC IM JM H locs hV hT ls hl)
    | 46, _ => exact g_tabIn (k := nI 46) (tgt := 1703) (off := 1670) hx hb rfl dL_law_33 (by decide) (by decide) (by decide) (by decide) (law_46 K hi hOK.2.2.2.2.2.2.2.2.2.2.2.2.2.2.2.2.2.2.2.2.2.2.2.2.2.2.2.2.2.2.2.2.2.2.2.2.2.2.2.2.2.2.2.2.2.2.1 hnext IC IM JM H locs hV hT ls hl)
    | 47, _ => exact g_tabIn (k := nI 47) (tgt := 1726) (off := 1693) hx hb rfl dL_law_33 (by decide) (by decide) (by decide) (by decide) (law_47 K hi hOK.2.2.2.2.2.2.2.2.2.2.2.2.2.2.2.2.2.2.2.2.2.2.2.2.2.2.2.2.2.2.2.2.2.2.2.2.2.2.2.2.2.2.2.2.2.2.2.1 hnext IC IM JM H locs hV hT ls hl)
    | 48, _ => exact g_tabIn (k := nI 48) (tgt := 1749) (off := 1716) hx hb rfl dL_law_33 (by decide) (by decide) (by decide) (by decide) (law_48 K hi hOK.2.2.2.2.2.2.2.2.2.2.2.2.2.2.2.2.2.2.2.2.2.2.2.2.2.2.2.2.2.2.2.2.2.2.2.2.2.2.2.2.2.2.2.2.2.2.2.2.1 hnext IC IM JM H locs hV hT ls hl)
    | 49, _ => exact g_tabIn (k := nI 49) (tgt := 1772) (off := 1739) hx hb rfl dL_law_33 (by decide) (by decide) (by decide) (by decide) (law_49 K hi hOK.2.2.2.2.2.2.2.2.2.2.2.2.2.2.2.2.2.2.2.2.2.2.2.2.2.2.2.2.2.2.2.2.2.2.2.2.2.2.2.2.2.2.2.2.2.2.2.2.2.1 hnext IC IM JM H locs hV hT ls hl)
    | 50, _ => exact g_tabIn (k := nI 50) (tgt := 1785) (off := 1752) hx hb rfl dL_law_33 (by decide) (by decide) (by decide) (by decide) (law_50 K hi hOK.2.2.2.2.2.2.2.2.2.2.2.2.2.2.2.2.2.2.2.2.2.2.2.2.2.2.2.2.2.2.2.2.2.2.2.2.2.2.2.2.2.2.2.2.2.2.2.2.2.2.1 hnext IC IM JM H locs hV hT ls hl)
    | 51, _ => exact g_tabIn (k := nI 51) (tgt := 1798) (off := 1765) hx hb rfl dL_law_33 (by decide) (by decide) (by decide) (by decide) (law_51 K hi hOK.2.2.2.2.2.2.2.2.2.2.2.2.2.2.2.2.2.2.2.2.2.2.2.2.2.2.2.2.2.2.2.2.2.2.2.2.2.2.2.2.2.2.2.2.2.2.2.2.2.2.2.1 hnext IC IM JM H locs hV hT ls hl)
    | 52, _ => exact g_tabIn (k := nI 52) (tgt := 1821) (off := 1788) hx hb rfl dL_law_33 (by decide) (by decide) (by decide) (by decide) (law_52 K hi hOK.2.2.2.2.2.2.2.2.2.2.2.2.2.2.2.2.2.2.2.2.2.2.2.2.2.2.2.2.2.2.2.2.2.2.2.2.2.2.2.2.2.2.2.2.2.2.2.2.2.2.2.2.1 hnext IC IM JM H locs hV hT ls hl)
    | 53, _ => exact g_tabIn (k := nI 53) (tgt := 1844) (off := 1811) hx hb rfl dL_law_33 (by decide) (by decide) (by decide) (by decide) (law_53 K hi hOK.2.2.2.2.2.2.2.2.2.2.2.2.2.2.2.2.2.2.2.2.2.2.2.2.2.2.2.2.2.2.2.2.2.2.2.2.2.2.2.2.2.2.2.2.2.2.2.2.2.2.2.2.2.1 hnext IC IM JM H locs hV hT ls hl)
    | 54, _ => exact g_tabIn (k := nI 54) (tgt := 1867) (off := 1834) hx hb rfl dL_law_33 (by decide) (by decide) (by decide) (by decide) (law_54 K hi hOK.2.2.2.2.2.2.2.2.2.2.2.2.2.2.2.2.2.2.2.2.2.2.2.2.2.2.2.2.2.2.2.2.2.2.2.2.2.2.2.2.2.2.2.2.2.2.2.2.2.2.2.2.2.2.1 hnext IC IM JM H locs hV hT ls hl)
    | 55, _ => exact g_tabIn (k := nI 55) (tgt := 1880) (off := 1847) hx hb rfl dL_law_33 (by decide) (by decide) (by decide) (by decide) (law_55 K hi hOK.2.2.2.2.2.2.2.2.2.2.2.2.2.2.2.2.2.2.2.2.2.2.2.2.2.2.2.2.2.2.2.2.2.2.2.2.2.2.2.2.2.2.2.2.2.2.2.2.2.2.2.2.2.2.2.1 hnext IC IM JM H locs hV hT ls hl)
    | 56, _ => exact g_tabIn (k := nI 56) (tgt := 1893) (off := 1860) hx hb rfl dL_law_33 (by decide) (by decide) (by decide) (by decide) (law_56 K hi hOK.2.2.2.2.2.2.2.2.2.2.2.2.2.2.2.2.2.2.2.2.2.2.2.2.2.2.2.2.2.2.2.2.2.2.2.2.2.2.2.2.2.2.2.2.2.2.2.2.2.2.2.2.2.2.2.2 hnext IC IM JM H locs hV hT ls hl)
    | j + 57, hj =>
      refine lv_tableOut (tgt := 1916) hx hb dL_law_33 (Or.inr ?_) (by decide) ?_
      · rw [nI_toInt (by omega)]; omega
      · exact hnext IC IM JM H locs hV hT ls hl
set_option maxHeartbeats 4000000 in
set_option maxRecDepth 100000 in
theorem law_loop {p : Program} {l : Launch} {e : Env} {s : State} {m : MethodId} {args : Array Value} {below : List Frame} {meth : Method} {c : Code} {Q : State → Prop} {G : gG} {S0 b Ln : Nat} {xs : Nat → Int32} {V : gV} (K : gLw G S0 b Ln xs p s m args c) (hOK : lawOK V) (hexit : ∀ (H : Heap) (locs : List Loc), va_S (gB S0) s.heap H locs → ∀ (ls : Array Slot), W p l e room_1 s m args below meth c H locs 341 15174 Q (F0 m 1922 ls [])) : ∀ (n i : Nat), Ln + 1 ≤ i + n → i ≤ Ln + 6 → ∀ (IC IM : gI) (JM : gJ) (H : Heap) (locs : List Loc), V IC IM JM → gTw G S0 s IC IM JM H locs → ∀ (ls : Array Slot), lv_has ls 4 [(0, .ref b), (1, .ref (gad S0 0)), (2, .ref (gad (S0 + 328) 0)), (3, .int (nI i))] → W p l e room_1 s m args below meth c H locs 341 15174 Q (F0 m 18 ls []) := by
  obtain ⟨C, hX, hbl, hS, hL⟩ := id K
  have hx := C.1; have hb := C.2.1
  intro n
  induction n with
  | zero =>
    intro i h1 h0 IC IM JM H locs hV hT ls hl
    refine lv_iload_n hx hb dL_law_18 rfl (lv_at hl 3 rfl) ?_
    refine lv_aload_n hx hb dL_law_19 rfl (lv_at hl 0 rfl) ?_
    refine va_slen hx hb hX hbl (fun h => by unfold gB at h; omega) hT.1.2.2 dL_law_20 ?_
    refine lv_bipush (v := (6 : Int32)) hx hb dL_law_21 (by decide) ?_
    refine lv_isub hx hb dL_law_23 ?_
    refine lv_icmp_gt (tgt := 1922) hx hb dL_law_24 (by decide) (fun c1 => ?_) (fun c1 => ?_)
    · exact hexit H locs hT.1.2.2 ls
    · exfalso
      have e1 : (Int32.ofNat Ln - 6 : Int32).toInt = (Ln : Int) - 6 := pk_sub_toInt (a := Ln) (b := 6) (by omega) (by decide)
      have e2 : (nI i).toInt = (i : Int) := nI_toInt (by omega)
      rw [Int32.lt_iff_toInt_lt, e1, e2] at c1
      omega
  | succ n ih =>
    intro i h1 h0 IC IM JM H locs hV hT ls hl
    refine lv_iload_n hx hb dL_law_18 rfl (lv_at hl 3 rfl) ?_
    refine lv_aload_n hx hb dL_law_19 rfl (lv_at hl 0 rfl) ?_
    refine va_slen hx hb hX hbl (fun h => by unfold gB at h; omega) hT.1.2.2 dL_law_20 ?_
    refine lv_bipush (v := (6 : Int32)) hx hb dL_law_21 (by decide) ?_
    refine lv_isub hx hb dL_law_23 ?_
    refine lv_icmp_gt (tgt := 1922) hx hb dL_law_24 (by decide) (fun c1 => ?_) (fun c1 => ?_)
    · exact hexit H locs hT.1.2.2 ls
    · have e1 : (Int32.ofNat Ln - 6 : Int32).toInt = (Ln : Int) - 6 := pk_sub_toInt (a := Ln) (b := 6) (by omega) (by decide)
      have e2 : (nI i).toInt = (i : Int) := nI_toInt (by omega)
      rw [Int32.lt_iff_toInt_lt, e1, e2] at c1
      have hi : i + 6 ≤ Ln := by omega
      refine lv_aload_n hx hb dL_law_27 rfl (lv_at hl 0 rfl) ?_
      refine lv_iload_n hx hb dL_law_28 rfl (lv_at hl 3 rfl) ?_
      refine va_sld hx hb hX hbl (fun h => by unfold gB at h; omega) hT.1.2.2 (vp_in_nI (n := i) (by omega) (by omega)) dL_law_29 ?_
      refine lv_bipush (v := (63 : Int32)) hx hb dL_law_30 (by decide) ?_
      refine lv_iand hx hb dL_law_32 ?_
      obtain ⟨j, hj, ej⟩ := pk_andE (xs (nI i).toNatClampNeg) (m := 63) 6 (by decide)
      rw [ej]
      refine law_turn K hOK hi ?_ IC IM JM H locs hV hT ls hl j hj
      intro IC IM JM H locs hV hT ls hl
      refine lv_iinc (v := nI (i + 6)) (lv' := [(3, .int (nI (i + 6))), (0, .ref b), (1, .ref (gad S0 0)), (2, .ref (gad (S0 + 328) 0))]) hx hb dL_law_1916 hl (k := 3) rfl (nI_add i 6) (by decide) rfl (fun ls hl => ?_)
      refine lv_goto (tgt := 18) hx hb dL_law_1919 (by decide) ?_
      exact ih (i + 6) (by omega) (by omega) IC IM JM H locs hV hT _ (lv_sub hl [1, 2, 3, 0] rfl)
theorem arr_prim {s : State} {args : Array Value} {ty : FieldType} (hr : va_RA s = va_RA s) (h : (Cond.arrayClass ty).before args s = true) (hra : ∀ cA, s.vm.findClass ("[" ++ ty.toString) = some cA → va_RA s cA ty) : ∃ cA, ArrOfT s cA ty ∧ va_RA s cA ty := by
  obtain ⟨cA, kA, comp, hfind, hk, hkind⟩ := Cond.arrayClass_spec h
  exact ⟨cA, fun n z => ⟨fun k h => (by cases h), kA, hk, comp, hkind⟩, hra cA hfind⟩
theorem arr_obj {s : State} {args : Array Value} {C : String} (h : (Cond.arrayOver (.object C)).before args s = true) : ∃ cA, ArrOfT s cA (.object C) ∧ va_RA s cA (.object C) := by
  obtain ⟨comp, cA, kA, h1, -, h3, h4, h5⟩ := Cond.arrayOver_spec h
  exact ⟨cA, fun n z => ⟨fun k h => (by cases h), kA, h3, comp, h4⟩, kA, comp, h3, h4, h1, h5⟩
theorem w_int : Cond.arrayOver (.object "DawnPerquisite$Wall") ∈ lw_tbl := List.mem_of_getElem? (i := 210) (by decide +kernel)
theorem w_txt : Cond.arrayOver (.object "DawnPerquisite$Text") ∈ lw_tbl := List.mem_of_getElem? (i := 296) (by decide +kernel)
theorem w_str : Cond.stringRef "DawnPerquisite$Token" 9 tokT ∈ lw_tbl := List.mem_of_getElem? (i := 513) (by decide +kernel)
theorem w_ls1 : Cond.laysStatic "java/lang/String" "COMPACT_STRINGS" "Z" ∈ lw_tbl := List.mem_of_getElem? (i := 523) (by decide +kernel)
theorem w_ls2 : Cond.laysStatic "jdk/internal/util/Preconditions" "SIOOBE_FORMATTER" "Ljava/util/function/BiFunction;" ∈ lw_tbl := List.mem_of_getElem? (i := 531) (by decide +kernel)
abbrev tkT : Term := .string "DawnPerquisite$Token" 9
set_option maxRecDepth 100000 in
set_option maxHeartbeats 4000000 in
/-- what the tables and the start give: the classes' numbers, the text constant, the statics -/
theorem law_facts {p : Program} {s : State} {m : MethodId} {meth : Method} {c : Code} {b Ln : Nat} {xs : Nat → Int32} (hL : Ln ≤ 3072) (C0 : lw_At p s m meth c b Ln xs) : ∃ G : gG, gLw G s.heap.size b Ln xs p s m #[Value.ref b] c ∧ gAO s := by
  obtain ⟨hx, hb, hr, hml, hown, hts, hX, hbl, hlocks, hgv⟩ := C0
  have ht : ∀ w ∈ TB, w.before #[Value.ref b] s = true := fun w h => hts w (List.mem_filter.mp h).1
  obtain ⟨c0, i0, k0⟩ := u_known (C := RX0) (T := TX0) (N := 20) (n := 20) ht i_X0 (ht _ q_157)
  obtain ⟨c1, i1, k1⟩ := u_known (C := RX1) (T := TX1) (N := 9) (n := 9) ht i_X1 (ht _ q_298)
  obtain ⟨c2, i2, k2⟩ := u_known (C := RX2) (T := TX2) (N := 1) (n := 1) ht i_X2 (ht _ q_381)
  obtain ⟨c3, i3, k3⟩ := u_known (C := RX3) (T := TX3) (N := 9) (n := 9) ht i_X3 (ht _ q_304)
  obtain ⟨c5, i5, k5⟩ := u_known (C := RX5) (T := TX5) (N := 9) (n := 9) ht i_X5 (ht _ q_163)
  obtain ⟨c6, i6, k6⟩ := u_known (C := RX6) (T := TX6) (N := 13) (n := 13) ht i_X6 (ht _ q_149)
  obtain ⟨c7, i7, k7⟩ := u_known (C := RX7) (T := TX7) (N := 28) (n := 28) ht i_X7 (ht _ q_1069)
  obtain ⟨a0, r0⟩ := arr_prim rfl (ht _ qa_int) (fun _ h => h)
  obtain ⟨a1, r1⟩ := arr_prim rfl (ht _ qa_long) (fun _ h => h)
  obtain ⟨a2, r2⟩ := arr_prim rfl (ht _ qa_bool) (fun _ h => h)
  obtain ⟨a3, r3⟩ := arr_prim rfl (ht _ qa_char) (fun _ h => h)
  obtain ⟨a4, r4⟩ := arr_obj (hts _ w_int)
  obtain ⟨a5, r5⟩ := arr_obj (hts _ w_txt)
  have hfl := flat_of_before _ hgv
  have hA : ∀ a : Nat, a < s.heap.size → ¬ gB s.heap.size a := fun a h h2 => by unfold gB at h2; omega
  obtain ⟨adK, adV, hS, hE⟩ := vk_Sof (args := #[Value.ref b]) (s := s) (N := 1) (tm := fun _ => tkT) (len := [120]) (byt := [tokB]) (A := gB s.heap.size)
    (fun i hi => by obtain rfl : i = 0 := by omega
                    decide)
    (fun i hi => hfl _ (by decide +kernel)) (fun i hi => hfl _ (by decide +kernel)) (fun i hi => hfl _ (by decide +kernel))
    (fun i hi => by obtain rfl : i = 0 := by omega
                    exact hfl _ (by decide +kernel))
    (fun i hi j hj => by
      obtain rfl : i = 0 := by omega
      have hall : ∀ j, j < 120 → (Cond.eq (.elem (.field tkT "java/lang/String" "value" "[B") (.int (Int32.ofNat j))) (.int (tokB.getD j 0))) ∈ flatC (Jvm.Cond.and given_1 narrow_1) := by decide +kernel
      exact hfl _ (hall j hj))
    (fun i j hi hj hij => absurd (by omega) hij) hA
  have hz1 : va_Z "java/lang/String" "COMPACT_STRINGS" "Z" (.int 1) (gB s.heap.size) s s.heap := va_Zof (hts _ w_ls1) (ht _ q_141) (va_eqt (hfl _ (by decide +kernel))) hA
  obtain ⟨v, hv, hvr⟩ := Cond.isRef_spec (show (Cond.isRef (.static "jdk/internal/util/Preconditions" "SIOOBE_FORMATTER" "Ljava/util/function/BiFunction;")).before #[Value.ref b] s = true from hfl _ (by decide +kernel))
  have hz2 : ∃ f : Option Nat, va_Z "jdk/internal/util/Preconditions" "SIOOBE_FORMATTER" "Ljava/util/function/BiFunction;" (va_rf f) (gB s.heap.size) s s.heap := by
    cases v with
    | null => exact ⟨none, va_Zof (hts _ w_ls2) (ht _ q_143) hv hA⟩
    | ref a => exact ⟨some a, va_Zof (hts _ w_ls2) (ht _ q_143) hv hA⟩
    | _ => cases hvr
  obtain ⟨f, hz2⟩ := hz2
  refine ⟨(fun k => [c0, c1, c2, c3, c5, c6, c7].getD k c0, fun k => if k = 0 then i0 else if k = 1 then i1 else if k = 2 then i2 else if k = 3 then i3 else if k = 4 then i5 else if k = 5 then i6 else i7, fun k => [a0, a1, a2, a3, a4, a5].getD k a0, adK 0, adV 0, f), ⟨⟨hx, hb, hml, hown, ht, ⟨?_, ?_⟩, ?_, ⟨?_, ?_, hz1, hz2⟩⟩, hX, hbl, rfl, hL⟩, va_AO.of (A := #[Value.ref b]) ?_, va_AO.of (A := #[Value.ref b]) ?_⟩
  · intro k q hq
    match k, hq with
    | 0, hq => cases hq; exact k0
    | 1, hq => cases hq; exact k1
    | 2, hq => cases hq; exact k2
    | 3, hq => cases hq; exact k3
    | 4, hq => cases hq; exact k5
    | 5, hq => cases hq; exact k6
    | 6, hq => cases hq; exact k7
    | k + 7, hq => simp [kC] at hq
  · intro k q hq
    match k, hq with
    | 0, hq => cases hq; exact r0
    | 1, hq => cases hq; exact r1
    | 2, hq => cases hq; exact r2
    | 3, hq => cases hq; exact r3
    | 4, hq => cases hq; exact r4
    | 5, hq => cases hq; exact r5
    | k + 6, hq => simp [gtys] at hq
  · intro w hw hn
    have h := hts w hw
    cases w with
    | methodLinkNest a i x q => exact va_Nw.of rfl h
    | _ => simp [isNest] at hn
  · have e1 : (fun _ : Nat => adK 0) 0 = adK 0 := rfl
    refine ⟨fun i hi => ?_, fun i j hi hj _ => by omega⟩
    obtain rfl : i = 0 := by omega
    exact hS.1 0 hi
  · refine vk_R.of (A := #[Value.ref b]) (hts _ w_str) ?_
    have h := hE 0 (by decide)
    exact h
  · exact hts _ w_int
  · exact hts _ w_txt
