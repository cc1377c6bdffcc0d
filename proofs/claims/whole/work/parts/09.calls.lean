-- 05: contracts: how they are proved, how they are called
section GC
variable {l : Launch} {G : gG} {L : gL} {ad : Nat → Nat} {I I' : gI} {J J' : gJ} {d : Nat} {y : MethodName} {cc : ByteArray} {nL : Nat} {av : List Value} {lst : List (Nat × Value)}
theorem gMi_of {v : Int32} (hy : plainName y.cls = true) (hinj : gInj L ad) (hlen : (lg_sl av).length ≤ nL) (hlst : lv_args 0 av = lst)
    (body : ∀ (p : Program) (e : Env) (s : State) (m : MethodId) (args : Array Value) (below : List Frame) (meth : Method) (c : Code) (Q : State → Prop) (ls : Array Slot), gCx G (gA L ad) p s m args c cc nL y.cls → gWd G L ad (gA L ad) s.heap I J s.heap [] → lv_has ls nL lst → (∀ (H : Heap) (locs : List Loc) (pc : Nat) (ls : Array Slot), gWd G L ad (gA L ad) s.heap I' J' H locs → decode cc pc = .ok (.ireturn, 1) → W p l e (gRm d) s m args below meth c H locs 0 0 Q (F0 m pc ls [.int v])) → W p l e (gRm d) s m args below meth c s.heap [] 0 0 Q (F0 m 0 ls [])) : gMi l y cc nL (some .int) d G L ad av I J v True I' J' := by
  refine Met.ofW (cc := cc) (maxL := nL) (ret := (some .int)) hy rfl ?_
  intro p e s m args below meth c s₁ B hml hv
  obtain ⟨rfl, hP0, hK, hN, hZ⟩ := hv
  have hts := atoms_spec (ws := .code y cc nL (some .int) :: TB) B.pre
  rw [lg_entry_eq]
  refine body p e s m _ below meth c _ _ ⟨B.exec, B.bytes, hml, findClass_of_methodNamed B.named, fun w hw => hts w (List.mem_cons_of_mem _ hw), hK, hN, hZ⟩ ⟨hP0, gws_DA hinj, va_S.rf⟩ (hlst ▸ lv_entry av hlen) ?_
  intro H locs pc ls hW hdg
  exact W.iret B.exec B.bytes B.returns (fun t ht hWm => ⟨⟨v, (), rfl, ⟨rfl, trivial⟩, by rw [ht]; exact hW.1, va_K.moved hWm.alike hK, gNw_warm hWm hN, gZ_warm hWm (gZ_kept hZ (by rw [ht]; exact hW.2.2.2.1))⟩, hW.2.2.F ht⟩) hW.2.2.2.2 hdg B.notSynchronized
theorem gMz_of {v : Int32} (hy : plainName y.cls = true) (hinj : gInj L ad) (hlen : (lg_sl av).length ≤ nL) (hlst : lv_args 0 av = lst)
    (body : ∀ (p : Program) (e : Env) (s : State) (m : MethodId) (args : Array Value) (below : List Frame) (meth : Method) (c : Code) (Q : State → Prop) (ls : Array Slot), gCx G (gA L ad) p s m args c cc nL y.cls → gWd G L ad (gA L ad) s.heap I J s.heap [] → lv_has ls nL lst → (∀ (H : Heap) (locs : List Loc) (pc : Nat) (ls : Array Slot), (v = 0 ∨ v = 1) → gWd G L ad (gA L ad) s.heap I' J' H locs → decode cc pc = .ok (.ireturn, 1) → W p l e (gRm d) s m args below meth c H locs 0 0 Q (F0 m pc ls [.int v])) → W p l e (gRm d) s m args below meth c s.heap [] 0 0 Q (F0 m 0 ls [])) : gMi l y cc nL (some .boolean) d G L ad av I J v (v = 0 ∨ v = 1) I' J' := by
  refine Met.ofW (cc := cc) (maxL := nL) (ret := (some .boolean)) hy rfl ?_
  intro p e s m args below meth c s₁ B hml hv
  obtain ⟨rfl, hP0, hK, hN, hZ⟩ := hv
  have hts := atoms_spec (ws := .code y cc nL (some .boolean) :: TB) B.pre
  rw [lg_entry_eq]
  refine body p e s m _ below meth c _ _ ⟨B.exec, B.bytes, hml, findClass_of_methodNamed B.named, fun w hw => hts w (List.mem_cons_of_mem _ hw), hK, hN, hZ⟩ ⟨hP0, gws_DA hinj, va_S.rf⟩ (hlst ▸ lv_entry av hlen) ?_
  intro H locs pc ls hz hW hdg
  exact W.zret B.exec B.bytes B.returns (by rcases hz with h | h <;> subst h <;> rfl) (fun t ht hWm => ⟨⟨v, (), rfl, ⟨rfl, hz⟩, by rw [ht]; exact hW.1, va_K.moved hWm.alike hK, gNw_warm hWm hN, gZ_warm hWm (gZ_kept hZ (by rw [ht]; exact hW.2.2.2.1))⟩, hW.2.2.F ht⟩) hW.2.2.2.2 hdg B.notSynchronized
theorem gMc_of {v : Int32} (hy : plainName y.cls = true) (hinj : gInj L ad) (hlen : (lg_sl av).length ≤ nL) (hlst : lv_args 0 av = lst) (hn : narrow .char (.int v) = .int v)
    (body : ∀ (p : Program) (e : Env) (s : State) (m : MethodId) (args : Array Value) (below : List Frame) (meth : Method) (c : Code) (Q : State → Prop) (ls : Array Slot), gCx G (gA L ad) p s m args c cc nL y.cls → gWd G L ad (gA L ad) s.heap I J s.heap [] → lv_has ls nL lst → (∀ (H : Heap) (locs : List Loc) (pc : Nat) (ls : Array Slot), gWd G L ad (gA L ad) s.heap I' J' H locs → decode cc pc = .ok (.ireturn, 1) → W p l e (gRm d) s m args below meth c H locs 0 0 Q (F0 m pc ls [.int v])) → W p l e (gRm d) s m args below meth c s.heap [] 0 0 Q (F0 m 0 ls [])) : gMi l y cc nL (some .char) d G L ad av I J v True I' J' := by
  refine Met.ofW (cc := cc) (maxL := nL) (ret := (some .char)) hy rfl ?_
  intro p e s m args below meth c s₁ B hml hv
  obtain ⟨rfl, hP0, hK, hN, hZ⟩ := hv
  have hts := atoms_spec (ws := .code y cc nL (some .char) :: TB) B.pre
  rw [lg_entry_eq]
  refine body p e s m _ below meth c _ _ ⟨B.exec, B.bytes, hml, findClass_of_methodNamed B.named, fun w hw => hts w (List.mem_cons_of_mem _ hw), hK, hN, hZ⟩ ⟨hP0, gws_DA hinj, va_S.rf⟩ (hlst ▸ lv_entry av hlen) ?_
  intro H locs pc ls hW hdg
  exact W.zret B.exec B.bytes B.returns hn (fun t ht hWm => ⟨⟨v, (), rfl, ⟨rfl, trivial⟩, by rw [ht]; exact hW.1, va_K.moved hWm.alike hK, gNw_warm hWm hN, gZ_warm hWm (gZ_kept hZ (by rw [ht]; exact hW.2.2.2.1))⟩, hW.2.2.F ht⟩) hW.2.2.2.2 hdg B.notSynchronized
theorem gMl_of {v : Int64} (hy : plainName y.cls = true) (hinj : gInj L ad) (hlen : (lg_sl av).length ≤ nL) (hlst : lv_args 0 av = lst)
    (body : ∀ (p : Program) (e : Env) (s : State) (m : MethodId) (args : Array Value) (below : List Frame) (meth : Method) (c : Code) (Q : State → Prop) (ls : Array Slot), gCx G (gA L ad) p s m args c cc nL y.cls → gWd G L ad (gA L ad) s.heap I J s.heap [] → lv_has ls nL lst → (∀ (H : Heap) (locs : List Loc) (pc : Nat) (ls : Array Slot), gWd G L ad (gA L ad) s.heap I' J' H locs → decode cc pc = .ok (.lreturn, 1) → W p l e (gRm d) s m args below meth c H locs 0 0 Q (F0 m pc ls [.long v])) → W p l e (gRm d) s m args below meth c s.heap [] 0 0 Q (F0 m 0 ls [])) : gMl l y cc nL (some .long) d G L ad av I J v I' J' := by
  refine Met.ofW (cc := cc) (maxL := nL) (ret := (some .long)) hy rfl ?_
  intro p e s m args below meth c s₁ B hml hv
  obtain ⟨rfl, hP0, hK, hN, hZ⟩ := hv
  have hts := atoms_spec (ws := .code y cc nL (some .long) :: TB) B.pre
  rw [lg_entry_eq]
  refine body p e s m _ below meth c _ _ ⟨B.exec, B.bytes, hml, findClass_of_methodNamed B.named, fun w hw => hts w (List.mem_cons_of_mem _ hw), hK, hN, hZ⟩ ⟨hP0, gws_DA hinj, va_S.rf⟩ (hlst ▸ lv_entry av hlen) ?_
  intro H locs pc ls hW hdg
  exact W.lret B.exec B.bytes B.returns (fun t ht hWm => ⟨⟨v, (), rfl, rfl, by rw [ht]; exact hW.1, va_K.moved hWm.alike hK, gNw_warm hWm hN, gZ_warm hWm (gZ_kept hZ (by rw [ht]; exact hW.2.2.2.1))⟩, hW.2.2.F ht⟩) hW.2.2.2.2 hdg B.notSynchronized
theorem gMv_of (hy : plainName y.cls = true) (hinj : gInj L ad) (hlen : (lg_sl av).length ≤ nL) (hlst : lv_args 0 av = lst)
    (body : ∀ (p : Program) (e : Env) (s : State) (m : MethodId) (args : Array Value) (below : List Frame) (meth : Method) (c : Code) (Q : State → Prop) (ls : Array Slot), gCx G (gA L ad) p s m args c cc nL y.cls → gWd G L ad (gA L ad) s.heap I J s.heap [] → lv_has ls nL lst → (∀ (H : Heap) (locs : List Loc) (pc : Nat) (ls : Array Slot), gWd G L ad (gA L ad) s.heap I' J' H locs → decode cc pc = .ok (.return_, 1) → W p l e (gRm d) s m args below meth c H locs 0 0 Q (F0 m pc ls [])) → W p l e (gRm d) s m args below meth c s.heap [] 0 0 Q (F0 m 0 ls [])) : gMv l y cc nL none d G L ad av I J I' J' := by
  refine Met.ofW (cc := cc) (maxL := nL) (ret := none) hy rfl ?_
  intro p e s m args below meth c s₁ B hml hv
  obtain ⟨rfl, hP0, hK, hN, hZ⟩ := hv
  have hts := atoms_spec (ws := .code y cc nL none :: TB) B.pre
  rw [lg_entry_eq]
  refine body p e s m _ below meth c _ _ ⟨B.exec, B.bytes, hml, findClass_of_methodNamed B.named, fun w hw => hts w (List.mem_cons_of_mem _ hw), hK, hN, hZ⟩ ⟨hP0, gws_DA hinj, va_S.rf⟩ (hlst ▸ lv_entry av hlen) ?_
  intro H locs pc ls hW hdg
  exact W.vret B.exec B.bytes B.returns (fun t ht hWm => ⟨⟨(), rfl, trivial, by rw [ht]; exact hW.1, va_K.moved hWm.alike hK, gNw_warm hWm hN, gZ_warm hWm (gZ_kept hZ (by rw [ht]; exact hW.2.2.2.1))⟩, hW.2.2.F ht⟩) hW.2.2.2.2 hdg B.notSynchronized
end GC
section GD
variable {p : Program} {l : Launch} {e : Env} {R : Room} {s : State} {m : MethodId} {args : Array Value} {below : List Frame} {meth : Method} {c : Code} {H : Heap} {locs : List Loc} {cells slots : Nat} {Q : State → Prop}
variable {cc : ByteArray} {pc nL : Nat} {ls : Array Slot} {rest st : List Value} {G : gG} {L : gL} {ad : Nat → Nat} {A : Nat → Prop} {I I' : gI} {J J' : gJ} {own : String}
variable {y : MethodName} {bytes : ByteArray} {maxL d idx o ci N n : Nat} {T : u_T} {ret : Option FieldType} {As : List Value} {lv : List (Nat × Value)}
theorem gCx_fix (K : gCx G A p s m args c cc nL own) : CallFix p m c cc nL s args TB own := ⟨K.1, K.2.1, K.2.2.1, K.2.2.2.1, K.2.2.2.2.1⟩
theorem g_preV (K : gCx G A p s m args c cc nL own) (hW : gWd G L ad A s.heap I J H locs) (ho : gAt L o 0 ci) (hc : kC[ci]? = some (y.cls, T, N)) : PreV s H y.cls (ad o) (va_Pc (.ref (ad o) :: As) (gWo G L ad I J)) As :=
  ⟨gWo_blind, va_recv K.2.2.2.2.2.1 hW.1 hc (show (gws G L ad I J)[o]? = _ by rw [gws_at ho.1, gce_obj ho]), fun U hU hWm => ⟨rfl, by rw [hU]; exact hW.1, va_K.moved hWm.alike K.2.2.2.2.2.1, gNw_warm hWm K.2.2.2.2.2.2.1, gZ_warm hWm (gZ_narrow (gZ_kept K.2.2.2.2.2.2.2 (by rw [hU]; exact hW.2.2.2.1)) (gA_in hW.2.1))⟩⟩
theorem g_preS (K : gCx G A p s m args c cc nL own) (hW : gWd G L ad A s.heap I J H locs) : PreS s H (va_Pc As (gWo G L ad I J)) As :=
  ⟨gWo_blind, fun U hU hWm => ⟨rfl, by rw [hU]; exact hW.1, va_K.moved hWm.alike K.2.2.2.2.2.1, gNw_warm hWm K.2.2.2.2.2.2.1, gZ_warm hWm (gZ_narrow (gZ_kept K.2.2.2.2.2.2.2 (by rw [hU]; exact hW.2.2.2.1)) (gA_in hW.2.1))⟩⟩
abbrev gNm (y : MethodName) (n : Nat) : Prop := y.cls ≠ "java/lang/invoke/MethodHandle" ∧ y.cls ≠ "java/lang/invoke/VarHandle" ∧ (parseMethodDescriptor y.desc).map (fun d => d.parameters.length) = some n
abbrev gRo (d maxL : Nat) (R : Room) : Prop := d + 1 ≤ R.frames ∧ 8 + (maxL + 11) + 64 * d ≤ R.locals
theorem gNest (K : gCx G A p s m args c cc nL own) {host : String} (h : Cond.methodLinkNest own idx y host ∈ lw_tbl) : va_Nw (.methodLinkNest own idx y host) s := K.2.2.2.2.2.2.1 _ h rfl
theorem g_runi {v : Int32} {P : Prop} (hW : gWd G L ad A s.heap I J H locs) {a : Array Value} (hr : va_Run p l e R s m args below meth c H locs cells slots 0 0 (F0 m pc ls st) rest (va_Qi (fun r (_ : Unit) => r = v ∧ P) (fun _ => gWo G L ad I' J') (gA L ad) a) (gA L ad))
    (kk : P → ∀ (H1 : Heap) (locs1 : List Loc), gWd G L ad A s.heap I' J' H1 locs1 → W p l e R s m args below meth c H1 locs1 cells slots Q (F0 m (pc + 3) ls (.int v :: rest))) : W p l e R s m args below meth c H locs cells slots Q (F0 m pc ls st) :=
  va_calli hr hW.2.2 (fun q _ h => gA_in hW.2.1 q h) (gA_in hW.2.1) (fun r u t H1 locs1 ht _ hpost hB _ _ hS1 => by
    obtain ⟨rfl, hp⟩ := hpost
    exact kk hp H1 locs1 ⟨by rw [← ht]; exact hB.1, gws_D hW.2.1, hS1⟩)
theorem g_callVi {v : Int32} {P : Prop} (K : gCx G A p s m args c cc nL own) (hW : gWd G L ad A s.heap I J H locs) (hls : lv_has ls nL lv) (hM : gMi l y bytes maxL ret d G L ad (.ref (ad o) :: As) I J v P I' J') (ho : gAt L o 0 ci) (hc : kC[ci]? = some (y.cls, T, N)) (hG : GoodIn TB (wsV own idx y.cls y (.code y bytes maxL ret :: TB))) (hd : gNm y n) (hR : gRo d maxL R) (hn : As.length = n) (hst : st = As.reverse ++ .ref (ad o) :: rest) (hsum : (rest.map fun v => v.category).sum ≤ 8) (hf : cells ≤ R.cells ∧ slots ≤ R.slots) (hdg : decode cc pc = .ok (.invokevirtual idx, 3))
    (kk : P → ∀ (H1 : Heap) (locs1 : List Loc), gWd G L ad A s.heap I' J' H1 locs1 → W p l e R s m args below meth c H1 locs1 cells slots Q (F0 m (pc + 3) ls (.int v :: rest))) : W p l e R s m args below meth c H locs cells slots Q (F0 m pc ls st) :=
  g_runi hW (va_runV (gCx_fix K) hM (cwV n K.2.2.2.2.1 hG rfl rfl rfl ⟨rfl, hd⟩ hR) (g_preV K hW ho hc) rfl hn hls.1 hst (lv_room (pc := pc) (ls := ls) (m := m) hsum) hdg hf) kk
theorem g_callSi {v : Int32} {P : Prop} (K : gCx G A p s m args c cc nL own) (hW : gWd G L ad A s.heap I J H locs) (hls : lv_has ls nL lv) (hM : gMi l y bytes maxL ret d G L ad As I J v P I' J') (h1 : Cond.methodLink own idx y ∈ TB) (h2 : Cond.static y ∈ TB) (h4 : Cond.initialized y.cls ∈ TB) (h5 : Cond.code y bytes maxL ret ∈ TB) (hd : gNm y n) (hR : gRo d maxL R) (hn : As.length = n) (hst : st = As.reverse ++ rest) (hsum : (rest.map fun v => v.category).sum ≤ 8) (hf : cells ≤ R.cells ∧ slots ≤ R.slots) (hdg : decode cc pc = .ok (.invokestatic idx, 3))
    (kk : P → ∀ (H1 : Heap) (locs1 : List Loc), gWd G L ad A s.heap I' J' H1 locs1 → W p l e R s m args below meth c H1 locs1 cells slots Q (F0 m (pc + 3) ls (.int v :: rest))) : W p l e R s m args below meth c H locs cells slots Q (F0 m pc ls st) :=
  g_runi hW (va_runS (gCx_fix K) hM ⟨callB_of n K.2.2.2.2.1 (gG_c h5) rfl rfl rfl (K.2.2.2.2.1 _ h4) (K.2.2.2.2.1 _ h1) hd hR, K.2.2.2.2.1 _ h2⟩ (g_preS K hW) rfl hn hls.1 hst (lv_room (pc := pc) (ls := ls) (m := m) hsum) hdg hf) kk
theorem g_callNi {v : Int32} {P : Prop} {host : String} (K : gCx G A p s m args c cc nL own) (hW : gWd G L ad A s.heap I J H locs) (hls : lv_has ls nL lv) (hM : gMi l y bytes maxL ret d G L ad As I J v P I' J') (h1 : Cond.methodLinkNest own idx y host ∈ lw_tbl) (h2 : Cond.static y ∈ TB) (h4 : Cond.initialized y.cls ∈ TB) (h5 : Cond.code y bytes maxL ret ∈ TB) (hd : gNm y n) (hR : gRo d maxL R) (hn : As.length = n) (hst : st = As.reverse ++ rest) (hsum : (rest.map fun v => v.category).sum ≤ 8) (hf : cells ≤ R.cells ∧ slots ≤ R.slots) (hdg : decode cc pc = .ok (.invokestatic idx, 3))
    (kk : P → ∀ (H1 : Heap) (locs1 : List Loc), gWd G L ad A s.heap I' J' H1 locs1 → W p l e R s m args below meth c H1 locs1 cells slots Q (F0 m (pc + 3) ls (.int v :: rest))) : W p l e R s m args below meth c H locs cells slots Q (F0 m pc ls st) :=
  g_runi hW (va_runSN (gCx_fix K) hM ⟨va_cnB n K.2.2.2.2.1 (gG_c h5) rfl rfl rfl (gNest K h1) (K.2.2.2.2.1 _ h4) hd hR, K.2.2.2.2.1 _ h2, trivial⟩ (g_preS K hW) rfl hn hls.1 hst (lv_room (pc := pc) (ls := ls) (m := m) hsum) hdg hf) kk
theorem g_runl {v : Int64} (hW : gWd G L ad A s.heap I J H locs) {a : Array Value} (hr : va_Run p l e R s m args below meth c H locs cells slots 0 0 (F0 m pc ls st) rest (va_Ql (fun r (_ : Unit) => r = v) (fun _ => gWo G L ad I' J') (gA L ad) a) (gA L ad))
    (kk : ∀ (H1 : Heap) (locs1 : List Loc), gWd G L ad A s.heap I' J' H1 locs1 → W p l e R s m args below meth c H1 locs1 cells slots Q (F0 m (pc + 3) ls (.long v :: rest))) : W p l e R s m args below meth c H locs cells slots Q (F0 m pc ls st) :=
  va_calll hr hW.2.2 (fun q _ h => gA_in hW.2.1 q h) (gA_in hW.2.1) (fun r u t H1 locs1 ht _ hpost hB _ _ hS1 => by
    subst hpost
    exact kk H1 locs1 ⟨by rw [← ht]; exact hB.1, gws_D hW.2.1, hS1⟩)
theorem g_callVl {v : Int64} (K : gCx G A p s m args c cc nL own) (hW : gWd G L ad A s.heap I J H locs) (hls : lv_has ls nL lv) (hM : gMl l y bytes maxL ret d G L ad (.ref (ad o) :: As) I J v I' J') (ho : gAt L o 0 ci) (hc : kC[ci]? = some (y.cls, T, N)) (hG : GoodIn TB (wsV own idx y.cls y (.code y bytes maxL ret :: TB))) (hd : gNm y n) (hR : gRo d maxL R) (hn : As.length = n) (hst : st = As.reverse ++ .ref (ad o) :: rest) (hsum : (rest.map fun v => v.category).sum ≤ 8) (hf : cells ≤ R.cells ∧ slots ≤ R.slots) (hdg : decode cc pc = .ok (.invokevirtual idx, 3))
    (kk : ∀ (H1 : Heap) (locs1 : List Loc), gWd G L ad A s.heap I' J' H1 locs1 → W p l e R s m args below meth c H1 locs1 cells slots Q (F0 m (pc + 3) ls (.long v :: rest))) : W p l e R s m args below meth c H locs cells slots Q (F0 m pc ls st) :=
  g_runl hW (va_runV (gCx_fix K) hM (cwV n K.2.2.2.2.1 hG rfl rfl rfl ⟨rfl, hd⟩ hR) (g_preV K hW ho hc) rfl hn hls.1 hst (lv_room (pc := pc) (ls := ls) (m := m) hsum) hdg hf) kk
theorem g_callSl {v : Int64} (K : gCx G A p s m args c cc nL own) (hW : gWd G L ad A s.heap I J H locs) (hls : lv_has ls nL lv) (hM : gMl l y bytes maxL ret d G L ad As I J v I' J') (h1 : Cond.methodLink own idx y ∈ TB) (h2 : Cond.static y ∈ TB) (h4 : Cond.initialized y.cls ∈ TB) (h5 : Cond.code y bytes maxL ret ∈ TB) (hd : gNm y n) (hR : gRo d maxL R) (hn : As.length = n) (hst : st = As.reverse ++ rest) (hsum : (rest.map fun v => v.category).sum ≤ 8) (hf : cells ≤ R.cells ∧ slots ≤ R.slots) (hdg : decode cc pc = .ok (.invokestatic idx, 3))
    (kk : ∀ (H1 : Heap) (locs1 : List Loc), gWd G L ad A s.heap I' J' H1 locs1 → W p l e R s m args below meth c H1 locs1 cells slots Q (F0 m (pc + 3) ls (.long v :: rest))) : W p l e R s m args below meth c H locs cells slots Q (F0 m pc ls st) :=
  g_runl hW (va_runS (gCx_fix K) hM ⟨callB_of n K.2.2.2.2.1 (gG_c h5) rfl rfl rfl (K.2.2.2.2.1 _ h4) (K.2.2.2.2.1 _ h1) hd hR, K.2.2.2.2.1 _ h2⟩ (g_preS K hW) rfl hn hls.1 hst (lv_room (pc := pc) (ls := ls) (m := m) hsum) hdg hf) kk
theorem g_callNl {v : Int64} {host : String} (K : gCx G A p s m args c cc nL own) (hW : gWd G L ad A s.heap I J H locs) (hls : lv_has ls nL lv) (hM : gMl l y bytes maxL ret d G L ad As I J v I' J') (h1 : Cond.methodLinkNest own idx y host ∈ lw_tbl) (h2 : Cond.static y ∈ TB) (h4 : Cond.initialized y.cls ∈ TB) (h5 : Cond.code y bytes maxL ret ∈ TB) (hd : gNm y n) (hR : gRo d maxL R) (hn : As.length = n) (hst : st = As.reverse ++ rest) (hsum : (rest.map fun v => v.category).sum ≤ 8) (hf : cells ≤ R.cells ∧ slots ≤ R.slots) (hdg : decode cc pc = .ok (.invokestatic idx, 3))
    (kk : ∀ (H1 : Heap) (locs1 : List Loc), gWd G L ad A s.heap I' J' H1 locs1 → W p l e R s m args below meth c H1 locs1 cells slots Q (F0 m (pc + 3) ls (.long v :: rest))) : W p l e R s m args below meth c H locs cells slots Q (F0 m pc ls st) :=
  g_runl hW (va_runSN (gCx_fix K) hM ⟨va_cnB n K.2.2.2.2.1 (gG_c h5) rfl rfl rfl (gNest K h1) (K.2.2.2.2.1 _ h4) hd hR, K.2.2.2.2.1 _ h2, trivial⟩ (g_preS K hW) rfl hn hls.1 hst (lv_room (pc := pc) (ls := ls) (m := m) hsum) hdg hf) kk
theorem g_runv (hW : gWd G L ad A s.heap I J H locs) {a : Array Value} (hr : va_Run p l e R s m args below meth c H locs cells slots 0 0 (F0 m pc ls st) rest (va_Qv (fun (_ : Unit) => True) (fun _ => gWo G L ad I' J') (gA L ad) a) (gA L ad))
    (kk : ∀ (H1 : Heap) (locs1 : List Loc), gWd G L ad A s.heap I' J' H1 locs1 → W p l e R s m args below meth c H1 locs1 cells slots Q (F0 m (pc + 3) ls (rest))) : W p l e R s m args below meth c H locs cells slots Q (F0 m pc ls st) :=
  va_callv hr hW.2.2 (fun q _ h => gA_in hW.2.1 q h) (gA_in hW.2.1) (fun u t H1 locs1 ht _ hpost hB _ _ hS1 => by
    exact kk H1 locs1 ⟨by rw [← ht]; exact hB.1, gws_D hW.2.1, hS1⟩)
theorem g_callVv (K : gCx G A p s m args c cc nL own) (hW : gWd G L ad A s.heap I J H locs) (hls : lv_has ls nL lv) (hM : gMv l y bytes maxL ret d G L ad (.ref (ad o) :: As) I J I' J') (ho : gAt L o 0 ci) (hc : kC[ci]? = some (y.cls, T, N)) (hG : GoodIn TB (wsV own idx y.cls y (.code y bytes maxL ret :: TB))) (hd : gNm y n) (hR : gRo d maxL R) (hn : As.length = n) (hst : st = As.reverse ++ .ref (ad o) :: rest) (hsum : (rest.map fun v => v.category).sum ≤ 8) (hf : cells ≤ R.cells ∧ slots ≤ R.slots) (hdg : decode cc pc = .ok (.invokevirtual idx, 3))
    (kk : ∀ (H1 : Heap) (locs1 : List Loc), gWd G L ad A s.heap I' J' H1 locs1 → W p l e R s m args below meth c H1 locs1 cells slots Q (F0 m (pc + 3) ls (rest))) : W p l e R s m args below meth c H locs cells slots Q (F0 m pc ls st) :=
  g_runv hW (va_runV (gCx_fix K) hM (cwV n K.2.2.2.2.1 hG rfl rfl rfl ⟨rfl, hd⟩ hR) (g_preV K hW ho hc) rfl hn hls.1 hst (lv_room (pc := pc) (ls := ls) (m := m) hsum) hdg hf) kk
theorem g_callSv (K : gCx G A p s m args c cc nL own) (hW : gWd G L ad A s.heap I J H locs) (hls : lv_has ls nL lv) (hM : gMv l y bytes maxL ret d G L ad As I J I' J') (h1 : Cond.methodLink own idx y ∈ TB) (h2 : Cond.static y ∈ TB) (h4 : Cond.initialized y.cls ∈ TB) (h5 : Cond.code y bytes maxL ret ∈ TB) (hd : gNm y n) (hR : gRo d maxL R) (hn : As.length = n) (hst : st = As.reverse ++ rest) (hsum : (rest.map fun v => v.category).sum ≤ 8) (hf : cells ≤ R.cells ∧ slots ≤ R.slots) (hdg : decode cc pc = .ok (.invokestatic idx, 3))
    (kk : ∀ (H1 : Heap) (locs1 : List Loc), gWd G L ad A s.heap I' J' H1 locs1 → W p l e R s m args below meth c H1 locs1 cells slots Q (F0 m (pc + 3) ls (rest))) : W p l e R s m args below meth c H locs cells slots Q (F0 m pc ls st) :=
  g_runv hW (va_runS (gCx_fix K) hM ⟨callB_of n K.2.2.2.2.1 (gG_c h5) rfl rfl rfl (K.2.2.2.2.1 _ h4) (K.2.2.2.2.1 _ h1) hd hR, K.2.2.2.2.1 _ h2⟩ (g_preS K hW) rfl hn hls.1 hst (lv_room (pc := pc) (ls := ls) (m := m) hsum) hdg hf) kk
theorem g_callNv {host : String} (K : gCx G A p s m args c cc nL own) (hW : gWd G L ad A s.heap I J H locs) (hls : lv_has ls nL lv) (hM : gMv l y bytes maxL ret d G L ad As I J I' J') (h1 : Cond.methodLinkNest own idx y host ∈ lw_tbl) (h2 : Cond.static y ∈ TB) (h4 : Cond.initialized y.cls ∈ TB) (h5 : Cond.code y bytes maxL ret ∈ TB) (hd : gNm y n) (hR : gRo d maxL R) (hn : As.length = n) (hst : st = As.reverse ++ rest) (hsum : (rest.map fun v => v.category).sum ≤ 8) (hf : cells ≤ R.cells ∧ slots ≤ R.slots) (hdg : decode cc pc = .ok (.invokestatic idx, 3))
    (kk : ∀ (H1 : Heap) (locs1 : List Loc), gWd G L ad A s.heap I' J' H1 locs1 → W p l e R s m args below meth c H1 locs1 cells slots Q (F0 m (pc + 3) ls (rest))) : W p l e R s m args below meth c H locs cells slots Q (F0 m pc ls st) :=
  g_runv hW (va_runSN (gCx_fix K) hM ⟨va_cnB n K.2.2.2.2.1 (gG_c h5) rfl rfl rfl (gNest K h1) (K.2.2.2.2.1 _ h4) hd hR, K.2.2.2.2.1 _ h2, trivial⟩ (g_preS K hW) rfl hn hls.1 hst (lv_room (pc := pc) (ls := ls) (m := m) hsum) hdg hf) kk
end GD
