-- 17: constructors: rows for worlds that grow
theorem qa_int : Cond.arrayClass .int ∈ TB := TB_of (List.mem_of_getElem? (i := 209) (by decide +kernel)) (by decide +kernel)
theorem qa_char : Cond.arrayClass .char ∈ TB := TB_of (List.mem_of_getElem? (i := 349) (by decide +kernel)) (by decide +kernel)
theorem qa_long : Cond.arrayClass .long ∈ TB := TB_of (List.mem_of_getElem? (i := 1162) (by decide +kernel)) (by decide +kernel)
theorem qa_bool : Cond.arrayClass .boolean ∈ TB := TB_of (List.mem_of_getElem? (i := 1163) (by decide +kernel)) (by decide +kernel)
theorem qa_obj : Cond.code objectInit ⟨#[0xb1]⟩ 1 none ∈ TB := TB_of (List.mem_of_getElem? (i := 155) (by decide +kernel)) (by decide +kernel)
def gad (S : Nat) : Nat → Nat := fun i => S + i
def gB (S : Nat) : Nat → Prop := fun q => S ≤ q
def upR (rs : Nat → Nat → Option Nat) (o k z : Nat) : Nat → Nat → Option Nat := fun o' k' => if o' = o ∧ k' = k then some z else rs o' k'
def gAO (U : State) : Prop := va_AO "DawnPerquisite$Wall" U ∧ va_AO "DawnPerquisite$Text" U
theorem gAO_moved {u U : State} (h : u.vm.Alike U.vm) (a : gAO u) : gAO U := ⟨a.1.moved h, a.2.moved h⟩
def gWp (G : gG) (L : gL) (S : Nat) (I : gI) (J : gJ) (U : State) : Prop := U.heap.size = S + L.1 ∧ va_P (G.1, G.2.1) kC (gws G L (gad S) I J) U.heap ∧ va_K (G.1, G.2.1) kC (gtys G) U ∧ gNw U ∧ gZ G (gB S) U U.heap ∧ gAO U
def cRm (d mc ms : Nat) : Room := { frames := d, cells := mc, slots := ms, locals := 64 * d }
/-- a constructor's contract: the world grows from L to L' -/
def gMk (l : Launch) (y : MethodName) (cc : ByteArray) (nL d mc ms : Nat) (G : gG) (S : Nat) (L L' : gL) (av : List Value) (I : gI) (J : gJ) (I' : gI) (J' : gJ) : Prop :=
  Met l y (.code y cc nL none :: TB) (cRm d mc ms) (va_Pc av (gWp G L S I J)) (va_Qv (fun (_ : Unit) => True) (fun _ t => va_P (G.1, G.2.1) kC (gws G L' (gad S) I' J') t.heap) (gB S)) mc ms (gB S)
theorem gws_DB {G : gG} {L : gL} {S : Nat} {I : gI} {J : gJ} : va_D (gB S) (gws G L (gad S) I J) := by
  refine ⟨fun i j p q hi hj hpq => ?_, fun k q hk => ?_⟩
  · obtain ⟨h1, e1⟩ := gws_in hi
    obtain ⟨h2, e2⟩ := gws_in hj
    rw [e1, e2] at hpq
    exact Nat.add_left_cancel hpq
  · obtain ⟨h1, e1⟩ := gws_in hk
    rw [e1]
    exact Nat.le_add_right _ _
theorem gWp_blind {av : List Value} {G : gG} {L : gL} {S : Nat} {I : gI} {J : gJ} : FrameBlind (va_Pc av (gWp G L S I J)) := by
  intro a U g mk h
  exact ⟨h.1, h.2.1, h.2.2.1, va_K.moved (u := U) (U := U.calling g mk a) (Vm.Alike.refl U.vm) h.2.2.2.1, gNw_same (u := U) (U := U.calling g mk a) rfl h.2.2.2.2.1, gZ_same (u := U) (U := U.calling g mk a) rfl h.2.2.2.2.2.1, gAO_moved (u := U) (U := U.calling g mk a) (Vm.Alike.refl U.vm) h.2.2.2.2.2.2⟩
/-- a constructor's walk stands so -/
def gCk (G : gG) (S n0 : Nat) (p : Program) (s : State) (m : MethodId) (args : Array Value) (c : Code) (cc : ByteArray) (nL : Nat) (own : String) (meth : Method) : Prop := gCx G (gB S) p s m args c cc nL own ∧ s.heap.size = S + n0 ∧ gAO s ∧ meth.name = "<init>"
theorem gMk_of {l : Launch} {y : MethodName} {cc : ByteArray} {nL d mc ms : Nat} {G : gG} {S : Nat} {L L' : gL} {av : List Value} {I I' : gI} {J J' : gJ} {lst : List (Nat × Value)} (hy : plainName y.cls = true) (hy1 : y.name = "<init>") (hlen : (lg_sl av).length ≤ nL) (hlst : lv_args 0 av = lst)
    (body : ∀ (p : Program) (e : Env) (s : State) (m : MethodId) (args : Array Value) (below : List Frame) (meth : Method) (c : Code) (Q : State → Prop) (ls : Array Slot), gCk G S L.1 p s m args c cc nL y.cls meth → gWd G L (gad S) (gB S) s.heap I J s.heap [] → lv_has ls nL lst → (∀ (H : Heap) (locs : List Loc) (pc : Nat) (ls : Array Slot), gWd G L' (gad S) (gB S) s.heap I' J' H locs → decode cc pc = .ok (.return_, 1) → W p l e (cRm d mc ms) s m args below meth c H locs mc ms Q (F0 m pc ls [])) → W p l e (cRm d mc ms) s m args below meth c s.heap [] 0 0 Q (F0 m 0 ls [])) : gMk l y cc nL d mc ms G S L L' av I J I' J' := by
  refine Met.ofW (cc := cc) (maxL := nL) (ret := none) hy rfl ?_
  intro p e s m args below meth c s₁ B hml hv
  obtain ⟨rfl, hsz, hP0, hK, hN, hZ, hO⟩ := hv
  have hts := atoms_spec (ws := .code y cc nL none :: TB) B.pre
  rw [lg_entry_eq]
  refine body p e s m _ below meth c _ _ ⟨⟨B.exec, B.bytes, hml, findClass_of_methodNamed B.named, fun w hw => hts w (List.mem_cons_of_mem _ hw), hK, hN, hZ⟩, hsz, hO, (name_of_methodNamed B.named B.method).1.trans hy1⟩ ⟨hP0, gws_DB, va_S.rf⟩ (hlst ▸ lv_entry av hlen) ?_
  intro H locs pc ls hW hdg
  exact W.vret B.exec B.bytes B.returns (fun t ht hWm => ⟨⟨(), rfl, trivial, by show va_P _ _ _ t.heap; rw [ht]; exact hW.1⟩, hW.2.2.F ht⟩) hW.2.2.2.2 hdg B.notSynchronized
section CK
variable {p : Program} {l : Launch} {e : Env} {R : Room} {s : State} {m : MethodId} {args : Array Value} {below : List Frame} {meth : Method} {c : Code} {H : Heap} {locs : List Loc} {cells slots : Nat} {Q : State → Prop}
variable {cc : ByteArray} {pc nL : Nat} {ls : Array Slot} {rest : List Value} {G : gG} {L L' : gL} {S n0 n : Nat} {kd : Nat → Nat × Nat} {rs : Nat → Nat → Option Nat} {I I' : gI} {J J' : gJ} {own : String}
theorem W_size (k : H.size ≤ s.heap.size + cells → W p l e R s m args below meth c H locs cells slots Q (F0 m pc ls rest)) : W p l e R s m args below meth c H locs cells slots Q (F0 m pc ls rest) :=
  fun T hT X => k (by rw [← hT]; exact X.heapSize) T hT X
theorem c_size (hE : s.heap.size = S + n0) (hc : n0 + cells = L.1) (hW : gWd G L (gad S) (gB S) s.heap I J H locs) (hub : H.size ≤ s.heap.size + cells) : H.size = S + L.1 := by
  have h1 := hW.2.2.1
  by_cases h0 : cells = 0
  · omega
  · have hlt : L.1 - 1 < L.1 := by omega
    have := (hW.1 (L.1 - 1) _ (gws_at hlt)).lt
    have h2 : gad S (L.1 - 1) < H.size := this
    unfold gad at h2
    omega
/-- the cell that came is the next one -/
theorem c_next {H1 : Heap} {q : Nat} {E : va_E} (hE : s.heap.size = S + n0) (hc : n0 + cells = n) (hn : 0 < n0) (hP : va_P (G.1, G.2.1) kC (gws G (n, kd, rs) (gad S) I J ++ [(q, E)]) H1) (hD : va_D (gB S) (gws G (n, kd, rs) (gad S) I J ++ [(q, E)])) (hub : H1.size ≤ s.heap.size + (cells + 1)) : q = gad S n := by
  have hlen : (gws G (n, kd, rs) (gad S) I J).length = n := by simp [gws]
  have hq : (gws G (n, kd, rs) (gad S) I J ++ [(q, E)])[n]? = some (q, E) := by rw [List.getElem?_append_right (by omega), hlen, Nat.sub_self]; rfl
  have h1 : q < H1.size := (hP n _ hq).lt
  have h2 : S ≤ q := hD.2 n _ hq
  have h3 : ∀ i, i < n → q ≠ S + i := by
    intro i hi he
    have hi' : (gws G (n, kd, rs) (gad S) I J ++ [(q, E)])[i]? = some (gad S i, gce G (n, kd, rs) (gad S) I J i) := by rw [List.getElem?_append_left (by omega)]; exact gws_at hi
    have := hD.1 i n _ _ hi' hq (by show gad S i = q; unfold gad; omega)
    omega
  unfold gad
  by_cases h4 : q < S + n
  · exact absurd (by omega) (h3 (q - S) (by omega))
  · omega
theorem gws_snoc {E : va_E} (h : gce G (n, kd, rs) (gad S) I J n = E) : gws G (n, kd, rs) (gad S) I J ++ [(gad S n, E)] = gws G (n + 1, kd, rs) (gad S) I J := by
  subst h
  unfold gws
  show List.map _ (List.range n) ++ _ = List.map _ (List.range (n + 1))
  rw [List.range_succ, List.map_append]
  rfl
def dflt (t : Nat) : Value := if t = 0 then .int 0 else if t = 1 then .long 0 else .null
theorem c_new (K : gCk G S n0 p s m args c cc nL own meth) (hc : n0 + cells = n) (hn : 0 < n0) (hW : gWd G (n, kd, rs) (gad S) (gB S) s.heap I J H locs) {C : String} {T : u_T} {N ci index : Nat} {tyT : Nat → FieldType} (hkd : kd n = (0, ci)) (hC : kC[ci]? = some (C, T, N)) (hin : ∀ w ∈ u_ws C T N, w ∈ TB) (hty : ∀ k, k < N → parseFieldDescriptor (T k).2.2.1 = some (tyT k)) (hdf : ∀ j, j < N → (gft ci)[j]? = some ((gft ci).getD j 0) ∧ defaultValue (tyT j) = dflt ((gft ci).getD j 0)) (hfr : ∀ k, I n k = 0 ∧ J n k = 0 ∧ rs n k = none) (h1 : Cond.classLink own index C ∈ TB) (h2 : Cond.instantiable C N ∈ TB) (h3 : Cond.initialized C ∈ TB) (hcells : cells + 1 ≤ R.cells) (hslots : slots + N ≤ R.slots) (hdg : decode cc pc = .ok (.new index, 3))
    (kk : ∀ (H1 : Heap), gWd G (n + 1, kd, rs) (gad S) (gB S) s.heap I J H1 locs → W p l e R s m args below meth c H1 locs (cells + 1) (slots + N) Q (F0 m (pc + 3) ls (.ref (gad S n) :: rest))) : W p l e R s m args below meth c H locs cells slots Q (F0 m pc ls rest) := by
  obtain ⟨⟨hx, hb, hml, hown, hts, hK, hN, hZ⟩, hE, -, -⟩ := K
  refine va_new (fs := gfl (n, kd, rs) (gad S) I J n ci) hx hb hts hin tyT hty hown (hts _ h1) (hts _ h2) (hts _ h3) hK hW.1 hW.2.1 hW.2.2 (fun q hq => by show S ≤ q; omega) hC (fun j hj => ?_) hcells hslots hdg (fun q H1 hP hD hS => ?_)
  · obtain ⟨g1, g2⟩ := hdf j hj
    rw [g2]
    show _ = (gfl (n, kd, rs) (gad S) I J n ci).getD j .null
    have e9 : (gfl (n, kd, rs) (gad S) I J n ci).getD j .null = gfv (n, kd, rs) (gad S) I J n j ((gft ci).getD j 0) := by
      rw [List.getD_eq_getElem?_getD, gfl_get g1]; rfl
    rw [e9]
    obtain ⟨f1, f2, f3⟩ := hfr j
    unfold dflt gfv
    match (gft ci).getD j 0 with
    | 0 => simp [f1]
    | 1 => simp [f2]
    | 2 => simp [f3, va_rf]
    | k + 3 => simp [f3, va_rf]
  · refine W_size (fun hub => ?_)
    have hq := c_next hE hc hn hP hD hub
    subst hq
    rw [gws_snoc (by simp [gce, hkd])] at hP hD
    exact kk H1 ⟨hP, hD, hS⟩
theorem c_newa (K : gCk G S n0 p s m args c cc nL own meth) (hc : n0 + cells = n) (hn : 0 < n0) (hW : gWd G (n, kd, rs) (gad S) (gB S) s.heap I J H locs) {atype : ArrayType} {ty : FieldType} {t len : Nat} {a0 : vp_A} (hty : newarray.typeOf atype = ty) (harr : Cond.arrayClass (newarray.typeOf atype) ∈ TB) (hkd : kd n = (t, len)) {i : Int32} (ht : (gtys G)[t - 1]? = some (G.2.2.1 (t - 1), ty)) (hno : ∀ C, ty ≠ .object C) (hcell : gce G (n, kd, rs) (gad S) I J n = .inl (G.2.2.1 (t - 1), a0)) (ha : ∀ cA : ClassId, vp_cell cA a0 = arrV cA len (fun _ => defaultValue ty)) (h0 : ¬ i < 0) (hi : i.toNatClampNeg = len) (hbytes : len * componentBytes ty ≤ 536870912) (hcells : cells + 1 ≤ R.cells) (hslots : slots + len ≤ R.slots) (hdg : decode cc pc = .ok (.newarray atype, 2))
    (kk : ∀ (H1 : Heap), gWd G (n + 1, kd, rs) (gad S) (gB S) s.heap I J H1 locs → W p l e R s m args below meth c H1 locs (cells + 1) (slots + len) Q (F0 m (pc + 2) ls (.ref (gad S n) :: rest))) : W p l e R s m args below meth c H locs cells slots Q (F0 m pc ls (.int i :: rest)) := by
  obtain ⟨⟨hx, hb, hml, hown, hts, hK, hN, hZ⟩, hE, -, -⟩ := K
  refine va_newa (atype := atype) hx hb (hts _ harr) hty hK hW.1 hW.2.1 hW.2.2 (fun q hq => by show S ≤ q; omega) ha h0 hi hbytes hcells hslots hdg (fun q cA H1 hK1 hP hD hS => ?_)
  have e1 : (gtys G ++ [(cA, ty)])[(gtys G).length]? = some (cA, ty) := by rw [List.getElem?_append_right (Nat.le_refl _), Nat.sub_self]; rfl
  have r1 := (hK1.2 _ _ e1).2
  have r2 := (hK.2 _ _ ht).2
  have hcA : cA = G.2.2.1 (t - 1) := by
    cases ty with
    | object C => exact absurd rfl (hno C)
    | _ => exact Option.some.inj (r1.symm.trans r2)
  subst hcA
  refine W_size (fun hub => ?_)
  have hq := c_next hE hc hn hP hD hub
  subst hq
  rw [gws_snoc hcell] at hP hD
  exact kk H1 ⟨hP, hD, hS⟩
theorem c_newq (K : gCk G S n0 p s m args c cc nL own meth) (hc : n0 + cells = n) (hn : 0 < n0) (hW : gWd G (n, kd, rs) (gad S) (gB S) s.heap I J H locs) {C : String} {index len t : Nat} (hO : va_AO C s) (hl : Cond.classLink own index C ∈ TB) (hkd : kd n = (t, len)) {i : Int32} (ht : (gtys G)[t - 1]? = some (G.2.2.1 (t - 1), .object C)) (hcell : gce G (n, kd, rs) (gad S) I J n = .inl (G.2.2.1 (t - 1), len, .inr (.inr (.inr (.inr (fun _ => none)))))) (h0 : ¬ i < 0) (hi : i.toNatClampNeg = len) (hbytes : len * 4 ≤ 536870912) (hcells : cells + 1 ≤ R.cells) (hslots : slots + len ≤ R.slots) (hdg : decode cc pc = .ok (.anewarray index, 3))
    (kk : ∀ (H1 : Heap), gWd G (n + 1, kd, rs) (gad S) (gB S) s.heap I J H1 locs → W p l e R s m args below meth c H1 locs (cells + 1) (slots + len) Q (F0 m (pc + 3) ls (.ref (gad S n) :: rest))) : W p l e R s m args below meth c H locs cells slots Q (F0 m pc ls (.int i :: rest)) := by
  obtain ⟨⟨hx, hb, hml, hown, hts, hK, hN, hZ⟩, hE, -, -⟩ := K
  refine va_newq hx hb hown (hts _ hl) hO hK hW.1 hW.2.1 hW.2.2 (fun q hq => by show S ≤ q; omega) h0 hi hbytes hcells hslots hdg (fun q cA H1 hK1 hP hD hS => ?_)
  have e1 : (gtys G ++ [(cA, .object C)])[(gtys G).length]? = some (cA, .object C) := by rw [List.getElem?_append_right (Nat.le_refl _), Nat.sub_self]; rfl
  obtain ⟨_, _, _, _, _, r1⟩ := (hK1.2 _ _ e1).2
  obtain ⟨_, _, _, _, _, r2⟩ := (hK.2 _ _ ht).2
  have hcA : cA = G.2.2.1 (t - 1) := Option.some.inj (r1.symm.trans r2)
  subst hcA
  refine W_size (fun hub => ?_)
  have hq := c_next hE hc hn hP hD hub
  subst hq
  rw [gws_snoc hcell] at hP hD
  exact kk H1 ⟨hP, hD, hS⟩
/-- two layouts, one beside the other: what a place of references changes -/
theorem gws_setR {o : Nat} {ad : Nat → Nat} (hL : L'.1 = L.1 ∧ L'.2.1 = L.2.1) (ho : o < L.1) (hx : ∀ o', o' ≠ o → I' o' = I o' ∧ J' o' = J o' ∧ L'.2.2 o' = L.2.2 o') : (gws G L ad I J).set o (ad o, gce G L' ad I' J' o) = gws G L' ad I' J' := by
  apply List.ext_getElem?
  intro k
  rw [List.getElem?_set]
  by_cases hk : o = k
  · subst hk
    rw [if_pos rfl, gws_at (by rw [hL.1]; exact ho), if_pos (by simp [gws, ho])]
  · rw [if_neg hk]
    by_cases hkl : k < L.1
    · rw [gws_at hkl, gws_at (by rw [hL.1]; exact hkl)]
      obtain ⟨a1, a2, a3⟩ := hx k (fun h => hk h.symm)
      have hf : ∀ ci, gfl L' ad I' J' k ci = gfl L ad I J k ci := by
        intro ci
        unfold gfl
        congr 1
        funext j
        unfold gfv
        rw [a1, a2, a3]
      unfold gce
      rw [hL.2, a1, a2, a3, hf]
    · rw [List.getElem?_eq_none (by simp [gws]; omega), List.getElem?_eq_none (by simp [gws, hL.1]; omega)]
theorem gfl_setR {ad : Nat → Nat} {o ci k t : Nat} {v : Value} (h : (gft ci)[k]? = some t) (hv : gfv L' ad I' J' o k t = v) (hx : ∀ j, j ≠ k → I' o j = I o j ∧ J' o j = J o j ∧ L'.2.2 o j = L.2.2 o j) : (gfl L ad I J o ci).set k v = gfl L' ad I' J' o ci := by
  have hk := (List.getElem?_eq_some_iff.mp h).1
  apply List.ext_getElem?
  intro j
  rw [List.getElem?_set]
  by_cases hj : k = j
  · subst hj
    rw [if_pos rfl, gfl_get h, if_pos (by rw [gfl_len]; exact hk), hv]
  · rw [if_neg hj]
    by_cases hl : j < (gft ci).length
    · rw [gfl_get (List.getElem?_eq_getElem hl), gfl_get (List.getElem?_eq_getElem hl)]
      obtain ⟨a1, a2, a3⟩ := hx j (fun q => hj q.symm)
      unfold gfv
      rw [a1, a2, a3]
    · rw [List.getElem?_eq_none (by rw [gfl_len]; omega), List.getElem?_eq_none (by rw [gfl_len]; omega)]
/-- a final field gets its reference -/
theorem c_putF (K : gCk G S n0 p s m args c cc nL own meth) (hW : gWd G (n, kd, rs) (gad S) (gB S) s.heap I J H locs) {o ci k N index z : Nat} {T : u_T} {tyT : Nat → FieldType} (ho : o < n) (hkd : kd o = (0, ci)) (ht : (gft ci)[k]? = some 2) (hc : kC[ci]? = some (own, T, N)) (hin : ∀ w ∈ u_ws own T N, w ∈ TB) (hty : ∀ k, k < N → parseFieldDescriptor (T k).2.2.1 = some (tyT k)) (hnm : ∀ a, a < N → ∀ b, b < N → a ≠ b → (T a).2.1 ≠ (T b).2.1) (hk : k < N) (hlink : Cond.fieldLink own index own (T k).2.1 (T k).2.2.1 ∈ TB) (href : (T k).1 = own) (hfin : (T k).2.2.2 = true) (hn : narrow (tyT k) (.ref (gad S z)) = .ref (gad S z)) (hfit : fits (tyT k) (.ref (gad S z)) = true) (hdg : decode cc pc = .ok (.putfield index, 3))
    (kk : ∀ (H1 : Heap) (locs1 : List Loc), gWd G (n, kd, upR rs o k z) (gad S) (gB S) s.heap I J H1 locs1 → W p l e R s m args below meth c H1 locs1 cells slots Q (F0 m (pc + 3) ls rest)) : W p l e R s m args below meth c H locs cells slots Q (F0 m pc ls (.ref (gad S z) :: .ref (gad S o) :: rest)) := by
  obtain ⟨⟨hx, hb, hml, hown, hts, hK, hN, hZ⟩, hE, -, hname⟩ := K
  refine va_putF hx hb hts hin tyT hty hnm hown hK hW.1 hW.2.1 hW.2.2 o (by rw [gws_at (L := (n, kd, rs)) ho, gce_obj ⟨ho, hkd⟩]) hc k hk (hts _ hlink) (fun x h => by rw [← href]; rw [href] at h ⊢; exact h) hfin hname href (hty k hk) hn hfit (by rw [gfl_len]; exact (List.getElem?_eq_some_iff.mp ht).1) hdg (fun H1 locs1 hP hD hS => ?_)
  have e : (gws G (n, kd, rs) (gad S) I J).set o (gad S o, .inr (ci, (gfl (n, kd, rs) (gad S) I J o ci).set k (.ref (gad S z)))) = gws G (n, kd, upR rs o k z) (gad S) I J := by
    rw [gfl_setR (L' := (n, kd, upR rs o k z)) ht (show gfv (n, kd, upR rs o k z) (gad S) I J o k 2 = _ by simp [gfv, upR, va_rf]) (fun j hj => ⟨rfl, rfl, by simp [upR, hj]⟩), ← gce_obj (G := G) (L := (n, kd, upR rs o k z)) ⟨ho, hkd⟩, gws_setR (L := (n, kd, rs)) (L' := (n, kd, upR rs o k z)) (I := I) (I' := I) (J := J) (J' := J) ⟨rfl, rfl⟩ ho (fun o' h => ⟨rfl, rfl, by funext j; simp [upR, h]⟩)]
  rw [e] at hP hD
  exact kk H1 locs1 ⟨hP, hD, hS⟩
/-- the reader's text gets its reference -/
theorem c_putT (K : gCk G S n0 p s m args c cc nL own meth) (hW : gWd G (n, kd, rs) (gad S) (gB S) s.heap I J H locs) {o ci k N index z : Nat} {T : u_T} {tyT : Nat → FieldType} (hz : z < 2 ^ 31) (ho : o < n) (hkd : kd o = (0, ci)) (ht : (gft ci)[k]? = some 3) (hc : kC[ci]? = some (own, T, N)) (hin : ∀ w ∈ u_ws own T N, w ∈ TB) (hty : ∀ k, k < N → parseFieldDescriptor (T k).2.2.1 = some (tyT k)) (hnm : ∀ a, a < N → ∀ b, b < N → a ≠ b → (T a).2.1 ≠ (T b).2.1) (hk : k < N) (hlink : Cond.fieldLink own index own (T k).2.1 (T k).2.2.1 ∈ TB) (href : (T k).1 = own) (hfin : (T k).2.2.2 = false) (hn : narrow (tyT k) (.ref (gad S z)) = .ref (gad S z)) (hfit : fits (tyT k) (.ref (gad S z)) = true) (hdg : decode cc pc = .ok (.putfield index, 3))
    (kk : ∀ (H1 : Heap) (locs1 : List Loc), gWd G (n, kd, upR rs o k z) (gad S) (gB S) s.heap (wI I o k (nI z)) J H1 locs1 → W p l e R s m args below meth c H1 locs1 cells slots Q (F0 m (pc + 3) ls rest)) : W p l e R s m args below meth c H locs cells slots Q (F0 m pc ls (.ref (gad S z) :: .ref (gad S o) :: rest)) := by
  obtain ⟨⟨hx, hb, hml, hown, hts, hK, hN, hZ⟩, hE, -, hname⟩ := K
  refine va_put hx hb hts hin tyT hty hnm hown hK hW.1 hW.2.1 hW.2.2 o (by rw [gws_at (L := (n, kd, rs)) ho, gce_obj ⟨ho, hkd⟩]) hc k hk (hts _ hlink) (fun x h => by rw [← href]; rw [href] at h ⊢; exact h) hfin (hty k hk) hn hfit (by rw [gfl_len]; exact (List.getElem?_eq_some_iff.mp ht).1) hdg (fun H1 locs1 hP hD hS => ?_)
  have e : (gws G (n, kd, rs) (gad S) I J).set o (gad S o, .inr (ci, (gfl (n, kd, rs) (gad S) I J o ci).set k (.ref (gad S z)))) = gws G (n, kd, upR rs o k z) (gad S) (wI I o k (nI z)) J := by
    rw [gfl_setR (L' := (n, kd, upR rs o k z)) (I' := wI I o k (nI z)) (J' := J) ht (show gfv (n, kd, upR rs o k z) (gad S) (wI I o k (nI z)) J o k 3 = _ by simp [gfv, upR, va_rf, wI_self, nI_clamp hz]) (fun j hj => ⟨wI_k hj, rfl, by simp [upR, hj]⟩), ← gce_obj (G := G) (L := (n, kd, upR rs o k z)) ⟨ho, hkd⟩, gws_setR (L := (n, kd, rs)) (L' := (n, kd, upR rs o k z)) (I := I) (I' := wI I o k (nI z)) (J := J) (J' := J) ⟨rfl, rfl⟩ ho (fun o' h => ⟨wI_o h, rfl, by funext j; simp [upR, h]⟩)]
  rw [e] at hP hD
  exact kk H1 locs1 ⟨hP, hD, hS⟩
/-- a row of references gets one -/
theorem c_aast (K : gCk G S n0 p s m args c cc nL own meth) (hW : gWd G (n, kd, rs) (gad S) (gB S) s.heap I J H locs) {o z t len ci j : Nat} {C : String} {T : u_T} {N : Nat} (ho : o < n) (hz : z < n) (hkd : kd o = (t, len)) (hkz : kd z = (0, ci)) (h56 : t = 5 ∨ t = 6) (ht : (gtys G)[t - 1]? = some (G.2.2.1 (t - 1), .object C)) (hc : kC[ci]? = some (C, T, N)) {i : Int32} (hin : vp_in i len) (hj : i.toNatClampNeg = j) (hdg : decode cc pc = .ok (.aastore, 1))
    (kk : ∀ (H1 : Heap) (locs1 : List Loc), gWd G (n, kd, upR rs o j z) (gad S) (gB S) s.heap I J H1 locs1 → W p l e R s m args below meth c H1 locs1 cells slots Q (F0 m (pc + 1) ls rest)) : W p l e R s m args below meth c H locs cells slots Q (F0 m pc ls (.ref (gad S z) :: .int i :: .ref (gad S o) :: rest)) := by
  obtain ⟨⟨hx, hb, hml, hown, hts, hK, hN, hZ⟩, hE, -, -⟩ := K
  subst hj
  have hlt : i.toNatClampNeg < len := Nat.not_le.mp fun q => hin (Or.inr q)
  have hcell : ∀ rs' : Nat → Nat → Option Nat, gce G (n, kd, rs') (gad S) I J o = .inl (G.2.2.1 (t - 1), len, .inr (.inr (.inr (.inr (fun k => if k < len then (rs' o k).map (gad S) else none))))) := by
    intro rs'
    rcases h56 with rfl | rfl <;> simp [gce, hkd]
  refine va_astq hx hb hK hW.1 hW.2.1 hW.2.2 o (t - 1) z ci (r := (C, T, N)) (f := fun k => if k < len then (rs o k).map (gad S) else none) (by rw [gws_at (L := (n, kd, rs)) ho, hcell]) ht (by rw [gws_at (L := (n, kd, rs)) hz, gce_obj ⟨hz, hkz⟩]) hc hin hdg (fun H1 locs1 hP hD hS => ?_)
  have e : (Sum.inl (G.2.2.1 (t - 1), len, .inr (.inr (.inr (.inr (va_up (fun k => if k < len then (rs o k).map (gad S) else none) i.toNatClampNeg (some (gad S z))))))) : va_E) = gce G (n, kd, upR rs o i.toNatClampNeg z) (gad S) I J o := by
    rw [hcell]
    congr 7
    funext k
    unfold va_up upR
    by_cases hk : k = i.toNatClampNeg
    · subst hk; simp [hlt]
    · simp [hk]
  rw [e, gws_setR (L := (n, kd, rs)) (L' := (n, kd, upR rs o i.toNatClampNeg z)) ⟨rfl, rfl⟩ ho (fun o' h => ⟨rfl, rfl, by funext j; simp [upR, h]⟩)] at hP hD
  exact kk H1 locs1 ⟨hP, hD, hS⟩
/-- Object's constructor -/
theorem c_obj (K : gCk G S n0 p s m args c cc nL own meth) {lv : List (Nat × Value)} (hls : lv_has ls nL lv) {index : Nat} {a : Nat} (h1 : Cond.methodLink own index objectInit ∈ TB) (hR : 1 ≤ R.frames) (hR2 : (rest.map fun v => v.category).sum + 12 ≤ R.locals) (hdg : decode cc pc = .ok (.invokespecial index, 3))
    (kk : W p l e R s m args below meth c H locs cells slots Q (F0 m (pc + 3) ls rest)) : W p l e R s m args below meth c H locs cells slots Q (F0 m pc ls (.ref a :: rest)) := by
  obtain ⟨⟨hx, hb, hml, hown, hts, hK, hN, hZ⟩, hE, -, -⟩ := K
  exact W.objInit hx hb hown (hts _ h1) (hts _ q_154) (hts _ qa_obj) rfl (by rw [hml]; exact hls.1) rfl hdg hR (by show 2 * 0 + _ + 12 ≤ _; omega) kk
/-- a constructor's call -/
theorem c_pre (K : gCk G S n0 p s m args c cc nL own meth) (hc : n0 + cells = L.1) (hW : gWd G L (gad S) (gB S) s.heap I J H locs) (hub : H.size ≤ s.heap.size + cells) {As : List Value} : PreS s H (va_Pc As (gWp G L S I J)) As := by
  obtain ⟨⟨hx, hb, hml, hown, hts, hK, hN, hZ⟩, hE, hO, -⟩ := K
  exact ⟨gWp_blind, fun U hU hWm => ⟨rfl, by rw [hU]; exact c_size hE hc hW hub, by rw [hU]; exact hW.1, va_K.moved hWm.alike hK, gNw_warm hWm hN, gZ_warm hWm (gZ_kept hZ (by rw [hU]; exact hW.2.2.2.1)), gAO_moved hWm.alike hO⟩⟩
theorem c_callN {y : MethodName} {bytes : ByteArray} {maxL d mc ms idx : Nat} {host : String} {z : Nat} {lv : List (Nat × Value)} (K : gCk G S n0 p s m args c cc nL own meth) (hc : n0 + cells = L.1) (hW : gWd G L (gad S) (gB S) s.heap I J H locs) (hls : lv_has ls nL lv) (hM : gMk l y bytes maxL d mc ms G S L L' [.ref (gad S z)] I J I' J') (hy : y.name = "<init>") (h1 : Cond.methodLinkNest own idx y host ∈ lw_tbl) (h2 : Cond.instanceMethod y ∈ TB) (h4 : Cond.initialized y.cls ∈ TB) (h5 : Cond.code y bytes maxL none ∈ TB) (hd : gNm y 0) (hR : gRo d maxL R) (hsum : (rest.map fun v => v.category).sum ≤ 8) (hf : cells + mc ≤ R.cells ∧ slots + ms ≤ R.slots) (hdg : decode cc pc = .ok (.invokespecial idx, 3))
    (kk : ∀ (H1 : Heap) (locs1 : List Loc), gWd G L' (gad S) (gB S) s.heap I' J' H1 locs1 → W p l e R s m args below meth c H1 locs1 (cells + mc) (slots + ms) Q (F0 m (pc + 3) ls rest)) : W p l e R s m args below meth c H locs cells slots Q (F0 m pc ls (.ref (gad S z) :: rest)) := by
  refine W_size (fun hub => ?_)
  have hp := c_pre (As := [.ref (gad S z)]) K hc hW hub
  have C := K.1
  exact va_callv (va_runIN (As := []) (rest := rest) (gCx_fix C) hM ⟨va_cnB 0 C.2.2.2.2.1 (gG_c h5) rfl rfl rfl (gNest C h1) (C.2.2.2.2.1 _ h4) hd hR, hy, C.2.2.2.2.1 _ h2⟩ hp rfl rfl hls.1 rfl (lv_room (pc := pc) (ls := ls) (m := m) hsum) hdg hf) hW.2.2 (fun q _ h => h) (fun q h => h) (fun u t H1 locs1 ht _ _ hB _ _ hS1 => kk H1 locs1 ⟨by rw [← ht]; exact hB, gws_DB, hS1⟩)
theorem c_callI {y : MethodName} {bytes : ByteArray} {maxL d mc ms idx : Nat} {z : Nat} {lv : List (Nat × Value)} (K : gCk G S n0 p s m args c cc nL own meth) (hc : n0 + cells = L.1) (hW : gWd G L (gad S) (gB S) s.heap I J H locs) (hls : lv_has ls nL lv) (hM : gMk l y bytes maxL d mc ms G S L L' [.ref (gad S z)] I J I' J') (hy : y.name = "<init>") (h1 : Cond.methodLink own idx y ∈ TB) (h2 : Cond.instanceMethod y ∈ TB) (h4 : Cond.initialized y.cls ∈ TB) (h5 : Cond.code y bytes maxL none ∈ TB) (hd : gNm y 0) (hR : gRo d maxL R) (hsum : (rest.map fun v => v.category).sum ≤ 8) (hf : cells + mc ≤ R.cells ∧ slots + ms ≤ R.slots) (hdg : decode cc pc = .ok (.invokespecial idx, 3))
    (kk : ∀ (H1 : Heap) (locs1 : List Loc), gWd G L' (gad S) (gB S) s.heap I' J' H1 locs1 → W p l e R s m args below meth c H1 locs1 (cells + mc) (slots + ms) Q (F0 m (pc + 3) ls rest)) : W p l e R s m args below meth c H locs cells slots Q (F0 m pc ls (.ref (gad S z) :: rest)) := by
  refine W_size (fun hub => ?_)
  have hp := c_pre (As := [.ref (gad S z)]) K hc hW hub
  have C := K.1
  exact va_callv (va_runI (As := []) (rest := rest) (gCx_fix C) hM (cwI 0 C.2.2.2.2.1 (gG_c h5) rfl rfl rfl (C.2.2.2.2.1 _ h4) (C.2.2.2.2.1 _ h1) (C.2.2.2.2.1 _ h2) hy hd hR) hp rfl rfl hls.1 rfl (lv_room (pc := pc) (ls := ls) (m := m) hsum) hdg hf) hW.2.2 (fun q _ h => h) (fun q h => h) (fun u t H1 locs1 ht _ _ hB _ _ hS1 => kk H1 locs1 ⟨by rw [← ht]; exact hB, gws_DB, hS1⟩)
end CK
