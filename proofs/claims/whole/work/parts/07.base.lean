-- 03: layouts, worlds, contracts (generic rows)
abbrev gI : Type := Nat → Nat → Int32
abbrev gJ : Type := Nat → Nat → Int64
/-- a layout: how many cells, what each is, where its references go -/
abbrev gL : Type := Nat × (Nat → Nat × Nat) × (Nat → Nat → Option Nat)
/-- the numbers of the classes, the slots of their fields, the numbers of the array classes; the text constant, its bytes, a static -/
abbrev gG : Type := (Nat → ClassId) × (Nat → Nat → Nat) × (Nat → ClassId) × (Nat × Nat × Option Nat)
abbrev kC : List vw_C := [(RX0, TX0, 20), (RX1, TX1, 9), (RX2, TX2, 1), (RX3, TX3, 9), (RX5, TX5, 9), (RX6, TX6, 13), (RX7, TX7, 28)]
/-- how a class's fields are held: 0 int, 1 long, 2 a reference that stays, 3 a reference by the number of its cell -/
def gft (ci : Nat) : List Nat := match ci with
  | 0 => [2, 2, 2, 2, 2, 2, 2, 2, 2, 2, 2, 2, 0, 0, 0, 0, 0, 0, 0, 0]
  | 1 => [2, 2, 2, 0, 0, 0, 3, 0, 0]
  | 2 => [2]
  | 3 => [2, 2, 2, 2, 2, 2, 2, 0, 0]
  | 4 => [2, 2, 2, 0, 0, 0, 0, 0, 0]
  | 5 => [2, 2, 2, 2, 2, 2, 2, 2, 2, 2, 0, 0, 0]
  | _ => [2, 2, 2, 2, 0, 0, 0, 0, 0, 0, 0, 1, 0, 0, 0, 2, 0, 0, 0, 0, 2, 2, 2, 0, 2, 2, 2, 2]
def wI (I : gI) (o k : Nat) (v : Int32) : gI := fun o' k' => if o' = o ∧ k' = k then v else I o' k'
def wJ (J : gJ) (o k : Nat) (v : Int64) : gJ := fun o' k' => if o' = o ∧ k' = k then v else J o' k'
def cpI (I : gI) (src sp dst dp n : Nat) : gI := fun o' k' => if o' = dst then va_cpy (I src) (I dst) sp dp n k' else I o' k'
def gfv (L : gL) (ad : Nat → Nat) (I : gI) (J : gJ) (o k t : Nat) : Value := match t with
  | 0 => .int (I o k)
  | 1 => .long (J o k)
  | 2 => va_rf ((L.2.2 o k).map ad)
  | _ => va_rf ((L.2.2 o k).map (fun _ => ad (I o k).toNatClampNeg))
def gfl (L : gL) (ad : Nat → Nat) (I : gI) (J : gJ) (o ci : Nat) : List Value := (List.range (gft ci).length).map (fun k => gfv L ad I J o k ((gft ci).getD k 0))
/-- what a cell holds -/
def gce (G : gG) (L : gL) (ad : Nat → Nat) (I : gI) (J : gJ) (o : Nat) : va_E := match (L.2.1 o).1 with
  | 0 => .inr ((L.2.1 o).2, gfl L ad I J o (L.2.1 o).2)
  | 2 => .inl (G.2.2.1 1, (L.2.1 o).2, .inr (.inl (J o)))
  | 5 => .inl (G.2.2.1 4, (L.2.1 o).2, .inr (.inr (.inr (.inr (fun j => if j < (L.2.1 o).2 then (L.2.2 o j).map ad else none)))))
  | 6 => .inl (G.2.2.1 5, (L.2.1 o).2, .inr (.inr (.inr (.inr (fun j => if j < (L.2.1 o).2 then (L.2.2 o j).map ad else none)))))
  | t => .inl (G.2.2.1 (t - 1), (L.2.1 o).2, .inl (I o))
def gtys (G : gG) : List (ClassId × FieldType) := [(G.2.2.1 0, .int), (G.2.2.1 1, .long), (G.2.2.1 2, .boolean), (G.2.2.1 3, .char), (G.2.2.1 4, .object "DawnPerquisite$Wall"), (G.2.2.1 5, .object "DawnPerquisite$Text")]
def gws (G : gG) (L : gL) (ad : Nat → Nat) (I : gI) (J : gJ) : va_W := (List.range L.1).map (fun o => (ad o, gce G L ad I J o))
def gAt (L : gL) (o a b : Nat) : Prop := o < L.1 ∧ L.2.1 o = (a, b)
theorem gws_at {G : gG} {L : gL} {ad : Nat → Nat} {I : gI} {J : gJ} {o : Nat} (h : o < L.1) : (gws G L ad I J)[o]? = some (ad o, gce G L ad I J o) := by
  simp [gws, h]
theorem gws_in {G : gG} {L : gL} {ad : Nat → Nat} {I : gI} {J : gJ} {o : Nat} {q : Nat × va_E} (h : (gws G L ad I J)[o]? = some q) : o < L.1 ∧ q = (ad o, gce G L ad I J o) := by
  have h1 : o < L.1 := by
    have := (List.getElem?_eq_some_iff.mp h).1
    simpa [gws] using this
  exact ⟨h1, Option.some.inj (h.symm.trans (gws_at h1))⟩
theorem gce_congr {G : gG} {L : gL} {ad : Nat → Nat} {I I' : gI} {J J' : gJ} {o : Nat} (hi : I' o = I o) (hj : J' o = J o) : gce G L ad I' J' o = gce G L ad I J o := by
  have hf : ∀ ci, gfl L ad I' J' o ci = gfl L ad I J o ci := by
    intro ci
    unfold gfl
    congr 1
    funext k
    unfold gfv
    rw [hi, hj]
  unfold gce
  rw [hi, hj, hf]
theorem gws_set {G : gG} {L : gL} {ad : Nat → Nat} {I I' : gI} {J J' : gJ} {o : Nat} (ho : o < L.1) (hx : ∀ o', o' ≠ o → I' o' = I o' ∧ J' o' = J o') : (gws G L ad I J).set o (ad o, gce G L ad I' J' o) = gws G L ad I' J' := by
  apply List.ext_getElem?
  intro k
  rw [List.getElem?_set]
  by_cases hk : o = k
  · subst hk
    rw [if_pos rfl, gws_at ho, if_pos (by simp [gws, ho])]
  · rw [if_neg hk]
    by_cases hkl : k < L.1
    · rw [gws_at hkl, gws_at hkl, gce_congr (hx k (fun h => hk h.symm)).1 (hx k (fun h => hk h.symm)).2]
    · rw [List.getElem?_eq_none (by simp [gws]; omega), List.getElem?_eq_none (by simp [gws]; omega)]
theorem gws_D {G : gG} {L : gL} {ad : Nat → Nat} {I I' : gI} {J J' : gJ} {A : Nat → Prop} (h : va_D A (gws G L ad I J)) : va_D A (gws G L ad I' J') := by
  refine ⟨fun i j p q hi hj hpq => ?_, fun k q hk => ?_⟩
  · obtain ⟨h1, e1⟩ := gws_in hi
    obtain ⟨h2, e2⟩ := gws_in hj
    exact h.1 i j _ _ (gws_at h1) (gws_at h2) (by rw [e1, e2] at hpq; exact hpq)
  · obtain ⟨h1, e1⟩ := gws_in hk
    have := h.2 k _ (gws_at h1)
    rw [e1]; exact this
def gA (L : gL) (ad : Nat → Nat) : Nat → Prop := fun q => ∃ o, o < L.1 ∧ q = ad o
def gInj (L : gL) (ad : Nat → Nat) : Prop := ∀ i j, i < L.1 → j < L.1 → ad i = ad j → i = j
theorem gws_DA {G : gG} {L : gL} {ad : Nat → Nat} {I : gI} {J : gJ} (h : gInj L ad) : va_D (gA L ad) (gws G L ad I J) := by
  refine ⟨fun i j p q hi hj hpq => ?_, fun k q hk => ?_⟩
  · obtain ⟨h1, e1⟩ := gws_in hi
    obtain ⟨h2, e2⟩ := gws_in hj
    exact h i j h1 h2 (by rw [e1, e2] at hpq; exact hpq)
  · obtain ⟨h1, e1⟩ := gws_in hk
    exact ⟨k, h1, by rw [e1]⟩
theorem gA_in {G : gG} {L : gL} {ad : Nat → Nat} {I : gI} {J : gJ} {A : Nat → Prop} (h : va_D A (gws G L ad I J)) : ∀ q, gA L ad q → A q := by
  rintro q ⟨o, ho, rfl⟩
  exact h.2 o _ (gws_at ho)
/-- the world at a heap, within a walk -/
def gWd (G : gG) (L : gL) (ad : Nat → Nat) (A : Nat → Prop) (H0 : Heap) (I : gI) (J : gJ) (H : Heap) (locs : List Loc) : Prop := va_P (G.1, G.2.1) kC (gws G L ad I J) H ∧ va_D A (gws G L ad I J) ∧ va_S A H0 H locs
/-- the links within a nest -/
def isNest : Cond → Bool
  | .methodLinkNest .. => true
  | _ => false
def gNw (U : State) : Prop := ∀ w ∈ lw_tbl, isNest w = true → va_Nw w U
theorem gNw_warm {s U : State} (hW : s.WarmedH U.vm) (h : gNw s) : gNw U := by
  intro w hw hn
  cases w with
  | methodLinkNest a i x q => exact va_Nw.warmM hW (h _ hw hn)
  | _ => simp [isNest] at hn
theorem gNw_same {u U : State} (e : u.vm = U.vm) (h : gNw u) : gNw U := by
  intro w hw hn
  cases w with
  | methodLinkNest a i x q => exact va_Nw.same rfl e (h _ hw hn)
  | _ => simp [isNest] at hn
/-- the one text constant: the words of the language, five bytes each -/
def tokT : String := "bids earnsbuyerto   sort by   sell give turn day  worthpurseif   then else end  or   and  not  long own  free wantshas  "
def tokB : List Int32 := [98, 105, 100, 115, 32, 101, 97, 114, 110, 115, 98, 117, 121, 101, 114, 116, 111, 32, 32, 32, 115, 111, 114, 116, 32, 98, 121, 32, 32, 32, 115, 101, 108, 108, 32, 103, 105, 118, 101, 32, 116, 117, 114, 110, 32, 100, 97, 121, 32, 32, 119, 111, 114, 116, 104, 112, 117, 114, 115, 101, 105, 102, 32, 32, 32, 116, 104, 101, 110, 32, 101, 108, 115, 101, 32, 101, 110, 100, 32, 32, 111, 114, 32, 32, 32, 97, 110, 100, 32, 32, 110, 111, 116, 32, 32, 108, 111, 110, 103, 32, 111, 119, 110, 32, 32, 102, 114, 101, 101, 32, 119, 97, 110, 116, 115, 104, 97, 115, 32, 32]
/-- what stays as it was at the start: that text, two statics -/
def gZ (G : gG) (A : Nat → Prop) (U : State) (H : Heap) : Prop := vk_S 1 [120] [tokB] (fun _ => G.2.2.2.1) (fun _ => G.2.2.2.2.1) A U H ∧ vk_R "DawnPerquisite$Token" 9 tokT G.2.2.2.1 U ∧ va_Z "java/lang/String" "COMPACT_STRINGS" "Z" (.int 1) A U H ∧ va_Z "jdk/internal/util/Preconditions" "SIOOBE_FORMATTER" "Ljava/util/function/BiFunction;" (va_rf G.2.2.2.2.2) A U H
theorem gZ_kept {G : gG} {A : Nat → Prop} {U : State} {H H1 : Heap} (h : gZ G A U H) (hq : ∀ a : Nat, a < H.size → ¬ A a → H1[a]? = H[a]?) : gZ G A U H1 := ⟨h.1.kept hq, h.2.1, h.2.2.1.kept hq, h.2.2.2.kept hq⟩
theorem gZ_narrow {G : gG} {A B : Nat → Prop} {U : State} {H : Heap} (h : gZ G A U H) (hAB : ∀ q, B q → A q) : gZ G B U H := ⟨h.1.narrow hAB, h.2.1, h.2.2.1.narrow hAB, h.2.2.2.narrow hAB⟩
theorem gZ_warm {G : gG} {A : Nat → Prop} {s U : State} {H : Heap} (hW : s.WarmedH U.vm) (h : gZ G A s H) : gZ G A U H := ⟨h.1.moved hW.alike, h.2.1.warm hW, h.2.2.1.moved hW.alike, h.2.2.2.moved hW.alike⟩
theorem gZ_same {G : gG} {A : Nat → Prop} {u U : State} {H : Heap} (e : U.vm = u.vm) (h : gZ G A u H) : gZ G A U H :=
  have ha : u.vm.Alike U.vm := by rw [e]; exact Vm.Alike.refl u.vm
  ⟨h.1.moved ha, h.2.1.same e, h.2.2.1.moved ha, h.2.2.2.moved ha⟩
/-- the world at a state, in contracts -/
def gWo (G : gG) (L : gL) (ad : Nat → Nat) (I : gI) (J : gJ) (U : State) : Prop := va_P (G.1, G.2.1) kC (gws G L ad I J) U.heap ∧ va_K (G.1, G.2.1) kC (gtys G) U ∧ gNw U ∧ gZ G (gA L ad) U U.heap
def gRm (d : Nat) : Room := { frames := d, cells := 0, slots := 0, locals := 64 * d }
/-- a walk's surroundings -/
def gCx (G : gG) (A : Nat → Prop) (p : Program) (s : State) (m : MethodId) (args : Array Value) (c : Code) (cc : ByteArray) (nL : Nat) (own : String) : Prop := p.tables.exec = Jvm.exec ∧ c.code = cc ∧ c.maxLocals = nL ∧ s.vm.findClass own = some m.cls ∧ (∀ w ∈ TB, w.before args s = true) ∧ va_K (G.1, G.2.1) kC (gtys G) s ∧ gNw s ∧ gZ G A s s.heap
theorem gWo_blind {av : List Value} {G : gG} {L : gL} {ad : Nat → Nat} {I : gI} {J : gJ} : FrameBlind (va_Pc av (gWo G L ad I J)) := by
  intro a U g mk h
  exact ⟨h.1, h.2.1, va_K.moved (u := U) (U := U.calling g mk a) (Vm.Alike.refl U.vm) h.2.2.1, gNw_same (u := U) (U := U.calling g mk a) rfl h.2.2.2.1, gZ_same (u := U) (U := U.calling g mk a) rfl h.2.2.2.2⟩
/-- contracts: int (with a fact of the answer), long, void -/
def gMi (l : Launch) (y : MethodName) (cc : ByteArray) (nL : Nat) (ret : Option FieldType) (d : Nat) (G : gG) (L : gL) (ad : Nat → Nat) (av : List Value) (I : gI) (J : gJ) (v : Int32) (P : Prop) (I' : gI) (J' : gJ) : Prop :=
  Met l y (.code y cc nL ret :: TB) (gRm d) (va_Pc av (gWo G L ad I J)) (va_Qi (fun r (_ : Unit) => r = v ∧ P) (fun _ => gWo G L ad I' J') (gA L ad)) 0 0 (gA L ad)
def gMl (l : Launch) (y : MethodName) (cc : ByteArray) (nL : Nat) (ret : Option FieldType) (d : Nat) (G : gG) (L : gL) (ad : Nat → Nat) (av : List Value) (I : gI) (J : gJ) (v : Int64) (I' : gI) (J' : gJ) : Prop :=
  Met l y (.code y cc nL ret :: TB) (gRm d) (va_Pc av (gWo G L ad I J)) (va_Ql (fun r (_ : Unit) => r = v) (fun _ => gWo G L ad I' J') (gA L ad)) 0 0 (gA L ad)
def gMv (l : Launch) (y : MethodName) (cc : ByteArray) (nL : Nat) (ret : Option FieldType) (d : Nat) (G : gG) (L : gL) (ad : Nat → Nat) (av : List Value) (I : gI) (J : gJ) (I' : gI) (J' : gJ) : Prop :=
  Met l y (.code y cc nL ret :: TB) (gRm d) (va_Pc av (gWo G L ad I J)) (va_Qv (fun (_ : Unit) => True) (fun _ => gWo G L ad I' J') (gA L ad)) 0 0 (gA L ad)
theorem gG_c {y : MethodName} {bytes : ByteArray} {n : Nat} {ret : Option FieldType} (h5 : Cond.code y bytes n ret ∈ TB) : GoodIn TB (.code y bytes n ret :: TB) := by
  intro w hw
  rcases List.mem_cons.mp hw with rfl | h
  · exact ⟨h5, TB_g h5⟩
  · exact ⟨h, TB_g h⟩
theorem gG_V {own : String} {idx : Nat} {C : String} {y : MethodName} {bytes : ByteArray} {n : Nat} {ret : Option FieldType} (h1 : Cond.methodLink own idx y ∈ TB) (h2 : Cond.instanceMethod y ∈ TB) (h3 : Cond.selects C y y ∈ TB) (h4 : Cond.initialized C ∈ TB) (h5 : Cond.code y bytes n ret ∈ TB) : GoodIn TB (wsV own idx C y (.code y bytes n ret :: TB)) := by
  intro w hw
  unfold wsV at hw
  rcases List.mem_append.mp hw with h | h
  · simp only [List.mem_cons, List.not_mem_nil, or_false] at h
    rcases h with rfl | rfl | rfl | rfl
    · exact ⟨h1, TB_g h1⟩
    · exact ⟨h2, TB_g h2⟩
    · exact ⟨h3, TB_g h3⟩
    · exact ⟨h4, TB_g h4⟩
  · exact gG_c h5 w h

