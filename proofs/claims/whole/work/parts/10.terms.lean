-- 10: the words in which methods' texts are written, and how a walk reads them
noncomputable def gi {α : Type} (c : Prop) (a b : α) : α := @ite α c (Classical.propDecidable c) a b
theorem gi_pos {α : Type} {c : Prop} {a b : α} (h : c) : gi c a b = a := if_pos h
theorem gi_neg {α : Type} {c : Prop} {a b : α} (h : ¬ c) : gi c a b = b := if_neg h
noncomputable def gd {α : Type} (c : Prop) (x : Option α) : Option α := gi c x none
theorem gd_pos {α : Type} {c : Prop} {x : Option α} (h : c) : gd c x = x := gi_pos h
def bd {α β : Type} (o : Option α) (f : α → Option β) : Option β := match o with
  | some a => f a
  | none => none
theorem bd_some {α β : Type} {a : α} {f : α → Option β} : bd (some a) f = f a := rfl
def lz {α β : Type} (a : α) (f : α → β) : β := f a
def pr {α β γ : Type} (f : α → β → γ) (r : α × β) : γ := f r.1 r.2
def sm {α β γ : Type} (f : α → γ) (g : β → γ) (r : α ⊕ β) : γ := match r with
  | .inl a => f a
  | .inr b => g b
/-- how often a loop may turn, at most -/
def FU : Nat := 5000
theorem gi_t {α : Type} {c : Prop} {a b o : α} (h : gi c a b = o) (hc : c) : a = o := (gi_pos hc).symm.trans h
theorem gi_f {α : Type} {c : Prop} {a b o : α} (h : gi c a b = o) (hc : ¬ c) : b = o := (gi_neg hc).symm.trans h
theorem gd_o {α : Type} {c : Prop} {x o : Option α} (h : gd c x = o) (hn : o ≠ none) : c ∧ x = o := by
  by_cases hc : c
  · exact ⟨hc, gi_t h hc⟩
  · exact absurd (gi_f h hc).symm hn
theorem bd_o {α β : Type} {x : Option α} {f : α → Option β} {o : Option β} (h : bd x f = o) (hn : o ≠ none) : ∃ r, x = some r ∧ f r = o := by
  cases x with
  | none => exact absurd h.symm hn
  | some a => exact ⟨a, rfl, h⟩
theorem lz_o {α β : Type} {a : α} {f : α → β} {o : β} (h : lz a f = o) : ∃ x, x = a ∧ f x = o := ⟨a, rfl, h⟩
theorem pr_o {α β γ : Type} {f : α → β → γ} {a : α} {b : β} {o : γ} (h : pr f (a, b) = o) : f a b = o := h
theorem sm_l {α β γ : Type} {f : α → γ} {g : β → γ} {a : α} {o : γ} (h : sm f g (.inl a) = o) : f a = o := h
theorem sm_r {α β γ : Type} {f : α → γ} {g : β → γ} {b : β} {o : γ} (h : sm f g (.inr b) = o) : g b = o := h
theorem so1 {α : Type} {a c : α} (h : some a = some c) : c = a := (Option.some.inj h).symm
theorem so2 {α β : Type} {a c : α} {b d : β} (h : some (a, b) = some (c, d)) : c = a ∧ d = b := by cases h; exact ⟨rfl, rfl⟩
theorem so3 {α β γ : Type} {a c : α} {b d : β} {e f : γ} (h : some (a, b, e) = some (c, d, f)) : c = a ∧ d = b ∧ f = e := by cases h; exact ⟨rfl, rfl, rfl⟩
theorem to2 {α β : Type} {a c : α} {b d : β} (h : (a, b) = (c, d)) : c = a ∧ d = b := by cases h; exact ⟨rfl, rfl⟩
theorem to3 {α β γ : Type} {a c : α} {b d : β} {e f : γ} (h : (a, b, e) = (c, d, f)) : c = a ∧ d = b ∧ f = e := by cases h; exact ⟨rfl, rfl, rfl⟩
/-- operations as the machine does them -/
def jrem (x y : Int32) : Int32 := x - x / y * y
def jlrem (x y : Int64) : Int64 := x - x / y * y
def jshl (x y : Int32) : Int32 := x <<< (y &&& 31)
def jshr (x y : Int32) : Int32 := x >>> (y &&& 31)
def jushr (x y : Int32) : Int32 := (x.toUInt32 >>> (y.toUInt32 &&& Int32.toUInt32 31)).toInt32
def jlshl (x : Int64) (y : Int32) : Int64 := x <<< (y.toInt64 &&& 63)
def jlshr (x : Int64) (y : Int32) : Int64 := x >>> (y.toInt64 &&& 63)
def ji2c (x : Int32) : Int32 := (x.toUInt32 % 65536).toInt32
def jmax (x y : Int32) : Int32 := if x < y then y else x
def jmin (x y : Int32) : Int32 := if y < x then y else x
def jlmax (x y : Int64) : Int64 := if y < x then x else y
def nbool (x : Int32) : Int32 := vp_nar .boolean x
def nchar (x : Int32) : Int32 := vp_nar .char x
theorem in_c {i : Int32} {n : Nat} (h1 : ¬ i < 0) (h2 : i.toNatClampNeg < n) : vp_in i n := by
  rintro (h | h)
  · exact h1 h
  · omega
section GT
variable {p : Program} {l : Launch} {e : Env} {R : Room} {s : State} {m : MethodId} {args : Array Value} {below : List Frame} {meth : Method} {c : Code} {H : Heap} {locs : List Loc} {cells slots : Nat} {Q : State → Prop}
variable {cc : ByteArray} {pc nL : Nat} {ls : Array Slot} {rest : List Value} {G : gG} {L : gL} {ad : Nat → Nat} {A : Nat → Prop} {H0 : Heap} {I I1 : gI} {J J1 : gJ} {own : String}
theorem g_nmi {x y : Int32} (q : y = x) (k : W p l e R s m args below meth c H locs cells slots Q (F0 m pc ls (.int y :: rest))) : W p l e R s m args below meth c H locs cells slots Q (F0 m pc ls (.int x :: rest)) := q ▸ k
theorem g_nml {x y : Int64} (q : y = x) (k : W p l e R s m args below meth c H locs cells slots Q (F0 m pc ls (.long y :: rest))) : W p l e R s m args below meth c H locs cells slots Q (F0 m pc ls (.long x :: rest)) := q ▸ k
theorem gWd_nI (q : I1 = I) (h : gWd G L ad A H0 I J H locs) : gWd G L ad A H0 I1 J H locs := q ▸ h
theorem gWd_nJ (q : J1 = J) (h : gWd G L ad A H0 I J H locs) : gWd G L ad A H0 I J1 H locs := q ▸ h
theorem gWd_nIJ (q : I1 = I) (r : J1 = J) (h : gWd G L ad A H0 I J H locs) : gWd G L ad A H0 I1 J1 H locs := q ▸ r ▸ h
theorem g_irem (hexec : p.tables.exec = Jvm.exec) (hb : c.code = cc) {x y : Int32} (hdg : decode cc pc = .ok (.irem, 1)) (hne : ¬ y = 0) (k : W p l e R s m args below meth c H locs cells slots Q (F0 m (pc + 1) ls (.int (jrem x y) :: rest))) : W p l e R s m args below meth c H locs cells slots Q (F0 m pc ls (.int y :: .int x :: rest)) := lv_irem hexec hb hdg hne k
theorem g_lrem (hexec : p.tables.exec = Jvm.exec) (hb : c.code = cc) {x y : Int64} (hdg : decode cc pc = .ok (.lrem, 1)) (hne : ¬ y = 0) (k : W p l e R s m args below meth c H locs cells slots Q (F0 m (pc + 1) ls (.long (jlrem x y) :: rest))) : W p l e R s m args below meth c H locs cells slots Q (F0 m pc ls (.long y :: .long x :: rest)) := lv_lrem hexec hb hdg hne k
theorem g_ishl (hexec : p.tables.exec = Jvm.exec) (hb : c.code = cc) {x y : Int32} (hdg : decode cc pc = .ok (.ishl, 1)) (k : W p l e R s m args below meth c H locs cells slots Q (F0 m (pc + 1) ls (.int (jshl x y) :: rest))) : W p l e R s m args below meth c H locs cells slots Q (F0 m pc ls (.int y :: .int x :: rest)) := lv_ishl hexec hb hdg k
theorem g_ishr (hexec : p.tables.exec = Jvm.exec) (hb : c.code = cc) {x y : Int32} (hdg : decode cc pc = .ok (.ishr, 1)) (k : W p l e R s m args below meth c H locs cells slots Q (F0 m (pc + 1) ls (.int (jshr x y) :: rest))) : W p l e R s m args below meth c H locs cells slots Q (F0 m pc ls (.int y :: .int x :: rest)) := lv_ishr hexec hb hdg k
theorem g_iushr (hexec : p.tables.exec = Jvm.exec) (hb : c.code = cc) {x y : Int32} (hdg : decode cc pc = .ok (.iushr, 1)) (k : W p l e R s m args below meth c H locs cells slots Q (F0 m (pc + 1) ls (.int (jushr x y) :: rest))) : W p l e R s m args below meth c H locs cells slots Q (F0 m pc ls (.int y :: .int x :: rest)) := lv_iushr hexec hb hdg rfl k
theorem g_lshl (hexec : p.tables.exec = Jvm.exec) (hb : c.code = cc) {x : Int64} {y : Int32} (hdg : decode cc pc = .ok (.lshl, 1)) (k : W p l e R s m args below meth c H locs cells slots Q (F0 m (pc + 1) ls (.long (jlshl x y) :: rest))) : W p l e R s m args below meth c H locs cells slots Q (F0 m pc ls (.int y :: .long x :: rest)) := lv_lshl hexec hb hdg rfl k
theorem g_lshr (hexec : p.tables.exec = Jvm.exec) (hb : c.code = cc) {x : Int64} {y : Int32} (hdg : decode cc pc = .ok (.lshr, 1)) (k : W p l e R s m args below meth c H locs cells slots Q (F0 m (pc + 1) ls (.long (jlshr x y) :: rest))) : W p l e R s m args below meth c H locs cells slots Q (F0 m pc ls (.int y :: .long x :: rest)) := lv_lshr hexec hb hdg rfl k
theorem g_i2c (hexec : p.tables.exec = Jvm.exec) (hb : c.code = cc) {x : Int32} (hdg : decode cc pc = .ok (.i2c, 1)) (k : W p l e R s m args below meth c H locs cells slots Q (F0 m (pc + 1) ls (.int (ji2c x) :: rest))) : W p l e R s m args below meth c H locs cells slots Q (F0 m pc ls (.int x :: rest)) := lv_i2c hexec hb hdg rfl k
theorem g_max (K : gCx G A p s m args c cc nL own) {lv : List (Nat × Value)} (hls : lv_has ls nL lv) {index : Nat} (hlink : Cond.methodLink own index yJ9_max_7cf53 ∈ TB) (hR : 1 ≤ R.frames) (hR2 : (rest.map fun v => v.category).sum + 13 ≤ R.locals) (hf : cells ≤ R.cells ∧ slots ≤ R.slots) {x y : Int32} (hdg : decode cc pc = .ok (.invokestatic index, 3)) (k : W p l e R s m args below meth c H locs cells slots Q (F0 m (pc + 3) ls (.int (jmax x y) :: rest))) : W p l e R s m args below meth c H locs cells slots Q (F0 m pc ls (.int y :: .int x :: rest)) :=
  va_mmax K.1 K.2.1 (by rw [K.2.2.1]; exact hls.1.symm) K.2.2.2.1 (K.2.2.2.2.1 _ hlink) (K.2.2.2.2.1 _ q_702) (K.2.2.2.2.1 _ q_145) (K.2.2.2.2.1 _ q_703) hR hR2 hf.1 hf.2 hdg k
theorem g_min (K : gCx G A p s m args c cc nL own) {lv : List (Nat × Value)} (hls : lv_has ls nL lv) {index : Nat} (hlink : Cond.methodLink own index yJ9_min_7cf53 ∈ TB) (hR : 1 ≤ R.frames) (hR2 : (rest.map fun v => v.category).sum + 13 ≤ R.locals) (hf : cells ≤ R.cells ∧ slots ≤ R.slots) {x y : Int32} (hdg : decode cc pc = .ok (.invokestatic index, 3)) (k : W p l e R s m args below meth c H locs cells slots Q (F0 m (pc + 3) ls (.int (jmin x y) :: rest))) : W p l e R s m args below meth c H locs cells slots Q (F0 m pc ls (.int y :: .int x :: rest)) :=
  va_mmin K.1 K.2.1 (by rw [K.2.2.1]; exact hls.1.symm) K.2.2.2.1 (K.2.2.2.2.1 _ hlink) (K.2.2.2.2.1 _ q_566) (K.2.2.2.2.1 _ q_145) (K.2.2.2.2.1 _ q_567) hR hR2 hf.1 hf.2 hdg k
theorem g_lmax (K : gCx G A p s m args c cc nL own) {lv : List (Nat × Value)} (hls : lv_has ls nL lv) {index : Nat} (hlink : Cond.methodLink own index yJ9_max_f86c9 ∈ TB) (hR : 1 ≤ R.frames) (hR2 : (rest.map fun v => v.category).sum + 15 ≤ R.locals) (hf : cells ≤ R.cells ∧ slots ≤ R.slots) {x y : Int64} (hdg : decode cc pc = .ok (.invokestatic index, 3)) (k : W p l e R s m args below meth c H locs cells slots Q (F0 m (pc + 3) ls (.long (jlmax x y) :: rest))) : W p l e R s m args below meth c H locs cells slots Q (F0 m pc ls (.long y :: .long x :: rest)) :=
  va_mmax_long K.1 K.2.1 (by rw [K.2.2.1]; exact hls.1.symm) K.2.2.2.1 (K.2.2.2.2.1 _ hlink) (K.2.2.2.2.1 _ q_944) (K.2.2.2.2.1 _ q_145) (K.2.2.2.2.1 _ q_945) hR hR2 hf.1 hf.2 hdg k
theorem g_tabIn (hexec : p.tables.exec = Jvm.exec) (hb : c.code = cc) {dflt lo hi : Int} {offs : Array Int} {len : Nat} {x k : Int32} {off : Int} {tgt : Nat} (hk : x = k) (hdg : decode cc pc = .ok (.tableswitch dflt lo hi offs, len)) (h1 : ¬ k.toInt < lo) (h2 : ¬ hi < k.toInt) (ho : offs[(k.toInt - lo).toNat]? = some off) (ht : (pc : Int) + off = (tgt : Int))
    (kk : W p l e R s m args below meth c H locs cells slots Q (F0 m tgt ls rest)) : W p l e R s m args below meth c H locs cells slots Q (F0 m pc ls (.int x :: rest)) := by
  subst hk
  exact lv_tableIn hexec hb hdg h1 h2 ho ht kk
theorem g_lookIn (hexec : p.tables.exec = Jvm.exec) (hb : c.code = cc) {dflt : Int} {ps : Array (Int × Int)} {len : Nat} {x k : Int32} {off : Int} {tgt : Nat} (hk : x = k) (hdg : decode cc pc = .ok (.lookupswitch dflt ps, len)) (hp : (ps.toList.zip (ps.toList.drop 1)).all (fun (a, next) => a.1 < next.1) = true) (ho : Op.lookupswitch.offset ps.toList dflt k.toInt = off) (ht : (pc : Int) + off = (tgt : Int))
    (kk : W p l e R s m args below meth c H locs cells slots Q (F0 m tgt ls rest)) : W p l e R s m args below meth c H locs cells slots Q (F0 m pc ls (.int x :: rest)) := by
  subst hk
  exact lv_lookup hexec hb hdg hp ho ht kk
end GT
