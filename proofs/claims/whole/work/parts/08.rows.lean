-- 04: rows of worlds: fields, arrays, calls, ends
theorem gfl_get {L : gL} {ad : Nat → Nat} {I : gI} {J : gJ} {o ci k t : Nat} (h : (gft ci)[k]? = some t) : (gfl L ad I J o ci)[k]? = some (gfv L ad I J o k t) := by
  have hk := (List.getElem?_eq_some_iff.mp h).1
  unfold gfl
  rw [List.getElem?_map, List.getElem?_range hk]
  simp [List.getD, h]
theorem gfl_len {L : gL} {ad : Nat → Nat} {I : gI} {J : gJ} {o ci : Nat} : (gfl L ad I J o ci).length = (gft ci).length := by simp [gfl]
theorem gfl_set {L : gL} {ad : Nat → Nat} {I I' : gI} {J J' : gJ} {o ci k t : Nat} {v : Value} (h : (gft ci)[k]? = some t) (hv : gfv L ad I' J' o k t = v) (hx : ∀ j, j ≠ k → I' o j = I o j ∧ J' o j = J o j) : (gfl L ad I J o ci).set k v = gfl L ad I' J' o ci := by
  have hk := (List.getElem?_eq_some_iff.mp h).1
  apply List.ext_getElem?
  intro j
  rw [List.getElem?_set]
  by_cases hj : k = j
  · subst hj
    rw [if_pos rfl, gfl_get h, if_pos (by rw [gfl_len]; exact hk), hv]
  · rw [if_neg hj]
    by_cases hl : j < (gft ci).length
    · rw [gfl_get (List.getElem?_eq_getElem hl), gfl_get (List.getElem?_eq_getElem hl)]
      have := hx j (fun q => hj q.symm)
      unfold gfv
      rw [this.1, this.2]
    · rw [List.getElem?_eq_none (by rw [gfl_len]; omega), List.getElem?_eq_none (by rw [gfl_len]; omega)]
theorem wI_self {I : gI} {o k : Nat} {v : Int32} : wI I o k v o k = v := by simp [wI]
theorem wI_o {I : gI} {o k o' : Nat} {v : Int32} (h : o' ≠ o) : wI I o k v o' = I o' := by funext j; simp [wI, h]
theorem wI_k {I : gI} {o k j : Nat} {v : Int32} (h : j ≠ k) : wI I o k v o j = I o j := by simp [wI, h]
theorem wJ_self {J : gJ} {o k : Nat} {v : Int64} : wJ J o k v o k = v := by simp [wJ]
theorem wJ_o {J : gJ} {o k o' : Nat} {v : Int64} (h : o' ≠ o) : wJ J o k v o' = J o' := by funext j; simp [wJ, h]
theorem wJ_k {J : gJ} {o k j : Nat} {v : Int64} (h : j ≠ k) : wJ J o k v o j = J o j := by simp [wJ, h]
theorem wI_upd {I : gI} {o k : Nat} {v : Int32} : wI I o k v o = upd (I o) k v := by funext j; simp [wI, upd]
theorem wJ_upd {J : gJ} {o k : Nat} {v : Int64} : wJ J o k v o = vp_updL (J o) k v := by funext j; simp [wJ, vp_updL]
theorem gce_obj {G : gG} {L : gL} {ad : Nat → Nat} {I : gI} {J : gJ} {o ci : Nat} (h : gAt L o 0 ci) : gce G L ad I J o = .inr (ci, gfl L ad I J o ci) := by simp [gce, h.2]
theorem gce_int {G : gG} {L : gL} {ad : Nat → Nat} {I : gI} {J : gJ} {o n : Nat} (h : gAt L o 1 n) : gce G L ad I J o = .inl (G.2.2.1 0, n, .inl (I o)) := by simp [gce, h.2]
theorem gce_long {G : gG} {L : gL} {ad : Nat → Nat} {I : gI} {J : gJ} {o n : Nat} (h : gAt L o 2 n) : gce G L ad I J o = .inl (G.2.2.1 1, n, .inr (.inl (J o))) := by simp [gce, h.2]
theorem gce_bool {G : gG} {L : gL} {ad : Nat → Nat} {I : gI} {J : gJ} {o n : Nat} (h : gAt L o 3 n) : gce G L ad I J o = .inl (G.2.2.1 2, n, .inl (I o)) := by simp [gce, h.2]
theorem gce_char {G : gG} {L : gL} {ad : Nat → Nat} {I : gI} {J : gJ} {o n : Nat} (h : gAt L o 4 n) : gce G L ad I J o = .inl (G.2.2.1 3, n, .inl (I o)) := by simp [gce, h.2]
theorem gce_r5 {G : gG} {L : gL} {ad : Nat → Nat} {I : gI} {J : gJ} {o n : Nat} (h : gAt L o 5 n) : gce G L ad I J o = .inl (G.2.2.1 4, n, .inr (.inr (.inr (.inr (fun j => if j < n then (L.2.2 o j).map ad else none))))) := by simp [gce, h.2]
theorem gce_r6 {G : gG} {L : gL} {ad : Nat → Nat} {I : gI} {J : gJ} {o n : Nat} (h : gAt L o 6 n) : gce G L ad I J o = .inl (G.2.2.1 5, n, .inr (.inr (.inr (.inr (fun j => if j < n then (L.2.2 o j).map ad else none))))) := by simp [gce, h.2]
section GR
variable {p : Program} {l : Launch} {e : Env} {R : Room} {s : State} {m : MethodId} {args : Array Value} {below : List Frame} {meth : Method} {c : Code} {H : Heap} {locs : List Loc} {cells slots : Nat} {Q : State → Prop}
variable {cc : ByteArray} {pc nL : Nat} {ls : Array Slot} {rest : List Value} {G : gG} {L : gL} {ad : Nat → Nat} {A : Nat → Prop} {H0 : Heap} {I : gI} {J : gJ} {own : String}
theorem g_get (K : gCx G A p s m args c cc nL own) (hW : gWd G L ad A H0 I J H locs) {o ci k t N index : Nat} {C ref : String} {T : u_T} (ho : gAt L o 0 ci) (ht : (gft ci)[k]? = some t) (hc : kC[ci]? = some (C, T, N)) (hin : ∀ w ∈ u_ws C T N, w ∈ TB) (hk : k < N) (hlink : Cond.fieldLink own index ref (T k).2.1 (T k).2.2.1 ∈ TB) (href : (T k).1 = ref) {v : Value} (hv : gfv L ad I J o k t = v) (hdg : decode cc pc = .ok (.getfield index, 3))
    (kk : W p l e R s m args below meth c H locs cells slots Q (F0 m (pc + 3) ls (v :: rest))) : W p l e R s m args below meth c H locs cells slots Q (F0 m pc ls (.ref (ad o) :: rest)) := by
  obtain ⟨hx, hb, hml, hown, hts, hK, -⟩ := K
  exact va_get hx hb hts hin hown hK hW.1 o (by rw [gws_at ho.1, gce_obj ho]) hc k hk (hts _ hlink) (fun x h => by rw [← href]; exact h) (by rw [gfl_get ht, hv]) hdg kk
theorem g_put (K : gCx G A p s m args c cc nL own) (hW : gWd G L ad A H0 I J H locs) {o ci k t N index : Nat} {C ref : String} {T : u_T} {tyT : Nat → FieldType} (ho : gAt L o 0 ci) (ht : (gft ci)[k]? = some t) (hc : kC[ci]? = some (C, T, N)) (hin : ∀ w ∈ u_ws C T N, w ∈ TB) (hty : ∀ k, k < N → parseFieldDescriptor (T k).2.2.1 = some (tyT k)) (hnm : ∀ a, a < N → ∀ b, b < N → a ≠ b → (T a).2.1 ≠ (T b).2.1) (hk : k < N) (hlink : Cond.fieldLink own index ref (T k).2.1 (T k).2.2.1 ∈ TB) (href : (T k).1 = ref) (hfin : (T k).2.2.2 = false) {v : Value} {I' : gI} {J' : gJ} (hv : gfv L ad I' J' o k t = v) (hn : narrow (tyT k) v = v) (hfit : fits (tyT k) v = true) (hdg : decode cc pc = .ok (.putfield index, 3))
    (hx1 : ∀ o', o' ≠ o → I' o' = I o' ∧ J' o' = J o') (hx2 : ∀ j, j ≠ k → I' o j = I o j ∧ J' o j = J o j)
    (kk : ∀ (H1 : Heap) (locs1 : List Loc), gWd G L ad A H0 I' J' H1 locs1 → W p l e R s m args below meth c H1 locs1 cells slots Q (F0 m (pc + 3) ls rest)) : W p l e R s m args below meth c H locs cells slots Q (F0 m pc ls (v :: .ref (ad o) :: rest)) := by
  obtain ⟨hx, hb, hml, hown, hts, hK, -⟩ := K
  refine va_put hx hb hts hin tyT hty hnm hown hK hW.1 hW.2.1 hW.2.2 o (by rw [gws_at ho.1, gce_obj ho]) hc k hk (hts _ hlink) (fun x h => by rw [← href]; exact h) hfin (hty k hk) hn hfit (by rw [gfl_len]; exact (List.getElem?_eq_some_iff.mp ht).1) hdg (fun H1 locs1 hP hD hS => ?_)
  have e : (gws G L ad I J).set o (ad o, .inr (ci, (gfl L ad I J o ci).set k v)) = gws G L ad I' J' := by
    rw [gfl_set ht hv hx2, ← gce_obj (G := G) ho, gws_set ho.1 hx1]
  rw [e] at hP hD
  exact kk H1 locs1 ⟨hP, hD, hS⟩
theorem g_putI (K : gCx G A p s m args c cc nL own) (hW : gWd G L ad A H0 I J H locs) {o ci k N index : Nat} {C ref : String} {T : u_T} {tyT : Nat → FieldType} (ho : gAt L o 0 ci) (ht : (gft ci)[k]? = some 0) (hc : kC[ci]? = some (C, T, N)) (hin : ∀ w ∈ u_ws C T N, w ∈ TB) (hty : ∀ k, k < N → parseFieldDescriptor (T k).2.2.1 = some (tyT k)) (hnm : ∀ a, a < N → ∀ b, b < N → a ≠ b → (T a).2.1 ≠ (T b).2.1) (hk : k < N) (hlink : Cond.fieldLink own index ref (T k).2.1 (T k).2.2.1 ∈ TB) (href : (T k).1 = ref) (hfin : (T k).2.2.2 = false) {x : Int32} (hn : narrow (tyT k) (.int x) = .int x) (hfit : fits (tyT k) (.int x) = true) (hdg : decode cc pc = .ok (.putfield index, 3))
    (kk : ∀ (H1 : Heap) (locs1 : List Loc), gWd G L ad A H0 (wI I o k x) J H1 locs1 → W p l e R s m args below meth c H1 locs1 cells slots Q (F0 m (pc + 3) ls rest)) : W p l e R s m args below meth c H locs cells slots Q (F0 m pc ls (.int x :: .ref (ad o) :: rest)) :=
  g_put K hW ho ht hc hin hty hnm hk hlink href hfin (I' := wI I o k x) (J' := J) (by simp [gfv, wI_self]) hn hfit hdg (fun o' h => ⟨wI_o h, rfl⟩) (fun j h => ⟨wI_k h, rfl⟩) kk
theorem g_putR (K : gCx G A p s m args c cc nL own) (hW : gWd G L ad A H0 I J H locs) {o ci k N index t : Nat} {C ref : String} {T : u_T} {tyT : Nat → FieldType} (hlt : t < 2 ^ 31) {z : Nat} (hz : L.2.2 o k = some z) (ho : gAt L o 0 ci) (ht : (gft ci)[k]? = some 3) (hc : kC[ci]? = some (C, T, N)) (hin : ∀ w ∈ u_ws C T N, w ∈ TB) (hty : ∀ k, k < N → parseFieldDescriptor (T k).2.2.1 = some (tyT k)) (hnm : ∀ a, a < N → ∀ b, b < N → a ≠ b → (T a).2.1 ≠ (T b).2.1) (hk : k < N) (hlink : Cond.fieldLink own index ref (T k).2.1 (T k).2.2.1 ∈ TB) (href : (T k).1 = ref) (hfin : (T k).2.2.2 = false) (hn : narrow (tyT k) (.ref (ad t)) = .ref (ad t)) (hfit : fits (tyT k) (.ref (ad t)) = true) (hdg : decode cc pc = .ok (.putfield index, 3))
    (kk : ∀ (H1 : Heap) (locs1 : List Loc), gWd G L ad A H0 (wI I o k (nI t)) J H1 locs1 → W p l e R s m args below meth c H1 locs1 cells slots Q (F0 m (pc + 3) ls rest)) : W p l e R s m args below meth c H locs cells slots Q (F0 m pc ls (.ref (ad t) :: .ref (ad o) :: rest)) :=
  g_put K hW ho ht hc hin hty hnm hk hlink href hfin (I' := wI I o k (nI t)) (J' := J) (by simp [gfv, wI_self, nI_clamp hlt, hz, va_rf]) hn hfit hdg (fun o' h => ⟨wI_o h, rfl⟩) (fun j h => ⟨wI_k h, rfl⟩) kk
theorem g_putJ (K : gCx G A p s m args c cc nL own) (hW : gWd G L ad A H0 I J H locs) {o ci k N index : Nat} {C ref : String} {T : u_T} {tyT : Nat → FieldType} (ho : gAt L o 0 ci) (ht : (gft ci)[k]? = some 1) (hc : kC[ci]? = some (C, T, N)) (hin : ∀ w ∈ u_ws C T N, w ∈ TB) (hty : ∀ k, k < N → parseFieldDescriptor (T k).2.2.1 = some (tyT k)) (hnm : ∀ a, a < N → ∀ b, b < N → a ≠ b → (T a).2.1 ≠ (T b).2.1) (hk : k < N) (hlink : Cond.fieldLink own index ref (T k).2.1 (T k).2.2.1 ∈ TB) (href : (T k).1 = ref) (hfin : (T k).2.2.2 = false) {x : Int64} (hn : narrow (tyT k) (.long x) = .long x) (hfit : fits (tyT k) (.long x) = true) (hdg : decode cc pc = .ok (.putfield index, 3))
    (kk : ∀ (H1 : Heap) (locs1 : List Loc), gWd G L ad A H0 I (wJ J o k x) H1 locs1 → W p l e R s m args below meth c H1 locs1 cells slots Q (F0 m (pc + 3) ls rest)) : W p l e R s m args below meth c H locs cells slots Q (F0 m pc ls (.long x :: .ref (ad o) :: rest)) :=
  g_put K hW ho ht hc hin hty hnm hk hlink href hfin (I' := I) (J' := wJ J o k x) (by simp [gfv, wJ_self]) hn hfit hdg (fun o' h => ⟨rfl, wJ_o h⟩) (fun j h => ⟨rfl, wJ_k h⟩) kk
theorem g_iald (K : gCx G A p s m args c cc nL own) (hW : gWd G L ad A H0 I J H locs) {o n j : Nat} (ho : gAt L o 1 n) {i : Int32} (hin : vp_in i n) (hj : i.toNatClampNeg = j) (hdg : decode cc pc = .ok (.iaload, 1))
    (kk : W p l e R s m args below meth c H locs cells slots Q (F0 m (pc + 1) ls (.int (I o j) :: rest))) : W p l e R s m args below meth c H locs cells slots Q (F0 m pc ls (.int i :: .ref (ad o) :: rest)) := by
  subst hj
  exact va_iald K.1 K.2.1 K.2.2.2.2.2.1 hW.1 o 0 (by rw [gws_at ho.1, gce_int ho]) rfl hin hdg kk
theorem g_zald (K : gCx G A p s m args c cc nL own) (hW : gWd G L ad A H0 I J H locs) {o n j : Nat} (ho : gAt L o 3 n) {i : Int32} (hin : vp_in i n) (hj : i.toNatClampNeg = j) (hdg : decode cc pc = .ok (.baload, 1))
    (kk : W p l e R s m args below meth c H locs cells slots Q (F0 m (pc + 1) ls (.int (I o j) :: rest))) : W p l e R s m args below meth c H locs cells slots Q (F0 m pc ls (.int i :: .ref (ad o) :: rest)) := by
  subst hj
  exact va_zald K.1 K.2.1 K.2.2.2.2.2.1 hW.1 o 2 (by rw [gws_at ho.1, gce_bool ho]) rfl hin hdg kk
theorem g_cald (K : gCx G A p s m args c cc nL own) (hW : gWd G L ad A H0 I J H locs) {o n j : Nat} (ho : gAt L o 4 n) {i : Int32} (hin : vp_in i n) (hj : i.toNatClampNeg = j) (hdg : decode cc pc = .ok (.caload, 1))
    (kk : W p l e R s m args below meth c H locs cells slots Q (F0 m (pc + 1) ls (.int (I o j) :: rest))) : W p l e R s m args below meth c H locs cells slots Q (F0 m pc ls (.int i :: .ref (ad o) :: rest)) := by
  subst hj
  exact va_cald K.1 K.2.1 K.2.2.2.2.2.1 hW.1 o 3 (by rw [gws_at ho.1, gce_char ho]) rfl hin hdg kk
theorem g_lald (K : gCx G A p s m args c cc nL own) (hW : gWd G L ad A H0 I J H locs) {o n j : Nat} (ho : gAt L o 2 n) {i : Int32} (hin : vp_in i n) (hj : i.toNatClampNeg = j) (hdg : decode cc pc = .ok (.laload, 1))
    (kk : W p l e R s m args below meth c H locs cells slots Q (F0 m (pc + 1) ls (.long (J o j) :: rest))) : W p l e R s m args below meth c H locs cells slots Q (F0 m pc ls (.int i :: .ref (ad o) :: rest)) := by
  subst hj
  exact va_lald K.1 K.2.1 K.2.2.2.2.2.1 hW.1 o 1 (by rw [gws_at ho.1, gce_long ho]) rfl hin hdg kk
theorem g_aald5 (K : gCx G A p s m args c cc nL own) (hW : gWd G L ad A H0 I J H locs) {o n o' : Nat} (ho : gAt L o 5 n) {i : Int32} (hin : vp_in i n) (hr : L.2.2 o i.toNatClampNeg = some o') (hdg : decode cc pc = .ok (.aaload, 1))
    (kk : W p l e R s m args below meth c H locs cells slots Q (F0 m (pc + 1) ls (.ref (ad o') :: rest))) : W p l e R s m args below meth c H locs cells slots Q (F0 m pc ls (.int i :: .ref (ad o) :: rest)) := by
  have hlt : i.toNatClampNeg < n := Nat.not_le.mp fun q => hin (Or.inr q)
  refine va_aldq K.1 K.2.1 K.2.2.2.2.2.1 hW.1 o 4 (f := fun j => if j < n then (L.2.2 o j).map ad else none) (by rw [gws_at ho.1, gce_r5 ho]) rfl hin hdg ?_
  try dsimp only
  rw [if_pos hlt, hr]
  exact kk
theorem g_aald6 (K : gCx G A p s m args c cc nL own) (hW : gWd G L ad A H0 I J H locs) {o n o' : Nat} (ho : gAt L o 6 n) {i : Int32} (hin : vp_in i n) (hr : L.2.2 o i.toNatClampNeg = some o') (hdg : decode cc pc = .ok (.aaload, 1))
    (kk : W p l e R s m args below meth c H locs cells slots Q (F0 m (pc + 1) ls (.ref (ad o') :: rest))) : W p l e R s m args below meth c H locs cells slots Q (F0 m pc ls (.int i :: .ref (ad o) :: rest)) := by
  have hlt : i.toNatClampNeg < n := Nat.not_le.mp fun q => hin (Or.inr q)
  refine va_aldq K.1 K.2.1 K.2.2.2.2.2.1 hW.1 o 5 (f := fun j => if j < n then (L.2.2 o j).map ad else none) (by rw [gws_at ho.1, gce_r6 ho]) rfl hin hdg ?_
  try dsimp only
  rw [if_pos hlt, hr]
  exact kk
theorem gWd_I {I' : gI} {H1 : Heap} {locs1 : List Loc} {o n t : Nat} {E : va_E} (ho : gAt L o t n) (hx : ∀ o', o' ≠ o → I' o' = I o') (hE : gce G L ad I' J o = E) (h : va_P (G.1, G.2.1) kC ((gws G L ad I J).set o (ad o, E)) H1 ∧ va_D A ((gws G L ad I J).set o (ad o, E)) ∧ va_S A H0 H1 locs1) : gWd G L ad A H0 I' J H1 locs1 := by
  subst hE
  rw [gws_set ho.1 (fun o' q => ⟨hx o' q, rfl⟩)] at h
  exact h
theorem g_iast (K : gCx G A p s m args c cc nL own) (hW : gWd G L ad A H0 I J H locs) {o n j : Nat} (ho : gAt L o 1 n) {i x : Int32} (hin : vp_in i n) (hj : i.toNatClampNeg = j) (hdg : decode cc pc = .ok (.iastore, 1))
    (kk : ∀ (H1 : Heap) (locs1 : List Loc), gWd G L ad A H0 (wI I o j x) J H1 locs1 → W p l e R s m args below meth c H1 locs1 cells slots Q (F0 m (pc + 1) ls rest)) : W p l e R s m args below meth c H locs cells slots Q (F0 m pc ls (.int x :: .int i :: .ref (ad o) :: rest)) := by
  subst hj
  exact va_iast K.1 K.2.1 K.2.2.2.2.2.1 hW.1 hW.2.1 hW.2.2 o 0 (by rw [gws_at ho.1, gce_int ho]) rfl hin hdg (fun H1 locs1 hP hD hS => kk H1 locs1 (gWd_I ho (fun o' q => wI_o q) (by rw [gce_int ho, wI_upd]) ⟨hP, hD, hS⟩))
theorem g_zast (K : gCx G A p s m args c cc nL own) (hW : gWd G L ad A H0 I J H locs) {o n j : Nat} (ho : gAt L o 3 n) {i x : Int32} (hin : vp_in i n) (hj : i.toNatClampNeg = j) (hdg : decode cc pc = .ok (.bastore, 1))
    (kk : ∀ (H1 : Heap) (locs1 : List Loc), gWd G L ad A H0 (wI I o j (vp_nar .boolean x)) J H1 locs1 → W p l e R s m args below meth c H1 locs1 cells slots Q (F0 m (pc + 1) ls rest)) : W p l e R s m args below meth c H locs cells slots Q (F0 m pc ls (.int x :: .int i :: .ref (ad o) :: rest)) := by
  subst hj
  exact va_zast K.1 K.2.1 K.2.2.2.2.2.1 hW.1 hW.2.1 hW.2.2 o 2 (by rw [gws_at ho.1, gce_bool ho]) rfl hin hdg (fun H1 locs1 hP hD hS => kk H1 locs1 (gWd_I ho (fun o' q => wI_o q) (by rw [gce_bool ho, wI_upd]) ⟨hP, hD, hS⟩))
theorem g_cast (K : gCx G A p s m args c cc nL own) (hW : gWd G L ad A H0 I J H locs) {o n j : Nat} (ho : gAt L o 4 n) {i x : Int32} (hin : vp_in i n) (hj : i.toNatClampNeg = j) (hdg : decode cc pc = .ok (.castore, 1))
    (kk : ∀ (H1 : Heap) (locs1 : List Loc), gWd G L ad A H0 (wI I o j (vp_nar .char x)) J H1 locs1 → W p l e R s m args below meth c H1 locs1 cells slots Q (F0 m (pc + 1) ls rest)) : W p l e R s m args below meth c H locs cells slots Q (F0 m pc ls (.int x :: .int i :: .ref (ad o) :: rest)) := by
  subst hj
  exact va_cast K.1 K.2.1 K.2.2.2.2.2.1 hW.1 hW.2.1 hW.2.2 o 3 (by rw [gws_at ho.1, gce_char ho]) rfl hin hdg (fun H1 locs1 hP hD hS => kk H1 locs1 (gWd_I ho (fun o' q => wI_o q) (by rw [gce_char ho, wI_upd]) ⟨hP, hD, hS⟩))
theorem g_last (K : gCx G A p s m args c cc nL own) (hW : gWd G L ad A H0 I J H locs) {o n j : Nat} (ho : gAt L o 2 n) {i : Int32} {x : Int64} (hin : vp_in i n) (hj : i.toNatClampNeg = j) (hdg : decode cc pc = .ok (.lastore, 1))
    (kk : ∀ (H1 : Heap) (locs1 : List Loc), gWd G L ad A H0 I (wJ J o j x) H1 locs1 → W p l e R s m args below meth c H1 locs1 cells slots Q (F0 m (pc + 1) ls rest)) : W p l e R s m args below meth c H locs cells slots Q (F0 m pc ls (.long x :: .int i :: .ref (ad o) :: rest)) := by
  subst hj
  refine va_last K.1 K.2.1 K.2.2.2.2.2.1 hW.1 hW.2.1 hW.2.2 o 1 (by rw [gws_at ho.1, gce_long ho]) rfl hin hdg (fun H1 locs1 hP hD hS => kk H1 locs1 ?_)
  have e : (Sum.inl (G.2.2.1 1, n, .inr (.inl (vp_updL (J o) i.toNatClampNeg x))) : va_E) = gce G L ad I (wJ J o i.toNatClampNeg x) o := by rw [gce_long ho, wJ_upd]
  rw [e, gws_set ho.1 (fun o' q => ⟨rfl, wJ_o q⟩)] at hP hD
  exact ⟨hP, hD, hS⟩
theorem g_alen (K : gCx G A p s m args c cc nL own) (hW : gWd G L ad A H0 I J H locs) {o n : Nat} {v : Int32} (ho : gAt L o 4 n) (hv : Int32.ofNat n = v) (hdg : decode cc pc = .ok (.arraylength, 1))
    (kk : W p l e R s m args below meth c H locs cells slots Q (F0 m (pc + 1) ls (.int v :: rest))) : W p l e R s m args below meth c H locs cells slots Q (F0 m pc ls (.ref (ad o) :: rest)) :=
  va_alen K.1 K.2.1 K.2.2.2.2.2.1 hW.1 o 3 (x := (n, .inl (I o))) (by rw [gws_at ho.1, gce_char ho]) rfl hv hdg kk
/-- System.arraycopy of int rows -/
theorem g_copy (K : gCx G A p s m args c cc nL own) (hW : gWd G L ad A H0 I J H locs) {index : Nat} (h1 : Cond.methodLink own index arraycopyName ∈ TB) (h2 : Cond.native arraycopyName ∈ TB) (h3 : Cond.static arraycopyName ∈ TB) (h4 : Cond.initialized "java/lang/System" ∈ TB) {o0 n0 o n sp' dp' k' : Nat} (ho0 : gAt L o0 1 n0) (ho : gAt L o 1 n) {sp dp k : Int32} (e1 : sp = nI sp') (e2 : dp = nI dp') (e3 : k = nI k') (b1 : sp' + k' ≤ n0) (b2 : dp' + k' ≤ n) (b3 : n0 < 2 ^ 31) (b4 : n < 2 ^ 31) {lv : List (Nat × Value)} (hls : lv_has ls nL lv)
    (hR : 1 ≤ R.frames) (hR2 : (rest.map fun v => v.category).sum + (nativeFrameWords "java/lang/System" "arraycopy" 5 + 11) ≤ R.locals) (hdg : decode cc pc = .ok (.invokestatic index, 3))
    (kk : ∀ (H1 : Heap) (locs1 : List Loc), gWd G L ad A H0 (cpI I o0 sp' o dp' k') J H1 locs1 → W p l e R s m args below meth c H1 locs1 cells slots Q (F0 m (pc + 3) ls rest)) : W p l e R s m args below meth c H locs cells slots Q (F0 m pc ls (.int k :: .int dp :: .ref (ad o) :: .int sp :: .ref (ad o0) :: rest)) := by
  obtain ⟨hx, hb, hml, hown, hts, hK, -⟩ := K
  have c1 := nI_clamp (n := sp') (by omega)
  have c2 := nI_clamp (n := dp') (by omega)
  have c3 := nI_clamp (n := k') (by omega)
  subst e1; subst e2; subst e3
  refine va_copyi hx hb (by rw [hml]; exact hls.1.symm) hown (hts _ h1) (hts _ h2) (hts _ h3) (hts _ h4) hK hW.1 hW.2.1 hW.2.2 o0 o 0 0 (by rw [gws_at ho0.1, gce_int ho0]) (by rw [gws_at ho.1, gce_int ho]) rfl rfl rfl (fun h => absurd h (by have := nI_pos' (n := sp') (by omega); exact Int32.not_lt.mpr this)) (fun h => absurd h (by have := nI_pos' (n := dp') (by omega); exact Int32.not_lt.mpr this)) (fun h => absurd h (by have := nI_pos' (n := k') (by omega); exact Int32.not_lt.mpr this)) (by rw [c1, c3]; exact b1) (by rw [c2, c3]; exact b2) (fun i _ => rfl) hR hR2 hdg (fun H1 locs1 hP hD hS => kk H1 locs1 (gWd_I ho (fun o' q => by funext j; simp [cpI, q]) ?_ ⟨hP, hD, hS⟩))
  rw [gce_int ho, c1, c2, c3]
  congr 4
  funext j
  simp [cpI]
end GR
