theorem nm_X6_init : gNm yX6_init 0 := by decide +kernel
theorem nm_X7_init : gNm yX7_init 0 := by decide +kernel
-- 24: the law from its entry
def IC0 : gI := cDi (fun _ _ => 0)
def IM0 : gI := cMi (fun _ _ => 0)
section LS
variable {p : Program} {l : Launch} {e : Env} {R : Room} {s : State} {m : MethodId} {args : Array Value} {below : List Frame} {meth : Method} {c : Code} {H : Heap} {locs : List Loc} {cells slots : Nat} {Q : State → Prop}
variable {cc : ByteArray} {pc nL : Nat} {ls : Array Slot} {rest : List Value} {G : gG} {L L' : gL} {S S0 n : Nat} {kd : Nat → Nat × Nat} {rs : Nat → Nat → Option Nat} {I I' : gI} {J J' : gJ} {own : String}
theorem c_next0 {H1 : Heap} {q : Nat} {E : va_E} (hs : s.heap.size + cells = S + n) (hP : va_P (G.1, G.2.1) kC (gws G (n, kd, rs) (gad S) I J ++ [(q, E)]) H1) (hD : va_D (gB S) (gws G (n, kd, rs) (gad S) I J ++ [(q, E)])) (hub : H1.size ≤ s.heap.size + (cells + 1)) : q = gad S n := by
  have hlen : (gws G (n, kd, rs) (gad S) I J).length = n := by simp [gws]
  have hq : (gws G (n, kd, rs) (gad S) I J ++ [(q, E)])[n]? = some (q, E) := by rw [List.getElem?_append_right (by omega), hlen, Nat.sub_self]; rfl
  have h1 : q < H1.size := (hP n _ hq).lt
  have h2 : S ≤ q := hD.2 n _ hq
  have h3 : ∀ i, i < n → q ≠ S + i := by
    intro i hi he
    have hi' : (gws G (n, kd, rs) (gad S) I J ++ [(q, E)])[i]? = some (gad S i, gce G (n, kd, rs) (gad S) I J i) := by rw [List.getElem?_append_left (by omega)]; exact gws_at hi
    have := hD.1 i n _ _ hi' hq (by show gad S i = q; unfold gad; omega)
    omega
  unfold gad
  by_cases h4 : q < S + n
  · exact absurd (by omega) (h3 (q - S) (by omega))
  · omega
theorem c_newL (C0 : gCx G (gB S) p s m args c cc nL own) (hS0 : s.heap.size = S) (hs : s.heap.size + cells = S + n) (hW : gWd G (n, kd, rs) (gad S) (gB S) s.heap I J H locs) {C : String} {T : u_T} {N ci index : Nat} {tyT : Nat → FieldType} {fs : List Value} (hC : kC[ci]? = some (C, T, N)) (hin : ∀ w ∈ u_ws C T N, w ∈ TB) (hty : ∀ k, k < N → parseFieldDescriptor (T k).2.2.1 = some (tyT k)) (hfs : ∀ j, j < N → defaultValue (tyT j) = vp_V fs j) (h1 : Cond.classLink own index C ∈ TB) (h2 : Cond.instantiable C N ∈ TB) (h3 : Cond.initialized C ∈ TB) (hcells : cells + 1 ≤ R.cells) (hslots : slots + N ≤ R.slots) (hdg : decode cc pc = .ok (.new index, 3))
    (kk : ∀ (H1 : Heap), H1.size = S + n + 1 → va_P (G.1, G.2.1) kC (gws G (n, kd, rs) (gad S) I J) H1 → va_at (G.1, G.2.1) kC (gad S n, .inr (ci, fs)) H1 → va_S (gB S) s.heap H1 locs → W p l e R s m args below meth c H1 locs (cells + 1) (slots + N) Q (F0 m (pc + 3) ls (.ref (gad S n) :: rest))) : W p l e R s m args below meth c H locs cells slots Q (F0 m pc ls rest) := by
  obtain ⟨hx, hb, hml, hown, hts, hK, hN, hZ⟩ := C0
  refine va_new (fs := fs) hx hb hts hin tyT hty hown (hts _ h1) (hts _ h2) (hts _ h3) hK hW.1 hW.2.1 hW.2.2 (fun q hq => by show S ≤ q; omega) hC hfs hcells hslots hdg (fun q H1 hP hD hS => ?_)
  refine W_size (fun hub => ?_)
  have hq := c_next0 hs hP hD hub
  subst hq
  have hlen : (gws G (n, kd, rs) (gad S) I J).length = n := by simp [gws]
  have hq : (gws G (n, kd, rs) (gad S) I J ++ [(gad S n, (Sum.inr (ci, fs) : va_E))])[n]? = some (gad S n, .inr (ci, fs)) := by rw [List.getElem?_append_right (by omega), hlen, Nat.sub_self]; rfl
  have h5 := hP n _ hq
  have h6 := h5.lt
  refine kk H1 (by unfold gad at h6; dsimp only at h6; omega) (fun k q hk => hP k q (by rw [List.getElem?_append_left (by rw [hlen]; have := (gws_in hk).1; exact this)]; exact hk)) h5 hS
theorem c_callL {y : MethodName} {bytes : ByteArray} {maxL d mc ms idx z : Nat} {lv : List (Nat × Value)} (C : gCx G (gB S0) p s m args c cc nL own) (hSS : S0 ≤ S) (hO : gAO s) (hsz : H.size = S + L.1) (hP : va_P (G.1, G.2.1) kC (gws G L (gad S) I J) H) (hS : va_S (gB S0) s.heap H locs) (hls : lv_has ls nL lv) (hM : gMk l y bytes maxL d mc ms G S L L' [.ref (gad S z)] I J I' J') (hy : y.name = "<init>") (h1 : Cond.methodLink own idx y ∈ TB) (h2 : Cond.instanceMethod y ∈ TB) (h4 : Cond.initialized y.cls ∈ TB) (h5 : Cond.code y bytes maxL none ∈ TB) (hd : gNm y 0) (hR : gRo d maxL R) (hsum : (rest.map fun v => v.category).sum ≤ 8) (hf : cells + mc ≤ R.cells ∧ slots + ms ≤ R.slots) (hdg : decode cc pc = .ok (.invokespecial idx, 3))
    (kk : ∀ (H1 : Heap) (locs1 : List Loc), va_P (G.1, G.2.1) kC (gws G L' (gad S) I' J') H1 → (∀ q : Nat, q < H.size → ¬ gB S q → H1[q]? = H[q]?) → va_S (gB S0) s.heap H1 locs1 → W p l e R s m args below meth c H1 locs1 (cells + mc) (slots + ms) Q (F0 m (pc + 3) ls rest)) : W p l e R s m args below meth c H locs cells slots Q (F0 m pc ls (.ref (gad S z) :: rest)) := by
  obtain ⟨hx, hb, hml, hown, hts, hK, hN, hZ⟩ := id C
  have hsub : ∀ q, gB S q → gB S0 q := fun q h => Nat.le_trans hSS h
  have hp : PreS s H (va_Pc [.ref (gad S z)] (gWp G L S I J)) [.ref (gad S z)] :=
    ⟨gWp_blind, fun U hU hWm => ⟨rfl, by rw [hU]; exact hsz, by rw [hU]; exact hP, va_K.moved hWm.alike hK, gNw_warm hWm hN, gZ_warm hWm (gZ_narrow (gZ_kept hZ (by rw [hU]; exact hS.2.1)) hsub), gAO_moved hWm.alike hO⟩⟩
  exact va_callv (va_runI (As := []) (rest := rest) (gCx_fix C) hM (cwI 0 hts (gG_c h5) rfl rfl rfl (hts _ h4) (hts _ h1) (hts _ h2) hy hd hR) hp rfl rfl hls.1 rfl (lv_room (pc := pc) (ls := ls) (m := m) hsum) hdg hf) hS (fun q _ h => hsub q h) (fun q h => hsub q h) (fun u t H1 locs1 ht _ _ hB _ hk hS1 => kk H1 locs1 (by rw [← ht]; exact hB) hk hS1)
end LS
def fs6 : List Value := [.null, .null, .null, .null, .null, .null, .null, .null, .null, .null, .int 0, .int 0, .int 0]
def fs7 : List Value := [.null, .null, .null, .null, .int 0, .int 0, .int 0, .int 0, .int 0, .int 0, .int 0, .long 0, .int 0, .int 0, .int 0, .null, .int 0, .int 0, .int 0, .int 0, .null, .null, .null, .int 0, .null, .null, .null, .null]
theorem gws_1 {G : gG} {kd : Nat → Nat × Nat} {ad : Nat → Nat} {I : gI} {J : gJ} {E : va_E} {H : Heap} (hE : gce G (1, kd, rs0) ad I J 0 = E) (h : va_at (G.1, G.2.1) kC (ad 0, E) H) : va_P (G.1, G.2.1) kC (gws G (1, kd, rs0) ad I J) H := by
  intro k q hq
  obtain ⟨h1, h2⟩ := gws_in hq
  have h3 : k = 0 := by have : k < 1 := h1; omega
  subst h3
  rw [h2, hE]
  exact h
set_option maxHeartbeats 4000000 in
set_option maxRecDepth 100000 in
theorem law_start {V : gV} (hOK : lawOK V) (h0 : V IC0 IM0 J00) {p : Program} {e : Env} {s : State} {m : MethodId} {below : List Frame} {meth : Method} {c : Code} (l : Launch) {b L : Nat} {xs : Nat → Int32} (hL : L ≤ 3072) (C0 : lw_At p s m meth c b L xs) : W p l e room_1 s m #[Value.ref b] below meth c s.heap [] 0 0 (lw_Z below #[Value.ref b] s) (entryFrame m ([Value.ref b] : List Value).toArray 4) := by
  obtain ⟨G, K, hO⟩ := law_facts hL C0
  obtain ⟨-, -, hr, -, -, -, -, -, hlocks, -⟩ := id C0
  have C := K.1
  have hx := C.1; have hb := C.2.1
  have hl := lv_entry ([.ref b]) (n := 4) (Nat.le_of_ble_eq_true rfl)
  rw [lg_entry_eq]
  generalize (lg_sl ([.ref b]) ++ List.replicate (4 - (lg_sl ([.ref b])).length) Slot.unset).toArray = ls at hl ⊢
  have hl : lv_has ls 4 [(0, .ref b)] := hl
  have hW0 : gWd G (0, kdC, rs0) (gad s.heap.size) (gB s.heap.size) s.heap (fun _ _ => 0) J00 s.heap [] := ⟨fun k q h => by simp [gws] at h, gws_DB, va_S.rf⟩
  refine c_newL (n := 0) (T := TX6) (N := 13) (ci := 5) (tyT := tyX6) (fs := fs6) C rfl rfl hW0 rfl i_X6 tyX6_ok (by decide) q_148 q_149 q_133 (Nat.le_of_ble_eq_true rfl) (Nat.le_of_ble_eq_true rfl) dL_law_0 (fun H hsz _ hat hS => ?_)
  have hP : va_P (G.1, G.2.1) kC (gws G (1, kdC, rs0) (gad s.heap.size) (fun _ _ => 0) J00) H := gws_1 rfl hat
  refine lv_dup hx hb dL_law_3 rfl ?_
  refine c_callL (rest := [.ref (gad s.heap.size 0)]) C (Nat.le_refl _) hO hsz hP hS hl (kX6_init (l := l) (G := G) (S := s.heap.size) (I := fun _ _ => 0) (J := J00) (fun _ _ => rfl) (fun _ _ => rfl)) rfl q_150 q_151 q_133 q_152 nm_X6_init ⟨Nat.le_of_ble_eq_true rfl, Nat.le_of_ble_eq_true rfl⟩ (Nat.le_of_ble_eq_true rfl) ⟨Nat.le_of_ble_eq_true rfl, Nat.le_of_ble_eq_true rfl⟩ dL_law_4 (fun H locs hP _ hS => ?_)
  refine lv_astore_n (lv' := [(1, .ref (gad s.heap.size 0)), (0, .ref b)]) hx hb dL_law_7 rfl hl (by decide) rfl (fun ls hl => ?_)
  refine c_newL (n := 328) (kd := kdC) (rs := rsC) (T := TX7) (N := 28) (ci := 6) (tyT := tyX7) (fs := fs7) C rfl rfl ⟨hP, gws_DB, hS⟩ rfl i_X7 tyX7_ok (by decide) q_1068 q_1069 q_139 (Nat.le_of_ble_eq_true rfl) (Nat.le_of_ble_eq_true rfl) dL_law_8 (fun H hsz hP hat hS => ?_)
  have hP7 : va_P (G.1, G.2.1) kC (gws G (1, kdM, rs0) (gad (s.heap.size + 328)) (fun _ _ => 0) J00) H := gws_1 rfl hat
  refine lv_dup hx hb dL_law_11 rfl ?_
  refine c_callL (S := s.heap.size + 328) (z := 0) (rest := [.ref (gad (s.heap.size + 328) 0)]) C (Nat.le_add_right _ _) hO hsz hP7 hS hl (kX7_init (l := l) (G := G) (S := s.heap.size + 328) (I := fun _ _ => 0) (J := J00) (fun _ _ => rfl) (fun _ _ => rfl)) rfl q_1070 q_1071 q_139 q_1072 nm_X7_init ⟨Nat.le_of_ble_eq_true rfl, Nat.le_of_ble_eq_true rfl⟩ (Nat.le_of_ble_eq_true rfl) ⟨Nat.le_of_ble_eq_true rfl, Nat.le_of_ble_eq_true rfl⟩ dL_law_12 (fun H1 locs hPM hk hS => ?_)
  have hPC : va_P (G.1, G.2.1) kC (gws G LC (gad s.heap.size) IC0 J00) H1 := hP.kept (fun k q hq => by
    obtain ⟨h1, h2⟩ := gws_in hq
    have h3 := (hP k q hq).lt
    refine hk q.1 h3 (fun h => ?_)
    rw [h2] at h
    have h4 : k < 328 := h1
    unfold gB gad at h
    dsimp only at h
    omega)
  have hT : gTw G s.heap.size s IC0 IM0 J00 H1 locs := ⟨⟨hPC, gws_DB, hS⟩, ⟨hPM, gws_DB.weaken (fun _ _ _ h => Nat.le_trans (Nat.le_add_right _ _) h), hS⟩⟩
  refine lv_astore_n (lv' := [(2, .ref (gad (s.heap.size + 328) 0)), (1, .ref (gad s.heap.size 0)), (0, .ref b)]) hx hb dL_law_15 rfl hl (by decide) rfl (fun ls hl => ?_)
  refine lv_iconst (v := (0 : Int32)) hx hb dL_law_16 (by decide) ?_
  refine lv_istore_n (lv' := [(3, .int (nI 0)), (2, .ref (gad (s.heap.size + 328) 0)), (1, .ref (gad s.heap.size 0)), (0, .ref b)]) hx hb dL_law_17 rfl hl (by decide) rfl (fun ls hl => ?_)
  refine law_loop K hOK ?_ (L + 1) 0 (by omega) (by omega) IC0 IM0 J00 H1 locs h0 hT ls (lv_sub hl [3, 2, 1, 0] rfl)
  intro H locs hS ls
  refine lv_iconst (v := (1 : Int32)) hx hb dL_law_1922 (by decide) ?_
  refine va_forget (fun q hq => hS.2.2 q hq) ?_
  refine W.widen (k := 600000) (n := 7302250) (Nat.le_of_ble_eq_true rfl) (Nat.le_of_ble_eq_true rfl) ?_
  exact lw_ret hx hb hr hlocks dL_law_1923
