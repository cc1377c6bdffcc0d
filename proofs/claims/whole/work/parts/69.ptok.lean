-- 69: PURE PART: reading a sum: both readers' states, their small steps (out of wip/whole/pure by pure.py)
section COR
variable {cc co rc ro cc' co' rc' ro' : Nat → Int32}
/-- a sum's codes, where they lie unchanged -/
theorem Cor_ag {k d i j p q : Nat} (h : Cor cc co rc ro k d i j p q) : i < j ∧ p < q ∧ ((∀ a, i ≤ a → a < j → cc' a = cc a ∧ co' a = co a) → (∀ a, p ≤ a → a < q → rc' a = rc a ∧ ro' a = ro a) → Cor cc' co' rc' ro' k d i j p q) := by
  refine h (fun k d i j p q => i < j ∧ p < q ∧ ((∀ a, i ≤ a → a < j → cc' a = cc a ∧ co' a = co a) → (∀ a, p ≤ a → a < q → rc' a = rc a ∧ ro' a = ro a) → Cor cc' co' rc' ro' k d i j p q)) ⟨?_, ?_, ?_, ?_, ?_, ?_, ?_, ?_⟩
  · intro i p n hn h1 h2 h3 h4
    refine ⟨by omega, by omega, fun a b P hP => ?_⟩
    obtain ⟨a1, a2⟩ := a i (by omega) (by omega)
    obtain ⟨b1, b2⟩ := b p (by omega) (by omega)
    exact hP.1 i p n hn (by rw [a1]; exact h1) (by rw [a2]; exact h2) (by rw [b1]; exact h3) (by rw [b2]; exact h4)
  · intro i p v hv h1 h3 h4
    refine ⟨by omega, by omega, fun a b P hP => ?_⟩
    obtain ⟨a1, a2⟩ := a i (by omega) (by omega)
    obtain ⟨b1, b2⟩ := b p (by omega) (by omega)
    exact hP.2.1 i p v hv (by rw [a1]; exact h1) (by rw [b1]; exact h3) (by rw [b2]; exact h4)
  · intro d i j p q x y hu h1 h2 ih
    obtain ⟨i1, i2, ih⟩ := ih
    refine ⟨by omega, by omega, fun a b P hP => ?_⟩
    exact hP.2.2.1 d i j p q x y hu (by rw [(a j (by omega) (by omega)).1]; exact h1) (by rw [(b q (by omega) (by omega)).1]; exact h2) (ih (fun z z1 z2 => a z z1 (by omega)) (fun z z1 z2 => b z z1 (by omega)) P hP)
  · intro d1 d2 i j k p q r x y hu h1 h2 ih1 ih2
    obtain ⟨i1, i2, ih1⟩ := ih1
    obtain ⟨i3, i4, ih2⟩ := ih2
    refine ⟨by omega, by omega, fun a b P hP => ?_⟩
    exact hP.2.2.2.1 d1 d2 i j k p q r x y hu (by rw [(a k (by omega) (by omega)).1]; exact h1) (by rw [(b r (by omega) (by omega)).1]; exact h2) (ih1 (fun z z1 z2 => a z z1 (by omega)) (fun z z1 z2 => b z z1 (by omega)) P hP) (ih2 (fun z z1 z2 => a z (by omega) (by omega)) (fun z z1 z2 => b z (by omega) (by omega)) P hP)
  · intro d1 d2 i j k p q r x y hu h1 h2 ih1 ih2
    obtain ⟨i1, i2, ih1⟩ := ih1
    obtain ⟨i3, i4, ih2⟩ := ih2
    refine ⟨by omega, by omega, fun a b P hP => ?_⟩
    exact hP.2.2.2.2.1 d1 d2 i j k p q r x y hu (by rw [(a k (by omega) (by omega)).1]; exact h1) (by rw [(b r (by omega) (by omega)).1]; exact h2) (ih1 (fun z z1 z2 => a z z1 (by omega)) (fun z z1 z2 => b z z1 (by omega)) P hP) (ih2 (fun z z1 z2 => a z (by omega) (by omega)) (fun z z1 z2 => b z (by omega) (by omega)) P hP)
  · intro d1 d2 i j k p q r x y hu h1 h2 ih1 ih2
    obtain ⟨i1, i2, ih1⟩ := ih1
    obtain ⟨i3, i4, ih2⟩ := ih2
    refine ⟨by omega, by omega, fun a b P hP => ?_⟩
    exact hP.2.2.2.2.2.1 d1 d2 i j k p q r x y hu (by rw [(a k (by omega) (by omega)).1]; exact h1) (by rw [(b r (by omega) (by omega)).1]; exact h2) (ih1 (fun z z1 z2 => a z z1 (by omega)) (fun z z1 z2 => b z z1 (by omega)) P hP) (ih2 (fun z z1 z2 => a z (by omega) (by omega)) (fun z z1 z2 => b z (by omega) (by omega)) P hP)
  · intro d i j p q h1 h2 ih
    obtain ⟨i1, i2, ih⟩ := ih
    refine ⟨by omega, by omega, fun a b P hP => ?_⟩
    exact hP.2.2.2.2.2.2.1 d i j p q (by rw [(a j (by omega) (by omega)).1]; exact h1) (by rw [(b q (by omega) (by omega)).1]; exact h2) (ih (fun z z1 z2 => a z z1 (by omega)) (fun z z1 z2 => b z z1 (by omega)) P hP)
  · intro d1 d2 d3 i j k l p q r s h1 h2 h3 h4 h5 ih1 ih2 ih3
    obtain ⟨i1, i2, ih1⟩ := ih1
    obtain ⟨i3, i4, ih2⟩ := ih2
    obtain ⟨i5, i6, ih3⟩ := ih3
    refine ⟨by omega, by omega, fun a b P hP => ?_⟩
    exact hP.2.2.2.2.2.2.2 d1 d2 d3 i j k l p q r s (by rw [(a j (by omega) (by omega)).1]; exact h1) (by rw [(a j (by omega) (by omega)).2]; exact h2) (by rw [(a k (by omega) (by omega)).1]; exact h3) (by rw [(a k (by omega) (by omega)).2]; exact h4) (by rw [(b s (by omega) (by omega)).1]; exact h5) (ih1 (fun z z1 z2 => a z z1 (by omega)) (fun z z1 z2 => b z z1 (by omega)) P hP) (ih2 (fun z z1 z2 => a z (by omega) (by omega)) (fun z z1 z2 => b z (by omega) (by omega)) P hP) (ih3 (fun z z1 z2 => a z (by omega) (by omega)) (fun z z1 z2 => b z (by omega) (by omega)) P hP)
theorem Cor_num {i p n : Nat} (hn : n < 10000) (h1 : cc i = nI 24) (h2 : co i = nI n) (h3 : rc p = nI 0) (h4 : ro p = nI n) : Cor cc co rc ro 0 1 i (i + 1) p (p + 1) := fun P hP => hP.1 i p n hn h1 h2 h3 h4
theorem Cor_name {i p v : Nat} (hv : v < 8) (h1 : cc i = nI (nmC v)) (h3 : rc p = nI 1) (h4 : ro p = nI v) : Cor cc co rc ro 0 1 i (i + 1) p (p + 1) := fun P hP => hP.2.1 i p v hv h1 h3 h4
theorem Cor_un {d i j p q x y : Nat} (hu : unP x y) (h1 : cc j = nI x) (h2 : rc q = nI y) (h : Cor cc co rc ro 0 d i j p q) : Cor cc co rc ro 0 d i (j + 1) p (q + 1) := fun P hP => hP.2.2.1 d i j p q x y hu h1 h2 (h P hP)
theorem Cor_bi {d1 d2 i j k p q r x y : Nat} (hu : biP x y) (h1 : cc k = nI x) (h2 : rc r = nI y) (h : Cor cc co rc ro 0 d1 i j p q) (g : Cor cc co rc ro 0 d2 j k q r) : Cor cc co rc ro 0 (max d1 (d2 + 1)) i (k + 1) p (r + 1) := fun P hP => hP.2.2.2.1 d1 d2 i j k p q r x y hu h1 h2 (h P hP) (g P hP)
theorem Cor_cm {d1 d2 i j k p q r x y : Nat} (hu : cmP x y) (h1 : cc k = nI x) (h2 : rc r = nI y) (h : Cor cc co rc ro 0 d1 i j p q) (g : Cor cc co rc ro 0 d2 j k q r) : Cor cc co rc ro 1 (max d1 (d2 + 1)) i (k + 1) p (r + 1) := fun P hP => hP.2.2.2.2.1 d1 d2 i j k p q r x y hu h1 h2 (h P hP) (g P hP)
theorem Cor_jo {d1 d2 i j k p q r x y : Nat} (hu : joP x y) (h1 : cc k = nI x) (h2 : rc r = nI y) (h : Cor cc co rc ro 1 d1 i j p q) (g : Cor cc co rc ro 1 d2 j k q r) : Cor cc co rc ro 1 (max d1 (d2 + 1)) i (k + 1) p (r + 1) := fun P hP => hP.2.2.2.2.2.1 d1 d2 i j k p q r x y hu h1 h2 (h P hP) (g P hP)
theorem Cor_not {d i j p q : Nat} (h1 : cc j = nI 18) (h2 : rc q = nI 20) (h : Cor cc co rc ro 1 d i j p q) : Cor cc co rc ro 1 d i (j + 1) p (q + 1) := fun P hP => hP.2.2.2.2.2.2.1 d i j p q h1 h2 (h P hP)
theorem Cor_if {d1 d2 d3 i j k l p q r s : Nat} (h1 : cc j = nI 13) (h2 : co j = nI (k + 1)) (h3 : cc k = nI 14) (h4 : co k = nI l) (h5 : rc s = nI 3) (a : Cor cc co rc ro 1 d1 i j p q) (b : Cor cc co rc ro 0 d2 (j + 1) k q r) (c : Cor cc co rc ro 0 d3 (k + 1) l r s) : Cor cc co rc ro 0 (max d1 (max d2 d3)) i l p (s + 1) := fun P hP => hP.2.2.2.2.2.2.2 d1 d2 d3 i j k l p q r s h1 h2 h3 h4 h5 (a P hP) (b P hP) (c P hP)
end COR
/-- the tokens: kinds, values, places, ends -/
def toksOK (tk tv tp : Nat → Nat) (K : Nat) : Prop := ∀ j, j ≤ K → tk j ≤ 40 ∧ tv j ≤ 10000 ∧ tp j ≤ 300
/-- the class's reader: text t, law, at token i, n codes so far -/
def PC (tk tv tp : Nat → Nat) (t law i n : Nat) (C : gI) : Prop := C 275 4 = nI i ∧ C 275 5 = nI law ∧ C 275 6 = nI (296 + 8 * t) ∧ C (296 + 8 * t) 8 = nI n ∧ (∀ j, j ≤ 300 → C 276 j = nI (tk j) ∧ C 277 j = nI (tv j) ∧ C 278 j = nI (tp j)) ∧ C 275 7 = nI 0 ∧ C 275 8 = -1
/-- what the class's reader leaves, codes below n among it -/
def KC (t n : Nat) (C C' : gI) : Prop := (∀ o, o ≠ 275 → o ≠ 296 + 8 * t → o ≠ 296 + 8 * t + 4 → o ≠ 296 + 8 * t + 5 → C' o = C o) ∧ (∀ j, j ≠ 4 → j ≠ 7 → j ≠ 8 → C' 275 j = C 275 j) ∧ (∀ j, j ≠ 8 → C' (296 + 8 * t) j = C (296 + 8 * t) j) ∧ ∀ j, j < n → C' (296 + 8 * t + 4) j = C (296 + 8 * t + 4) j ∧ C' (296 + 8 * t + 5) j = C (296 + 8 * t + 5) j
theorem KC_rf {t n : Nat} {C : gI} : KC t n C C := ⟨fun _ _ _ _ _ => rfl, fun _ _ _ _ => rfl, fun _ _ => rfl, fun _ _ => ⟨rfl, rfl⟩⟩
theorem KC_tr {t n m : Nat} {A B C : gI} (h : KC t n A B) (g : KC t m B C) (hm : n ≤ m) : KC t n A C :=
  ⟨fun o a b c d => (g.1 o a b c d).trans (h.1 o a b c d), fun j a b c => (g.2.1 j a b c).trans (h.2.1 j a b c), fun j a => (g.2.2.1 j a).trans (h.2.2.1 j a), fun j a => ⟨(g.2.2.2 j (by omega)).1.trans (h.2.2.2 j a).1, (g.2.2.2 j (by omega)).2.trans (h.2.2.2 j a).2⟩⟩
theorem gAT {t : Nat} (ht : t < 4) : gAt LC (296 + 8 * t) 0 3 := by
  have h := kTa (i := nI t) (vp_in_nI ht (by decide))
  rw [nI_clamp (by omega)] at h
  exact h
section CP
variable {tk tv tp : Nat → Nat} {t law i n : Nat} {C : gI}
theorem gAn {α : Type} {x : Option α} (ht : t < 4) : gd (gAt LC (nI (296 + 8 * t)).toNatClampNeg 0 3) x = x := by
  rw [nI_clamp (by omega)]
  exact gd_pos (gAT ht)
/-- one token on -/
theorem PC_on (h : PC tk tv tp t law i n C) (ht : t < 4) : PC tk tv tp t law (i + 1) n (wI C 275 4 (nI (i + 1))) ∧ KC t n C (wI C 275 4 (nI (i + 1))) := by
  obtain ⟨h1, h2, h3, h4, h5, h7, h8⟩ := h
  refine ⟨⟨wI_eq, by rw [wI_ne (by omega)]; exact h2, by rw [wI_ne (by omega)]; exact h3, by rw [wI_o (by omega)]; exact h4, fun j hj => ?_, by rw [wI_ne (by omega)]; exact h7, by rw [wI_ne (by omega)]; exact h8⟩, fun o a _ _ _ => wI_o a, fun j a _ _ => wI_ne (by omega), fun j _ => by rw [wI_o (by omega)], fun j _ => by rw [wI_o (by omega), wI_o (by omega)]; exact ⟨rfl, rfl⟩⟩
  rw [wI_o (by omega), wI_o (by omega), wI_o (by omega)]
  exact h5 j hj
/-- a code more -/
theorem emit6 (h : PC tk tv tp t law i n C) (ht : t < 4) (hn : n < 300) (c v : Nat) : ∃ C', fX3_emit (296 + 8 * t) (nI c) (nI v) C = some (nI n, C') ∧ PC tk tv tp t law i (n + 1) C' ∧ KC t n C C' ∧ C' (296 + 8 * t + 4) n = nI c ∧ C' (296 + 8 * t + 5) n = nI v := by
  obtain ⟨h1, h2, h3, h4, h5, h7, h8⟩ := h
  have e := dec1' n
  refine ⟨wI (wI (wI C (296 + 8 * t + 4) n (nI c)) (296 + 8 * t + 5) n (nI v)) (296 + 8 * t) 8 (nI (n + 1)), ?_, ⟨?_, ?_, ?_, wI_eq, fun j hj => ?_, ?_, ?_⟩, ⟨fun o a b c d => ?_, fun j a b c => ?_, fun j a => ?_, fun j a => ?_⟩, ?_, ?_⟩
  · unfold fX3_emit
    simp (disch := (first | assumption | trivial | omega)) only [lzE, h4, lit, leN, giF, gdN, clN, wI_o, addN, wI_eq, e]
  · rw [wI_o (by omega), wI_o (by omega), wI_o (by omega)]; exact h1
  · rw [wI_o (by omega), wI_o (by omega), wI_o (by omega)]; exact h2
  · rw [wI_o (by omega), wI_o (by omega), wI_o (by omega)]; exact h3
  · simp (disch := omega) only [wI_o]
    exact h5 j hj
  · simp (disch := omega) only [wI_o]
    exact h7
  · simp (disch := omega) only [wI_o]
    exact h8
  · rw [wI_o b, wI_o d, wI_o c]
  · rw [wI_o (by omega), wI_o (by omega), wI_o (by omega)]
  · rw [wI_ne (by omega), wI_o (by omega), wI_o (by omega)]
  · refine ⟨?_, ?_⟩
    · rw [wI_o (by omega), wI_o (by omega), wI_ne (by omega)]
    · rw [wI_o (by omega), wI_ne (by omega), wI_o (by omega)]
  · rw [wI_o (by omega), wI_o (by omega), wI_eq]
  · rw [wI_o (by omega), wI_eq]
/-- a fault told -/
theorem fails6 (h : PC tk tv tp t law i n C) (ht : t < 4) (hi : i ≤ 300) (f : Nat) : ∃ C', fX1_fails (nI f) C = some (nI 0, C') ∧ C' 275 7 = nI f ∧ C' 275 8 = nI (tp i) ∧ KC t n C C' := by
  obtain ⟨h1, h2, h3, h4, h5, h7, h8⟩ := h
  have e := (h5 i hi).2.2
  refine ⟨wI (wI C 275 7 (nI f)) 275 8 (nI (tp i)), ?_, ?_, wI_eq, fun o a b c d => ?_, fun j a b c => ?_, fun j a => ?_, fun j a => ?_⟩
  · unfold fX1_fails
    simp (disch := (first | assumption | trivial | omega)) only [lzE, h1, wI_ne, wI_o, gdN, clN, e, lit]
  · rw [wI_ne (by omega), wI_eq]
  · rw [wI_o a, wI_o a]
  · rw [wI_ne (by omega), wI_ne (by omega)]
  · rw [wI_o (by omega), wI_o (by omega)]
  · rw [wI_o (by omega), wI_o (by omega), wI_o (by omega), wI_o (by omega)]; exact ⟨rfl, rfl⟩
theorem takes6p (h : PC tk tv tp t law i n C) (ht : t < 4) (hi : i ≤ 300) {k : Nat} (hk : tk i = k) : fX1_takes (nI k) C = some (nI 1, wI C 275 4 (nI (i + 1))) := by
  obtain ⟨h1, h2, h3, h4, h5, h7, h8⟩ := h
  have e := (h5 i hi).1
  rw [hk] at e
  unfold fX1_takes
  simp (disch := (first | assumption | trivial | omega)) only [h1, gdN, clN, e, giTr, lzE, lit, addN]
theorem takes6n (h : PC tk tv tp t law i n C) (ht : t < 4) (hi : i ≤ 300) {K : Nat} (ho : toksOK tk tv tp K) (hiK : i ≤ K) {k : Nat} (hk2 : k ≤ 40) (hk : ¬ tk i = k) : ∃ C', fX1_takes (nI k) C = some (nI 0, C') ∧ C' 275 7 = nI 1 ∧ C' 275 8 = nI (tp i) ∧ KC t n C C' := by
  obtain ⟨C', e, q⟩ := fails6 h ht hi 1
  refine ⟨C', ?_, q⟩
  obtain ⟨h1, h2, h3, h4, h5, h7, h8⟩ := h
  have e0 := (h5 i hi).1
  have hb := (ho i hiK).1
  have hk' : ¬ tk i = k := hk
  unfold fX1_takes
  simp (disch := (first | assumption | trivial | omega)) only [h1, gdN, clN, e0, eqN, giF, lit, e, bdE, prE]
theorem opens6p (h : PC tk tv tp t law i n C) (hi : i ≤ 300) {x : Nat} (hx : x < 8) : fX1_opens (nI x) C = some (nI 1, wI C 275 4 (nI (i + 1))) := by
  unfold fX1_opens
  simp (disch := (first | assumption | trivial | omega)) only [h.1, lit, ltN, giT, giTr, lzE, addN]
theorem opens6n (h : PC tk tv tp t law i n C) (ht : t < 4) (hi : i ≤ 300) {x : Nat} (hx : ¬ x < 8) (hx9 : x < 100) : ∃ C', fX1_opens (nI x) C = some (nI 0, C') ∧ C' 275 7 = nI 3 ∧ C' 275 8 = nI (tp i) ∧ KC t n C C' := by
  obtain ⟨C', e, q⟩ := fails6 h ht hi 3
  refine ⟨C', ?_, q⟩
  unfold fX1_opens
  simp (disch := (first | assumption | trivial | omega)) only [lit, ltN, giF, e, bdE, prE]
end CP
