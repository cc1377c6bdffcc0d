-- 32: PURE PART: the relation; what it doesn't look at
/-- the class's word for a name of the reference -/
def nmC (v : Nat) : Nat := match v with
  | 0 => 9
  | 1 => 2
  | 2 => 4
  | 3 => 19
  | 4 => 20
  | 5 => 21
  | 6 => 22
  | _ => 23
def unP (x y : Nat) : Prop := (x = 10 ∧ y = 2) ∨ (x = 11 ∧ y = 4) ∨ (x = 38 ∧ y = 5)
def biP (x y : Nat) : Prop := (x = 31 ∧ y = 6) ∨ (x = 32 ∧ y = 7) ∨ (x = 33 ∧ y = 8) ∨ (x = 34 ∧ y = 9)
def cmP (x y : Nat) : Prop := (x = 27 ∧ y = 10) ∨ (x = 25 ∧ y = 11) ∨ (x = 28 ∧ y = 12) ∨ (x = 26 ∧ y = 13) ∨ (x = 29 ∧ y = 14) ∨ (x = 30 ∧ y = 15)
def joP (x y : Nat) : Prop := (x = 17 ∧ y = 21) ∨ (x = 16 ∧ y = 22)
/-- what two codes of one sum keep: 0 a sum, 1 a question; how high it piles; the class's from i to below j, the reference's from p to below q -/
def CorC (cc co rc ro : Nat → Int32) (P : Nat → Nat → Nat → Nat → Nat → Nat → Prop) : Prop :=
  (∀ i p n, n < 10000 → cc i = nI 24 → co i = nI n → rc p = nI 0 → ro p = nI n → P 0 1 i (i + 1) p (p + 1)) ∧
  (∀ i p v, v < 8 → cc i = nI (nmC v) → rc p = nI 1 → ro p = nI v → P 0 1 i (i + 1) p (p + 1)) ∧
  (∀ d i j p q x y, unP x y → cc j = nI x → rc q = nI y → P 0 d i j p q → P 0 d i (j + 1) p (q + 1)) ∧
  (∀ d1 d2 i j k p q r x y, biP x y → cc k = nI x → rc r = nI y → P 0 d1 i j p q → P 0 d2 j k q r → P 0 (max d1 (d2 + 1)) i (k + 1) p (r + 1)) ∧
  (∀ d1 d2 i j k p q r x y, cmP x y → cc k = nI x → rc r = nI y → P 0 d1 i j p q → P 0 d2 j k q r → P 1 (max d1 (d2 + 1)) i (k + 1) p (r + 1)) ∧
  (∀ d1 d2 i j k p q r x y, joP x y → cc k = nI x → rc r = nI y → P 1 d1 i j p q → P 1 d2 j k q r → P 1 (max d1 (d2 + 1)) i (k + 1) p (r + 1)) ∧
  (∀ d i j p q, cc j = nI 18 → rc q = nI 20 → P 1 d i j p q → P 1 d i (j + 1) p (q + 1)) ∧
  (∀ d1 d2 d3 i j k l p q r s, cc j = nI 13 → co j = nI (k + 1) → cc k = nI 14 → co k = nI l → rc s = nI 3 → P 1 d1 i j p q → P 0 d2 (j + 1) k q r → P 0 d3 (k + 1) l r s → P 0 (max d1 (max d2 d3)) i l p (s + 1))
def Cor (cc co rc ro : Nat → Int32) (k d i j p q : Nat) : Prop := ∀ P, CorC cc co rc ro P → P k d i j p q
def rC (tx : Nat → Int32) (t : Nat) : Nat → Int32 := fun p => if p < 304 then tx (681 * t + (73 + 2 * p)) else 0
def rO (tx : Nat → Int32) (t : Nat) : Nat → Int32 := fun p => if p < 304 then tx (681 * t + (74 + 2 * p)) else 0
/-- a clause: class, reference -/
def rCl (k6 x6 y6 k7 x7 y7 : Int32) : Prop :=
  (∃ f t, f ≤ t ∧ t < 12 ∧ k6 = nI 2 ∧ x6 = nI f ∧ y6 = nI t ∧ k7 = nI 2 ∧ x7 = nI f ∧ y7 = nI t) ∨
  (∃ s o, s < 5 ∧ o < 10 ∧ k6 = nI 4 ∧ x6 = nI s ∧ y6 = nI o ∧ k7 = nI 3 ∧ x7 = nI s ∧ y7 = nI o) ∨
  (∃ b, b < 6 ∧ k6 = nI 6 ∧ x6 = nI b ∧ k7 = nI 4 ∧ x7 = nI b) ∨
  (∃ s, s < 12 ∧ k6 = nI 7 ∧ x6 = nI s ∧ k7 = nI 5 ∧ x7 = nI s) ∨
  (∃ b, b < 6 ∧ k6 = nI 8 ∧ x6 = nI b ∧ k7 = nI 6 ∧ x7 = nI b) ∨
  (∃ n, 1 ≤ n ∧ n ≤ 60 ∧ k6 = nI 9 ∧ x6 = nI n ∧ k7 = nI 7 ∧ x7 = nI n) ∨
  (∃ l, l < 2 ∧ k6 = nI l ∧ k7 = nI l)
/-- a law: none, or one sum -/
def rLaw (IC : gI) (tx : Nat → Int32) (t m l : Nat) : Prop :=
  ((∃ i j, i < 301 ∧ j ≤ i ∧ IC (296 + 8 * t + 6) l = nI i ∧ IC (296 + 8 * t + 7) l = nI j) ∧ ∀ c, c < m → ¬ tx (681 * t + (1 + 3 * c)) = nI l) ∨
  ∃ c d i j p q, c < m ∧ tx (681 * t + (1 + 3 * c)) = nI l ∧ (∀ c', c' < c → ¬ tx (681 * t + (1 + 3 * c')) = nI l) ∧ d ≤ 64 ∧ i < j ∧ j ≤ 300 ∧ q ≤ 300 ∧ IC (296 + 8 * t + 6) l = nI i ∧ IC (296 + 8 * t + 7) l = nI j ∧ tx (681 * t + (2 + 3 * c)) = nI p ∧ tx (681 * t + (3 + 3 * c)) = nI q ∧ Cor (IC (296 + 8 * t + 4)) (IC (296 + 8 * t + 5)) (rC tx t) (rO tx t) 0 d i j p q
/-- a text of the class and one of the reference -/
def rText (IC : gI) (tx : Nat → Int32) (t : Nat) : Prop :=
  ∃ m, m ≤ 24 ∧ IC (296 + 8 * t) 7 = nI m ∧ tx (681 * t) = nI m ∧ (∀ c, c < m → rCl (IC (296 + 8 * t + 1) c) (IC (296 + 8 * t + 2) c) (IC (296 + 8 * t + 3) c) (tx (681 * t + (1 + 3 * c))) (tx (681 * t + (2 + 3 * c))) (tx (681 * t + (3 + 3 * c)))) ∧ ∀ l, l < 2 → rLaw IC tx t m l
theorem rText_congr {IC IC' : gI} {tx tx' : Nat → Int32} {t : Nat} (h : rText IC tx t) (hC : ∀ k, k < 8 → IC' (296 + 8 * t + k) = IC (296 + 8 * t + k)) (hM : ∀ k, k < 681 → tx' (681 * t + k) = tx (681 * t + k)) : rText IC' tx' t := by
  obtain ⟨m, h1, h2, h3, h4, h5⟩ := h
  have e0 : IC' (296 + 8 * t) = IC (296 + 8 * t) := hC 0 (by omega)
  have m0 : tx' (681 * t) = tx (681 * t) := hM 0 (by omega)
  have ec : rC tx' t = rC tx t := by
    funext p
    unfold rC
    by_cases c : p < 304
    · rw [if_pos c, if_pos c, hM _ (by omega)]
    · rw [if_neg c, if_neg c]
  have eo : rO tx' t = rO tx t := by
    funext p
    unfold rO
    by_cases c : p < 304
    · rw [if_pos c, if_pos c, hM _ (by omega)]
    · rw [if_neg c, if_neg c]
  refine ⟨m, h1, by rw [e0]; exact h2, by rw [m0]; exact h3, fun c hc => ?_, fun l hl => ?_⟩
  · rw [hC 1 (by omega), hC 2 (by omega), hC 3 (by omega), hM _ (by omega), hM _ (by omega), hM _ (by omega)]
    exact h4 c hc
  · rcases h5 l hl with ⟨⟨i, j, a1, a2, a3, a4⟩, a5⟩ | ⟨c, d, i, j, p, q, a1, a2, a3, a4, a5, a6, a7, a8, a9, a10, a11, a12⟩
    · refine Or.inl ⟨⟨i, j, a1, a2, by rw [hC 6 (by omega)]; exact a3, by rw [hC 7 (by omega)]; exact a4⟩, fun c hc => by rw [hM _ (by omega)]; exact a5 c hc⟩
    · refine Or.inr ⟨c, d, i, j, p, q, a1, by rw [hM _ (by omega)]; exact a2, fun c' hc' => by rw [hM _ (by omega)]; exact a3 c' hc', a4, a5, a6, a7, by rw [hC 6 (by omega)]; exact a8, by rw [hC 7 (by omega)]; exact a9, by rw [hM _ (by omega)]; exact a10, by rw [hM _ (by omega)]; exact a11, ?_⟩
      rw [hC 4 (by omega), hC 5 (by omega), ec, eo]
      exact a12
theorem rPort_congr {IC IC' : gI} {p nb nt : Nat} {a a' : Nat → Int32} (h : rPort IC p a nb nt) (hC : ∀ o, p ≤ o → o < p + 136 → IC' o = IC o) (ha : a' = a) : rPort IC' p a' nb nt := by
  subst ha
  obtain ⟨h1, h2, h3, h4, h5, h6, h7, h8, h9⟩ := h
  have e0 := hC p (by omega) (by omega)
  exact ⟨rHead_congr h1 ⟨by rw [e0], by rw [e0], by rw [e0]⟩ (fun _ _ => rfl), rPaid_congr h2 ⟨by rw [e0], by rw [e0]⟩ rfl (fun _ _ _ => rfl), rSaid_congr h3 (by rw [e0]) (hC _ (by omega) (by omega)) (hC _ (by omega) (by omega)) rfl (fun _ _ _ => rfl), rOdds_congr h4 (hC _ (by omega) (by omega)) (hC _ (by omega) (by omega)) (fun _ _ _ => rfl), rBuy_congr h5 (hC _ (by omega) (by omega)) (hC _ (by omega) (by omega)) (hC _ (by omega) (by omega)) (hC _ (by omega) (by omega)) (fun _ _ _ => rfl), rVals_congr h6 (hC _ (by omega) (by omega)) (fun _ _ _ => rfl), rWall_congr h7 (hC _ (by omega) (by omega)) (hC _ (by omega) (by omega)) (hC _ (by omega) (by omega)) (hC _ (by omega) (by omega)) (fun _ _ => rfl) (fun _ _ => rfl), rSteps_congr h8 ⟨by rw [e0], by rw [e0]⟩ (hC _ (by omega) (by omega)) (fun k hk => hC _ (by omega) (by omega)) rfl (fun _ _ _ => rfl), h9⟩
theorem rTape_congr {IC IC' IM IM' : gI} (h : rTape IC IM) (h0 : IC' 0 = IC 0) (h1 : IC' 274 = IC 274) (h2 : IM' 4 = IM 4) (h3 : IM' 0 4 = IM 0 4 ∧ IM' 0 5 = IM 0 5 ∧ IM' 0 6 = IM 0 6 ∧ IM' 0 23 = IM 0 23) : rTape IC' IM' := by
  obtain ⟨n, b1, b2, b3, b4, b5, b6, b7⟩ := h
  exact ⟨n, b1, by rw [h0]; exact b2, by rw [h3.1]; exact b3, fun i hi => by rw [h1, h2]; exact b4 i hi, by rw [h0, h3.2.1]; exact b5, by rw [h0, h3.2.2.1]; exact b6, by rw [h3.2.2.2]; exact b7⟩
/-- THE RELATION -/
def V0 : gV := fun IC IM _ => ∃ nb nt mb mt, mt ≤ nt ∧ rPort IC 1 (IM 1) nb nt ∧ rPort IC 137 (IM 2) mb mt ∧ rTape IC IM ∧ ∀ t, t < nt → rText IC (IM 3) t
/-- all that counts is as it was, in the class -/
def eqC (IC IC' : gI) : Prop := ∀ o, (o < 275 ∨ 296 ≤ o) → IC' o = IC o
/-- .. in the reference -/
def eqM (IM IM' : gI) : Prop := IM' 1 = IM 1 ∧ IM' 2 = IM 2 ∧ IM' 3 = IM 3 ∧ IM' 4 = IM 4 ∧ IM' 0 4 = IM 0 4 ∧ IM' 0 5 = IM 0 5 ∧ IM' 0 6 = IM 0 6 ∧ IM' 0 23 = IM 0 23
theorem eqC_rf {IC : gI} : eqC IC IC := fun _ _ => rfl
theorem eqM_rf {IM : gI} : eqM IM IM := ⟨rfl, rfl, rfl, rfl, rfl, rfl, rfl, rfl⟩
theorem eqC_tr {I1 I2 I3 : gI} (h : eqC I1 I2) (h2 : eqC I2 I3) : eqC I1 I3 := fun o ho => (h2 o ho).trans (h o ho)
theorem eqM_tr {I1 I2 I3 : gI} (h : eqM I1 I2) (g : eqM I2 I3) : eqM I1 I3 := ⟨g.1.trans h.1, g.2.1.trans h.2.1, g.2.2.1.trans h.2.2.1, g.2.2.2.1.trans h.2.2.2.1, g.2.2.2.2.1.trans h.2.2.2.2.1, g.2.2.2.2.2.1.trans h.2.2.2.2.2.1, g.2.2.2.2.2.2.1.trans h.2.2.2.2.2.2.1, g.2.2.2.2.2.2.2.trans h.2.2.2.2.2.2.2⟩
theorem V0_eq {IC IC' IM IM' : gI} {JM JM' : gJ} (h : V0 IC IM JM) (hC : eqC IC IC') (hM : eqM IM IM') : V0 IC' IM' JM' := by
  obtain ⟨nb, nt, mb, mt, h1, h2, h3, h4, h5⟩ := h
  obtain ⟨m1, m2, m3, m4, m5⟩ := hM
  exact ⟨nb, nt, mb, mt, h1, rPort_congr h2 (fun o _ ho => hC o (by omega)) m1, rPort_congr h3 (fun o _ ho => hC o (by omega)) m2, rTape_congr h4 (hC _ (by omega)) (hC _ (by omega)) m4 m5, fun t ht => rText_congr (h5 t ht) (fun k hk => hC _ (by omega)) (fun k hk => by rw [m3])⟩
