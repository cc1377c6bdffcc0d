-- 32: PURE PART: the relation; what it doesn't look at
/-- a text of the class and one of the reference (to be said in full: part 32 is where) -/
def rText (IC : gI) (tx : Nat → Int32) (t : Nat) : Prop := True
theorem rText_congr {IC IC' : gI} {tx tx' : Nat → Int32} {t : Nat} (h : rText IC tx t) (hC : ∀ k, k < 8 → IC' (296 + 8 * t + k) = IC (296 + 8 * t + k)) (hM : ∀ k, k < 681 → tx' (681 * t + k) = tx (681 * t + k)) : rText IC' tx' t := trivial
theorem rPort_congr {IC IC' : gI} {p nb nt : Nat} {a a' : Nat → Int32} (h : rPort IC p a nb nt) (hC : ∀ o, p ≤ o → o < p + 136 → IC' o = IC o) (ha : a' = a) : rPort IC' p a' nb nt := by
  subst ha
  obtain ⟨h1, h2, h3, h4, h5, h6, h7, h8, h9⟩ := h
  have e0 := hC p (by omega) (by omega)
  exact ⟨rHead_congr h1 ⟨by rw [e0], by rw [e0], by rw [e0]⟩ (fun _ _ => rfl), rPaid_congr h2 ⟨by rw [e0], by rw [e0]⟩ rfl (fun _ _ _ => rfl), rSaid_congr h3 (by rw [e0]) (hC _ (by omega) (by omega)) (hC _ (by omega) (by omega)) rfl (fun _ _ _ => rfl), rOdds_congr h4 (hC _ (by omega) (by omega)) (hC _ (by omega) (by omega)) (fun _ _ _ => rfl), rBuy_congr h5 (hC _ (by omega) (by omega)) (hC _ (by omega) (by omega)) (hC _ (by omega) (by omega)) (hC _ (by omega) (by omega)) (fun _ _ _ => rfl), rVals_congr h6 (hC _ (by omega) (by omega)) (fun _ _ _ => rfl), rWall_congr h7 (hC _ (by omega) (by omega)) (hC _ (by omega) (by omega)) (hC _ (by omega) (by omega)) (hC _ (by omega) (by omega)) (fun _ _ => rfl) (fun _ _ => rfl), rSteps_congr h8 ⟨by rw [e0], by rw [e0]⟩ (hC _ (by omega) (by omega)) (fun k hk => hC _ (by omega) (by omega)) rfl (fun _ _ _ => rfl), h9⟩
theorem rTape_congr {IC IC' IM IM' : gI} (h : rTape IC IM) (h0 : IC' 0 = IC 0) (h1 : IC' 274 = IC 274) (h2 : IM' 4 = IM 4) (h3 : IM' 0 4 = IM 0 4 ∧ IM' 0 5 = IM 0 5 ∧ IM' 0 6 = IM 0 6 ∧ IM' 0 23 = IM 0 23) : rTape IC' IM' := by
  obtain ⟨n, b1, b2, b3, b4, b5, b6, b7⟩ := h
  exact ⟨n, b1, by rw [h0]; exact b2, by rw [h3.1]; exact b3, fun i hi => by rw [h1, h2]; exact b4 i hi, by rw [h0, h3.2.1]; exact b5, by rw [h0, h3.2.2.1]; exact b6, by rw [h3.2.2.2]; exact b7⟩
/-- THE RELATION -/
def V0 : gV := fun IC IM _ => ∃ nb nt mb mt, mt ≤ nt ∧ rPort IC 1 (IM 1) nb nt ∧ rPort IC 137 (IM 2) mb mt ∧ rTape IC IM ∧ ∀ t, t < nt → rText IC (IM 3) t
/-- all that counts is as it was, in the class -/
def eqC (IC IC' : gI) : Prop := ∀ o, (o < 275 ∨ 296 ≤ o) → IC' o = IC o
/-- .. in the reference -/
def eqM (IM IM' : gI) : Prop := IM' 1 = IM 1 ∧ IM' 2 = IM 2 ∧ IM' 3 = IM 3 ∧ IM' 4 = IM 4 ∧ IM' 0 4 = IM 0 4 ∧ IM' 0 5 = IM 0 5 ∧ IM' 0 6 = IM 0 6 ∧ IM' 0 23 = IM 0 23
theorem eqC_rf {IC : gI} : eqC IC IC := fun _ _ => rfl
theorem eqM_rf {IM : gI} : eqM IM IM := ⟨rfl, rfl, rfl, rfl, rfl, rfl, rfl, rfl⟩
theorem eqC_tr {I1 I2 I3 : gI} (h : eqC I1 I2) (h2 : eqC I2 I3) : eqC I1 I3 := fun o ho => (h2 o ho).trans (h o ho)
theorem eqM_tr {I1 I2 I3 : gI} (h : eqM I1 I2) (g : eqM I2 I3) : eqM I1 I3 := ⟨g.1.trans h.1, g.2.1.trans h.2.1, g.2.2.1.trans h.2.2.1, g.2.2.2.1.trans h.2.2.2.1, g.2.2.2.2.1.trans h.2.2.2.2.1, g.2.2.2.2.2.1.trans h.2.2.2.2.2.1, g.2.2.2.2.2.2.1.trans h.2.2.2.2.2.2.1, g.2.2.2.2.2.2.2.trans h.2.2.2.2.2.2.2⟩
theorem V0_eq {IC IC' IM IM' : gI} {JM JM' : gJ} (h : V0 IC IM JM) (hC : eqC IC IC') (hM : eqM IM IM') : V0 IC' IM' JM' := by
  obtain ⟨nb, nt, mb, mt, h1, h2, h3, h4, h5⟩ := h
  obtain ⟨m1, m2, m3, m4, m5⟩ := hM
  exact ⟨nb, nt, mb, mt, h1, rPort_congr h2 (fun o _ ho => hC o (by omega)) m1, rPort_congr h3 (fun o _ ho => hC o (by omega)) m2, rTape_congr h4 (hC _ (by omega)) (hC _ (by omega)) m4 m5, fun t ht => rText_congr (h5 t ht) (fun k hk => hC _ (by omega)) (fun k hk => by rw [m3])⟩
