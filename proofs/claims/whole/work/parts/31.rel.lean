-- 31: PURE PART: the relation of the two memories, in blocks
/-- a line of the book: class, reference -/
def rLine (c m : Int32) : Prop := ∃ d k w q, d < 10000 ∧ k < 5 ∧ w < 12 ∧ q < 100 ∧ c = nI (((d * 8 + k) * 16 + w) * 128 + q) ∧ m = nI (((d * 5 + k) * 12 + w) * 100 + q)
/-- a wall: w the class's cell; d what the reference keeps from DAY on, bk its book; nb buyers -/
def rWall (IC : gI) (w nb : Nat) (d bk : Nat → Int32) : Prop :=
  (inR (d 0) 10000 ∧ inR (d 1) 31039 ∧ inR (d 2) 100000 ∧ inR (d 3) 5 ∧ inR (d 4) 26) ∧
  (IC w 7 = d 0 ∧ IC w 8 = d 1 ∧ IC w 6 = d 2 ∧ IC w 5 = d 3 ∧ IC w 3 = d 4) ∧
  (∀ s, s < 12 → d (5 + s) = -1 ∨ ∃ o, (o < nb ∨ o = 6) ∧ d (5 + s) = nI o) ∧
  (∃ f, f < 4096 ∧ IC w 4 = nI f ∧ ∀ s, s < 12 → (f.testBit s = true ↔ d (5 + s) = -1)) ∧
  (∀ b, b < 6 → ∃ o, o < 4096 ∧ IC (w + 2) b = nI o ∧ ∀ s, s < 12 → (o.testBit s = true ↔ d (5 + s) = nI b)) ∧
  (∀ b, b < 6 → inR (d (17 + b)) 1000 ∧ IC (w + 1) b = d (17 + b)) ∧
  (∀ i n, d 4 = nI n → i < n → n < 26 → rLine (IC (w + 3) i) (bk i))
/-- heads: buyers, texts, the text that rules, steps, sayings -/
def rHead (IC : gI) (p : Nat) (a : Nat → Int32) (nb nt : Nat) : Prop :=
  nb ≤ 6 ∧ nt ≤ 4 ∧ a 0 = nI nb ∧ IC p 12 = nI nb ∧ a 1 = nI nt ∧ IC p 13 = nI nt ∧ IC p 14 = a 2 ∧ (a 2 = -1 ∨ ∃ t, t < nt ∧ a 2 = nI t)
def rPaid (IC : gI) (p : Nat) (a : Nat → Int32) (nb : Nat) : Prop :=
  ∃ t d, t < 64 ∧ d < 64 ∧ IC p 16 = nI t ∧ IC p 17 = nI d ∧ a 4 = fJ6_bitCount_0f7a4 (nI t) ∧ (∀ b, b < 6 → (a (63 + b) = 0 ∧ t.testBit b = false ∧ d.testBit b = false) ∨ (b < nb ∧ a (63 + b) = 1 ∧ t.testBit b = true ∧ d.testBit b = true) ∨ (b < nb ∧ a (63 + b) = 2 ∧ t.testBit b = true ∧ d.testBit b = false))
def rSaid (IC : gI) (p : Nat) (a : Nat → Int32) (nb : Nat) : Prop :=
  ∃ n, n ≤ 8 ∧ a 5 = nI n ∧ IC p 15 = nI n ∧ ∀ i, i < n → inR (a (81 + 2 * i)) nb ∧ inR (a (82 + 2 * i)) 100 ∧ IC (p + 8) i = a (81 + 2 * i) ∧ IC (p + 9) i = a (82 + 2 * i)
def rOdds (IC : gI) (p : Nat) (a : Nat → Int32) : Prop := ∀ s, s < 5 → inR (a (29 + s)) 10 ∧ inR (a (34 + s)) 100 ∧ IC (p + 1) s = a (29 + s) ∧ IC (p + 2) s = a (34 + s)
def rBuy (IC : gI) (p : Nat) (a : Nat → Int32) : Prop := ∀ b, b < 6 → inR (a (39 + b)) 32 ∧ (∃ f t, f ≤ t ∧ t < 12 ∧ a (45 + b) = nI f ∧ a (51 + b) = nI t) ∧ inR (a (57 + b)) 1000 ∧ IC (p + 3) b = a (39 + b) ∧ IC (p + 4) b = a (45 + b) ∧ IC (p + 5) b = a (51 + b) ∧ IC (p + 6) b = a (57 + b)
def rVals (IC : gI) (p : Nat) (a : Nat → Int32) : Prop := ∀ s, s < 12 → inR (a (69 + s)) 100 ∧ IC (p + 7) s = a (69 + s)
def rSteps (IC : gI) (p : Nat) (a : Nat → Int32) (nb : Nat) : Prop :=
  ∃ ns e, ns ≤ 30 ∧ e < 30 ∧ a 3 = nI ns ∧ IC p 19 = nI ns ∧ IC p 18 = nI e ∧ ∀ i, i < ns → ∃ m, m ≤ nb ∧ a (97 + 49 * i) = nI m ∧ IC (p + 15) ((e + i) % 30) = nI m ∧ rWall IC (p + 16 + 4 * ((e + i) % 30)) m (fun k => a (98 + 49 * i + k)) (fun k => a (121 + 49 * i + k))
/-- slice s is within buyer b's hours -/
def inH (a : Nat → Int32) (b s : Nat) : Prop := ∃ f t, a (45 + b) = nI f ∧ a (51 + b) = nI t ∧ f ≤ s ∧ s ≤ t ∧ t < 12
/-- what a buyer owns is within its hours, now and in the steps -/
def rOwn (a : Nat → Int32) : Prop :=
  (∀ s b, s < 12 → b < 6 → a (11 + s) = nI b → inH a b s) ∧ ∀ N i s b, a 3 = nI N → i < N → N ≤ 30 → s < 12 → b < 6 → a (103 + 49 * i + s) = nI b → inH a b s
/-- a port of the class and a row of the reference -/
def rPort (IC : gI) (p : Nat) (a : Nat → Int32) (nb nt : Nat) : Prop :=
  rHead IC p a nb nt ∧ rPaid IC p a nb ∧ rSaid IC p a nb ∧ rOdds IC p a ∧ rBuy IC p a ∧ rVals IC p a ∧ rWall IC (p + 10) nb (fun k => a (6 + k)) (fun k => a (1567 + k)) ∧ rSteps IC p a nb ∧ rOwn a
/-- the tape, the latest fault, whether the reference writes its book -/
def rTape (IC IM : gI) : Prop := ∃ n, n ≤ 300 ∧ IC 0 10 = nI n ∧ IM 0 4 = nI n ∧ (∀ i, i < n → inR (IM 4 i) 256 ∧ IC 274 i = IM 4 i) ∧ IC 0 11 = IM 0 5 ∧ IC 0 12 = IM 0 6 ∧ IM 0 23 = 1
/-! how each block keeps: what it looks at -/
theorem rWall_congr {IC IC' : gI} {w w' nb : Nat} {d d' bk bk' : Nat → Int32} (h : rWall IC w nb d bk) (h0 : IC' w' = IC w) (h1 : IC' (w' + 1) = IC (w + 1)) (h2 : IC' (w' + 2) = IC (w + 2)) (h3 : IC' (w' + 3) = IC (w + 3)) (hd : ∀ k, k < 23 → d' k = d k) (hb : ∀ k, k < 25 → bk' k = bk k) : rWall IC' w' nb d' bk' := by
  obtain ⟨⟨a0, a1, a2, a3, a4⟩, ⟨b0, b1, b2, b3, b4⟩, c, ⟨f, f1, f2, f3⟩, o, q, ln⟩ := h
  refine ⟨⟨?_, ?_, ?_, ?_, ?_⟩, ⟨?_, ?_, ?_, ?_, ?_⟩, fun s hs => ?_, ⟨f, f1, by rw [h0]; exact f2, fun s hs => by rw [hd _ (by omega)]; exact f3 s hs⟩, fun b hb2 => ?_, fun b hb2 => ?_, fun i n hn hi hn2 => ?_⟩
  · rw [hd _ (by omega)]; exact a0
  · rw [hd _ (by omega)]; exact a1
  · rw [hd _ (by omega)]; exact a2
  · rw [hd _ (by omega)]; exact a3
  · rw [hd _ (by omega)]; exact a4
  · rw [h0, hd _ (by omega)]; exact b0
  · rw [h0, hd _ (by omega)]; exact b1
  · rw [h0, hd _ (by omega)]; exact b2
  · rw [h0, hd _ (by omega)]; exact b3
  · rw [h0, hd _ (by omega)]; exact b4
  · rw [hd _ (by omega)]; exact c s hs
  · obtain ⟨o1, o2, o3, o4⟩ := o b hb2
    exact ⟨o1, o2, by rw [h2]; exact o3, fun s hs => by rw [hd _ (by omega)]; exact o4 s hs⟩
  · rw [hd _ (by omega), h1]; exact q b hb2
  · rw [hd _ (by omega)] at hn
    rw [h3, hb _ (by omega)]
    exact ln i n hn hi hn2
theorem rHead_congr {IC IC' : gI} {p p' nb nt : Nat} {a a' : Nat → Int32} (h : rHead IC p a nb nt) (h0 : IC' p' 12 = IC p 12 ∧ IC' p' 13 = IC p 13 ∧ IC' p' 14 = IC p 14) (ha : ∀ k, k < 3 → a' k = a k) : rHead IC' p' a' nb nt := by
  obtain ⟨a1, a2, a3, a4, a5, a6, a7, a8⟩ := h
  exact ⟨a1, a2, by rw [ha _ (by omega)]; exact a3, by rw [h0.1]; exact a4, by rw [ha _ (by omega)]; exact a5, by rw [h0.2.1]; exact a6, by rw [h0.2.2, ha _ (by omega)]; exact a7, by rw [ha _ (by omega)]; exact a8⟩
theorem rPaid_congr {IC IC' : gI} {p p' nb : Nat} {a a' : Nat → Int32} (h : rPaid IC p a nb) (h0 : IC' p' 16 = IC p 16 ∧ IC' p' 17 = IC p 17) (h4 : a' 4 = a 4) (ha : ∀ k, 63 ≤ k → k < 69 → a' k = a k) : rPaid IC' p' a' nb := by
  obtain ⟨t, d, b1, b2, b3, b4, b5, b6⟩ := h
  exact ⟨t, d, b1, b2, by rw [h0.1]; exact b3, by rw [h0.2]; exact b4, by rw [h4]; exact b5, fun b hb => by rw [ha _ (by omega) (by omega)]; exact b6 b hb⟩
theorem rSaid_congr {IC IC' : gI} {p p' nb : Nat} {a a' : Nat → Int32} (h : rSaid IC p a nb) (h0 : IC' p' 15 = IC p 15) (h1 : IC' (p' + 8) = IC (p + 8)) (h2 : IC' (p' + 9) = IC (p + 9)) (h5 : a' 5 = a 5) (ha : ∀ k, 81 ≤ k → k < 97 → a' k = a k) : rSaid IC' p' a' nb := by
  obtain ⟨n, b1, b2, b3, b4⟩ := h
  refine ⟨n, b1, by rw [h5]; exact b2, by rw [h0]; exact b3, fun i hi => ?_⟩
  rw [h1, h2, ha _ (by omega) (by omega), ha _ (by omega) (by omega)]
  exact b4 i hi
theorem rOdds_congr {IC IC' : gI} {p p' : Nat} {a a' : Nat → Int32} (h : rOdds IC p a) (h1 : IC' (p' + 1) = IC (p + 1)) (h2 : IC' (p' + 2) = IC (p + 2)) (ha : ∀ k, 29 ≤ k → k < 39 → a' k = a k) : rOdds IC' p' a' := by
  intro s hs
  rw [h1, h2, ha _ (by omega) (by omega), ha _ (by omega) (by omega)]
  exact h s hs
theorem rBuy_congr {IC IC' : gI} {p p' : Nat} {a a' : Nat → Int32} (h : rBuy IC p a) (h3 : IC' (p' + 3) = IC (p + 3)) (h4 : IC' (p' + 4) = IC (p + 4)) (h5 : IC' (p' + 5) = IC (p + 5)) (h6 : IC' (p' + 6) = IC (p + 6)) (ha : ∀ k, 39 ≤ k → k < 63 → a' k = a k) : rBuy IC' p' a' := by
  intro b hb
  rw [h3, h4, h5, h6, ha _ (by omega) (by omega), ha _ (by omega) (by omega), ha _ (by omega) (by omega), ha _ (by omega) (by omega)]
  exact h b hb
theorem rVals_congr {IC IC' : gI} {p p' : Nat} {a a' : Nat → Int32} (h : rVals IC p a) (h7 : IC' (p' + 7) = IC (p + 7)) (ha : ∀ k, 69 ≤ k → k < 81 → a' k = a k) : rVals IC' p' a' := by
  intro s hs
  rw [h7, ha _ (by omega) (by omega)]
  exact h s hs
theorem rSteps_congr {IC IC' : gI} {p p' nb : Nat} {a a' : Nat → Int32} (h : rSteps IC p a nb) (h0 : IC' p' 18 = IC p 18 ∧ IC' p' 19 = IC p 19) (h1 : IC' (p' + 15) = IC (p + 15)) (h2 : ∀ k, k < 120 → IC' (p' + 16 + k) = IC (p + 16 + k)) (h3 : a' 3 = a 3) (ha : ∀ k, 97 ≤ k → k < 1567 → a' k = a k) : rSteps IC' p' a' nb := by
  obtain ⟨ns, e, b1, b2, b3, b4, b5, b6⟩ := h
  refine ⟨ns, e, b1, b2, by rw [h3]; exact b3, by rw [h0.2]; exact b4, by rw [h0.1]; exact b5, fun i hi => ?_⟩
  obtain ⟨m, m1, m2, m3, m4⟩ := b6 i hi
  have hm : (e + i) % 30 < 30 := Nat.mod_lt _ (by omega)
  refine ⟨m, m1, by rw [ha _ (by omega) (by omega)]; exact m2, by rw [h1]; exact m3, rWall_congr m4 ?_ ?_ ?_ ?_ (fun k hk => ha _ (by omega) (by omega)) (fun k hk => ha _ (by omega) (by omega))⟩
  · exact h2 _ (by omega)
  · rw [Nat.add_assoc (p' + 16), Nat.add_assoc (p + 16)]; exact h2 _ (by omega)
  · rw [Nat.add_assoc (p' + 16), Nat.add_assoc (p + 16)]; exact h2 _ (by omega)
  · rw [Nat.add_assoc (p' + 16), Nat.add_assoc (p + 16)]; exact h2 _ (by omega)
theorem inH_congr {a a' : Nat → Int32} {b s : Nat} (h : inH a b s) (h1 : a' (45 + b) = a (45 + b)) (h2 : a' (51 + b) = a (51 + b)) : inH a' b s := by
  obtain ⟨f, t, x1, x2, x3⟩ := h
  exact ⟨f, t, h1.trans x1, h2.trans x2, x3⟩
theorem rOwn_congr {a a' : Nat → Int32} (h : rOwn a) (ha : ∀ k, k = 3 ∨ (11 ≤ k ∧ k < 23) ∨ (45 ≤ k ∧ k < 57) ∨ (97 ≤ k ∧ k < 1567) → a' k = a k) : rOwn a' := by
  refine ⟨fun s b hs hb e => ?_, fun N i s b e1 e2 e3 hs hb e => ?_⟩
  · rw [ha _ (by omega)] at e
    exact inH_congr (h.1 s b hs hb e) (ha _ (by omega)) (ha _ (by omega))
  · rw [ha _ (by omega)] at e1 e
    exact inH_congr (h.2 N i s b e1 e2 e3 hs hb e) (ha _ (by omega)) (ha _ (by omega))
