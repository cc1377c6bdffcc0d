-- 11: the two layouts, their references
def kdWall (r : Nat) : Nat × Nat := if r = 0 then (0, 4) else if r < 3 then (1, 6) else (1, 25)
def kdText (r : Nat) : Nat × Nat := if r = 0 then (0, 3) else if r < 4 then (1, 24) else if r < 6 then (1, 300) else (1, 2)
def kdPort (r : Nat) : Nat × Nat := if r = 0 then (0, 0) else if r < 3 then (1, 5) else if r < 7 then (1, 6) else if r = 7 then (1, 12) else if r < 10 then (1, 8) else if r < 14 then kdWall (r - 10) else if r = 14 then (5, 30) else if r = 15 then (1, 30) else kdWall ((r - 16) % 4)
def kdC (o : Nat) : Nat × Nat := if o = 0 then (0, 5) else if o < 137 then kdPort (o - 1) else if o < 273 then kdPort (o - 137) else if o = 273 then (6, 4) else if o = 274 then (4, 300) else if o = 275 then (0, 1) else if o < 279 then (1, 301) else if o < 287 then kdText (o - 279) else if o = 287 then (0, 2) else if o = 288 then (1, 64) else if o < 293 then kdWall (o - 289) else if o < 295 then (1, 6) else if o = 295 then (1, 12) else kdText ((o - 296) % 8)
def rsC (o k : Nat) : Option Nat := if o = 275 ∧ k = 6 then some 279 else if o = 0 then [1, 137, 273, 274, 275, 287, 289, 293, 294, 295][k]? else if (kdC o).1 = 5 then some (o + 2 + 4 * k) else if (kdC o).1 = 6 then some (296 + 8 * k) else if kdC o = (0, 0) ∧ 9 ≤ k then (if k = 9 then some (o + 10) else some (o + 4 + k)) else some (o + 1 + k)
def LC : gL := (328, kdC, rsC)
def kdM (o : Nat) : Nat × Nat := [(0, 6), (1, 1592), (1, 1592), (1, 2724), (1, 300), (1, 160), (1, 8), (2, 330), (3, 330), (1, 29), (1, 6), (1, 6), (1, 144)].getD o (0, 0)
def rsM (_ k : Nat) : Option Nat := some (if k < 4 then k + 1 else if k = 15 then 5 else if k < 23 then k - 14 else k - 15)
def LM : gL := (13, kdM, rsM)
theorem gfv2 {L : gL} {ad : Nat → Nat} {I : gI} {J : gJ} {o k o' : Nat} (h : L.2.2 o k = some o') : gfv L ad I J o k 2 = .ref (ad o') := by unfold gfv; rw [h]; rfl
theorem gfv3 {L : gL} {ad : Nat → Nat} {I : gI} {J : gJ} {o k z : Nat} (h : L.2.2 o k = some z) : gfv L ad I J o k 3 = .ref (ad (I o k).toNatClampNeg) := by unfold gfv; rw [h]; rfl
theorem gAt_lt {o a b : Nat} (h : gAt LC o a b) : o < 2 ^ 31 := Nat.lt_trans h.1 (by decide)
theorem kWaD : ∀ o, o < 328 → LC.2.1 o = (5, 30) → ∀ j, j < 30 → gAt LC (o + 2 + 4 * j) 0 4 := by
  intro o h1 h2
  have h3 : ∀ o, o < 328 → LC.2.1 o = (5, 30) → o = 15 ∨ o = 151 := by decide +kernel
  have h4 : ∀ j, j < 30 → (17 + 4 * j < 328 ∧ LC.2.1 (17 + 4 * j) = (0, 4)) ∧ (153 + 4 * j < 328 ∧ LC.2.1 (153 + 4 * j) = (0, 4)) := by decide +kernel
  rcases h3 o h1 h2 with rfl | rfl
  · exact fun j hj => (h4 j hj).1
  · exact fun j hj => (h4 j hj).2
theorem kWa {o : Nat} {i : Int32} (h : gAt LC o 5 30) (hi : vp_in i 30) : gAt LC (o + 2 + 4 * i.toNatClampNeg) 0 4 := kWaD o h.1 h.2 _ (Nat.not_le.mp fun q => hi (Or.inr q))
theorem rWa {o : Nat} {i : Int32} (h : gAt LC o 5 30) (_ : vp_in i 30) : LC.2.2 o i.toNatClampNeg = some (o + 2 + 4 * i.toNatClampNeg) := by
  show rsC o _ = _
  have h2 : kdC o = (5, 30) := h.2
  have h0 : o ≠ 0 := fun q => by rw [q] at h2; revert h2; decide
  have h9 : o ≠ 275 := fun q => by rw [q] at h2; revert h2; decide
  unfold rsC
  rw [if_neg (fun q => h9 q.1), if_neg h0, h2, if_pos rfl]
theorem kTa {i : Int32} (hi : vp_in i 4) : gAt LC (296 + 8 * i.toNatClampNeg) 0 3 := by
  have h4 : ∀ j, j < 4 → (296 + 8 * j < 328 ∧ LC.2.1 (296 + 8 * j) = (0, 3)) := by decide +kernel
  exact h4 _ (Nat.not_le.mp fun q => hi (Or.inr q))
theorem rTa (j : Nat) : LC.2.2 273 j = some (296 + 8 * j) := by
  show rsC 273 j = _
  have h2 : kdC 273 = (6, 4) := by decide
  unfold rsC
  rw [if_neg (fun q => absurd q.1 (by decide)), if_neg (by decide), h2, if_neg (by decide), if_pos rfl]
theorem jn0 {α : Type} {f g : α} (e : f = g) {o : α} (h : f = o) : g = o := e ▸ h
theorem jn1 {α β : Type} {f g : α → β} (e : f = g) {a : α} {o : β} (h : f a = o) : g a = o := e ▸ h
theorem jn2 {α β γ : Type} {f g : α → β → γ} (e : f = g) {a : α} {b : β} {o : γ} (h : f a b = o) : g a b = o := e ▸ h
theorem jn3 {α β γ δ : Type} {f g : α → β → γ → δ} (e : f = g) {a : α} {b : β} {c : γ} {o : δ} (h : f a b c = o) : g a b c = o := e ▸ h
theorem jn4 {α β γ δ ε : Type} {f g : α → β → γ → δ → ε} (e : f = g) {a : α} {b : β} {c : γ} {d : δ} {o : ε} (h : f a b c d = o) : g a b c d = o := e ▸ h
theorem jn5 {α β γ δ ε ζ : Type} {f g : α → β → γ → δ → ε → ζ} (e : f = g) {a : α} {b : β} {c : γ} {d : δ} {x : ε} {o : ζ} (h : f a b c d x = o) : g a b c d x = o := e ▸ h
