-- 30: PURE PART: numbers, tests, memories
/-- a whole number from 0 on, below n -/
def inR (x : Int32) (n : Nat) : Prop := ∃ k, k < n ∧ x = nI k
theorem inR_nI {k n : Nat} (h : k < n) : inR (nI k) n := ⟨k, h, rfl⟩
theorem inR_mono {x : Int32} {n m : Nat} (h : inR x n) (hm : n ≤ m) : inR x m := by
  obtain ⟨k, h1, h2⟩ := h
  exact ⟨k, by omega, h2⟩
theorem inR_toInt {x : Int32} {n : Nat} (hn : n ≤ 2 ^ 31) : inR x n ↔ 0 ≤ x.toInt ∧ x.toInt < n := by
  constructor
  · rintro ⟨k, h1, rfl⟩
    rw [nI_toInt (by omega)]
    omega
  · rintro ⟨h1, h2⟩
    refine ⟨x.toInt.toNat, by omega, Int32.toInt_inj.mp ?_⟩
    rw [nI_toInt (by omega)]
    omega
theorem le_toInt {x y : Int32} : x ≤ y ↔ x.toInt ≤ y.toInt := Int32.le_iff_toInt_le
theorem lt_toInt {x y : Int32} : x < y ↔ x.toInt < y.toInt := Int32.lt_iff_toInt_lt
theorem isIn_pos {x lo hi : Int32} {n : Nat} (hn : n < 2 ^ 31) (hlo : lo = 0) (hhi : hi = nI n) (h : inR x (n + 1)) : fX7_isIn x lo hi = 1 := by
  subst hlo; subst hhi
  obtain ⟨k, h1, rfl⟩ := h
  unfold fX7_isIn
  rw [gi_neg (nI_pos (by omega)), gi_neg (nI_nlt (by omega) hn)]
theorem isIn_neg {x lo hi : Int32} {n : Nat} (hn : n < 2 ^ 31 - 1) (hlo : lo = 0) (hhi : hi = nI n) (h : ¬ inR x (n + 1)) : fX7_isIn x lo hi = 0 := by
  subst hlo; subst hhi
  unfold fX7_isIn
  by_cases h1 : x < 0
  · rw [gi_pos h1]
  · rw [gi_neg h1]
    by_cases h2 : nI n < x
    · rw [gi_pos h2]
    · exfalso
      apply h
      rw [inR_toInt (by omega)]
      rw [lt_toInt] at h1 h2
      rw [nI_toInt (by omega)] at h2
      have : (0 : Int32).toInt = 0 := by decide
      omega
theorem within_eq (x lo hi : Int32) : fX6_within x lo hi = fX7_isIn x lo hi := rfl
theorem isIn_01 (x lo hi : Int32) : fX7_isIn x lo hi = 0 ∨ fX7_isIn x lo hi = 1 := by
  unfold fX7_isIn
  by_cases h1 : x < lo
  · rw [gi_pos h1]; exact Or.inl rfl
  · rw [gi_neg h1]
    by_cases h2 : hi < x
    · rw [gi_pos h2]; exact Or.inl rfl
    · rw [gi_neg h2]; exact Or.inr rfl
theorem isSort6_pos {x : Int32} (h : inR x 5) : fX6_isSort x = 1 := by
  obtain ⟨k, h1, rfl⟩ := h
  unfold fX6_isSort
  rw [gi_neg (nI_pos (by omega)), gi_neg (show ¬ (5 : Int32) ≤ nI k from nI_ge (b := 5) h1 (by decide))]
theorem isSort6_neg {x : Int32} (h : ¬ inR x 5) : fX6_isSort x = 0 := by
  unfold fX6_isSort
  by_cases h1 : x < 0
  · rw [gi_pos h1]
  · rw [gi_neg h1]
    by_cases h2 : (5 : Int32) ≤ x
    · rw [gi_pos h2]
    · exfalso
      apply h
      rw [inR_toInt (by decide)]
      rw [lt_toInt] at h1
      rw [le_toInt] at h2
      have e0 : (0 : Int32).toInt = 0 := by decide
      have e5 : (5 : Int32).toInt = 5 := by decide
      omega
theorem isSlice6_pos {x : Int32} (h : inR x 12) : fX6_isSlice x = 1 := by
  obtain ⟨k, h1, rfl⟩ := h
  unfold fX6_isSlice
  rw [gi_neg (nI_pos (by omega)), gi_neg (show ¬ (12 : Int32) ≤ nI k from nI_ge (b := 12) h1 (by decide))]
theorem isSlice6_neg {x : Int32} (h : ¬ inR x 12) : fX6_isSlice x = 0 := by
  unfold fX6_isSlice
  by_cases h1 : x < 0
  · rw [gi_pos h1]
  · rw [gi_neg h1]
    by_cases h2 : (12 : Int32) ≤ x
    · rw [gi_pos h2]
    · exfalso
      apply h
      rw [inR_toInt (by decide)]
      rw [lt_toInt] at h1
      rw [le_toInt] at h2
      have e0 : (0 : Int32).toInt = 0 := by decide
      have e5 : (12 : Int32).toInt = 12 := by decide
      omega
theorem isSort7_pos {x : Int32} (h : inR x 5) : fX7_isSort x = 1 := isIn_pos (n := 4) (by decide) rfl rfl h
theorem isSort7_neg {x : Int32} (h : ¬ inR x 5) : fX7_isSort x = 0 := isIn_neg (n := 4) (by decide) rfl rfl h
theorem isSlice7_pos {x : Int32} (h : inR x 12) : fX7_isSlice x = 1 := isIn_pos (n := 11) (by decide) rfl rfl h
theorem isSlice7_neg {x : Int32} (h : ¬ inR x 12) : fX7_isSlice x = 0 := isIn_neg (n := 11) (by decide) rfl rfl h
theorem one_ne : ¬ (1 : Int32) = 0 := by decide
/-- an index with something ahead of it -/
theorem idx_in {k n N : Nat} {c : Int32} (hc : c = nI n) (h : n + k < N) (hN : N < 2 ^ 31) : vp_in (c + nI k) N := by
  subst hc
  rw [nI_add]
  exact vp_in_nI h hN
theorem idx_cl {k n : Nat} {c : Int32} (hc : c = nI n) (h : n + k < 2 ^ 31) : (c + nI k).toNatClampNeg = n + k := by
  subst hc
  rw [nI_add]
  exact nI_clamp h
theorem wI_ne {I : gI} {o k o' k' : Nat} {v : Int32} (h : ¬ (o' = o ∧ k' = k)) : wI I o k v o' k' = I o' k' := if_neg h
theorem wI_eq {I : gI} {o k : Nat} {v : Int32} : wI I o k v o k = v := if_pos ⟨rfl, rfl⟩
/-! numbers from 0 on: rows for 'simp (disch := omega) only [..]' -/
theorem lit (n : Nat) : (OfNat.ofNat n : Int32) = nI n := rfl
theorem addN (a b : Nat) : nI a + nI b = nI (a + b) := nI_add a b
theorem mulN (a b : Nat) : nI a * nI b = nI (a * b) := pk_mul a b
theorem subN {a b : Nat} (h : b ≤ a) : nI a - nI b = nI (a - b) := pk_sub h
theorem clN {n : Nat} (h : n < 2147483648) : (nI n).toNatClampNeg = n := nI_clamp h
theorem gdN {α : Type} {k N : Nat} {x : Option α} (h : k < N) (hN : N < 2147483648) : gd (vp_in (nI k) N) x = x := gd_pos (vp_in_nI h hN)
theorem ltN {a b : Nat} (ha : a < 2147483648) (hb : b < 2147483648) : (nI a < nI b) = (a < b) := propext (nI_ltI ha hb)
theorem leN {a b : Nat} (ha : a < 2147483648) (hb : b < 2147483648) : (nI a ≤ nI b) = (a ≤ b) := propext (nI_leI ha hb)
theorem eqN {a b : Nat} (ha : a < 2147483648) (hb : b < 2147483648) : (nI a = nI b) = (a = b) := propext (nI_eq ha hb)
theorem divN {a d : Nat} (ha : a < 2147483648) (h0 : 0 < d) (hd : d < 2147483648) : nI a / nI d = nI (a / d) := pk_div ha h0 hd
theorem remN {a d : Nat} (ha : a < 2147483648) (h0 : 0 < d) (hd : d < 2147483648) : jrem (nI a) (nI d) = nI (a % d) := pk_rem ha h0 hd
theorem giT {α : Type} {c : Prop} {a b : α} (h : c) : gi c a b = a := gi_pos h
theorem giF {α : Type} {c : Prop} {a b : α} (h : ¬ c) : gi c a b = b := gi_neg h
theorem lzE {α β : Type} {a : α} {f : α → β} : lz a f = f a := rfl
theorem prE {α β γ : Type} {f : α → β → γ} {a : α} {b : β} : pr f (a, b) = f a b := rfl
theorem bdE {α β : Type} {a : α} {f : α → Option β} : bd (some a) f = f a := rfl
theorem smL {α β γ : Type} {f : α → γ} {g : β → γ} {a : α} : sm f g (.inl a) = f a := rfl
theorem smR {α β γ : Type} {f : α → γ} {g : β → γ} {b : β} : sm f g (.inr b) = g b := rfl
theorem shlC (k : Nat) (hk : k < 32) : ((nI k &&& 31).toBitVec.smod 32).toNat = k := by
  have h : ∀ k, k < 32 → ((nI k &&& 31).toBitVec.smod 32).toNat = k := by decide
  exact h k hk
theorem shlN {a k : Nat} (hk : k < 32) (h : a * 2 ^ k < 4294967296) : jshl (nI a) (nI k) = nI (a * 2 ^ k) := pk_shlN _ k (shlC k hk) h
theorem shrN {a k : Nat} (hk : k < 32) (h : a < 2147483648) : jshr (nI a) (nI k) = nI (a / 2 ^ k) := pk_shrN h _ k (shlC k hk)
theorem andN (a b : Nat) : nI a &&& nI b = nI (a &&& b) := by
  apply Int32.toBitVec_inj.mp
  show BitVec.ofNat 32 a &&& BitVec.ofNat 32 b = BitVec.ofNat 32 (a &&& b)
  apply BitVec.eq_of_getLsbD_eq
  intro i hi
  simp [BitVec.getLsbD_ofNat, Nat.testBit_and]
theorem orN (a b : Nat) : nI a ||| nI b = nI (a ||| b) := by
  apply Int32.toBitVec_inj.mp
  show BitVec.ofNat 32 a ||| BitVec.ofNat 32 b = BitVec.ofNat 32 (a ||| b)
  apply BitVec.eq_of_getLsbD_eq
  intro i hi
  simp [BitVec.getLsbD_ofNat, Nat.testBit_or, hi]
theorem auto_1 {k x : Nat} (hk : k < 5) (hx : x < 10) {I : gI} : fX7_isIn (nI x) 0 9 = nI 1 ∧ gd (vp_in ((29 : Int32) + nI k) 1592) (lz (wI I 1 (((29 : Int32) + nI k)).toNatClampNeg (nI x)) (fun I9 => some ((1 : Int32), I9))) = some (nI 1, wI I 1 (29 + k) (nI x)) := by
  constructor
  · unfold fX7_isIn
    simp (disch := omega) only [lit, addN, clN, gdN, ltN, leN, eqN, giT, giF, lzE]
  · simp (disch := omega) only [lit, addN, clN, gdN, ltN, leN, eqN, giT, giF, lzE]
