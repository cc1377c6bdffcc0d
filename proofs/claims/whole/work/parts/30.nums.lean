-- 30: PURE PART: numbers, tests, memories
/-- a whole number from 0 on, below n -/
def inR (x : Int32) (n : Nat) : Prop := ∃ k, k < n ∧ x = nI k
theorem inR_nI {k n : Nat} (h : k < n) : inR (nI k) n := ⟨k, h, rfl⟩
theorem inR_mono {x : Int32} {n m : Nat} (h : inR x n) (hm : n ≤ m) : inR x m := by
  obtain ⟨k, h1, h2⟩ := h
  exact ⟨k, by omega, h2⟩
theorem inR_toInt {x : Int32} {n : Nat} (hn : n ≤ 2 ^ 31) : inR x n ↔ 0 ≤ x.toInt ∧ x.toInt < n := by
  constructor
  · rintro ⟨k, h1, rfl⟩
    rw [nI_toInt (by omega)]
    omega
  · rintro ⟨h1, h2⟩
    refine ⟨x.toInt.toNat, by omega, Int32.toInt_inj.mp ?_⟩
    rw [nI_toInt (by omega)]
    omega
theorem le_toInt {x y : Int32} : x ≤ y ↔ x.toInt ≤ y.toInt := Int32.le_iff_toInt_le
theorem lt_toInt {x y : Int32} : x < y ↔ x.toInt < y.toInt := Int32.lt_iff_toInt_lt
theorem isIn_pos {x lo hi : Int32} {n : Nat} (hn : n < 2 ^ 31) (hlo : lo = 0) (hhi : hi = nI n) (h : inR x (n + 1)) : fX7_isIn x lo hi = 1 := by
  subst hlo; subst hhi
  obtain ⟨k, h1, rfl⟩ := h
  unfold fX7_isIn
  rw [gi_neg (nI_pos (by omega)), gi_neg (nI_nlt (by omega) hn)]
theorem isIn_neg {x lo hi : Int32} {n : Nat} (hn : n < 2 ^ 31 - 1) (hlo : lo = 0) (hhi : hi = nI n) (h : ¬ inR x (n + 1)) : fX7_isIn x lo hi = 0 := by
  subst hlo; subst hhi
  unfold fX7_isIn
  by_cases h1 : x < 0
  · rw [gi_pos h1]
  · rw [gi_neg h1]
    by_cases h2 : nI n < x
    · rw [gi_pos h2]
    · exfalso
      apply h
      rw [inR_toInt (by omega)]
      rw [lt_toInt] at h1 h2
      rw [nI_toInt (by omega)] at h2
      have : (0 : Int32).toInt = 0 := by decide
      omega
theorem within_eq (x lo hi : Int32) : fX6_within x lo hi = fX7_isIn x lo hi := rfl
theorem isIn_01 (x lo hi : Int32) : fX7_isIn x lo hi = 0 ∨ fX7_isIn x lo hi = 1 := by
  unfold fX7_isIn
  by_cases h1 : x < lo
  · rw [gi_pos h1]; exact Or.inl rfl
  · rw [gi_neg h1]
    by_cases h2 : hi < x
    · rw [gi_pos h2]; exact Or.inl rfl
    · rw [gi_neg h2]; exact Or.inr rfl
theorem isSort6_pos {x : Int32} (h : inR x 5) : fX6_isSort x = 1 := by
  obtain ⟨k, h1, rfl⟩ := h
  unfold fX6_isSort
  rw [gi_neg (nI_pos (by omega)), gi_neg (show ¬ (5 : Int32) ≤ nI k from nI_ge (b := 5) h1 (by decide))]
theorem isSort6_neg {x : Int32} (h : ¬ inR x 5) : fX6_isSort x = 0 := by
  unfold fX6_isSort
  by_cases h1 : x < 0
  · rw [gi_pos h1]
  · rw [gi_neg h1]
    by_cases h2 : (5 : Int32) ≤ x
    · rw [gi_pos h2]
    · exfalso
      apply h
      rw [inR_toInt (by decide)]
      rw [lt_toInt] at h1
      rw [le_toInt] at h2
      have e0 : (0 : Int32).toInt = 0 := by decide
      have e5 : (5 : Int32).toInt = 5 := by decide
      omega
theorem isSlice6_pos {x : Int32} (h : inR x 12) : fX6_isSlice x = 1 := by
  obtain ⟨k, h1, rfl⟩ := h
  unfold fX6_isSlice
  rw [gi_neg (nI_pos (by omega)), gi_neg (show ¬ (12 : Int32) ≤ nI k from nI_ge (b := 12) h1 (by decide))]
theorem isSlice6_neg {x : Int32} (h : ¬ inR x 12) : fX6_isSlice x = 0 := by
  unfold fX6_isSlice
  by_cases h1 : x < 0
  · rw [gi_pos h1]
  · rw [gi_neg h1]
    by_cases h2 : (12 : Int32) ≤ x
    · rw [gi_pos h2]
    · exfalso
      apply h
      rw [inR_toInt (by decide)]
      rw [lt_toInt] at h1
      rw [le_toInt] at h2
      have e0 : (0 : Int32).toInt = 0 := by decide
      have e5 : (12 : Int32).toInt = 12 := by decide
      omega
theorem isSort7_pos {x : Int32} (h : inR x 5) : fX7_isSort x = 1 := isIn_pos (n := 4) (by decide) rfl rfl h
theorem isSort7_neg {x : Int32} (h : ¬ inR x 5) : fX7_isSort x = 0 := isIn_neg (n := 4) (by decide) rfl rfl h
theorem isSlice7_pos {x : Int32} (h : inR x 12) : fX7_isSlice x = 1 := isIn_pos (n := 11) (by decide) rfl rfl h
theorem isSlice7_neg {x : Int32} (h : ¬ inR x 12) : fX7_isSlice x = 0 := isIn_neg (n := 11) (by decide) rfl rfl h
theorem one_ne : ¬ (1 : Int32) = 0 := by decide
/-- an index with something ahead of it -/
theorem idx_in {k n N : Nat} {c : Int32} (hc : c = nI n) (h : n + k < N) (hN : N < 2 ^ 31) : vp_in (c + nI k) N := by
  subst hc
  rw [nI_add]
  exact vp_in_nI h hN
theorem idx_cl {k n : Nat} {c : Int32} (hc : c = nI n) (h : n + k < 2 ^ 31) : (c + nI k).toNatClampNeg = n + k := by
  subst hc
  rw [nI_add]
  exact nI_clamp h
theorem wI_ne {I : gI} {o k o' k' : Nat} {v : Int32} (h : ¬ (o' = o ∧ k' = k)) : wI I o k v o' k' = I o' k' := if_neg h
theorem wI_eq {I : gI} {o k : Nat} {v : Int32} : wI I o k v o k = v := if_pos ⟨rfl, rfl⟩
