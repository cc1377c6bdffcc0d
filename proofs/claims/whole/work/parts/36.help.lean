-- 36: PURE PART: loops in general, bits, what both sides' small methods say (out of wip/whole/pure by pure.py)
theorem giTr {α : Type} {a b : α} : gi True a b = a := gi_pos trivial
theorem giFa {α : Type} {a b : α} : gi False a b = b := gi_neg id
theorem gdp {α : Type} {c : Prop} {x : Option α} (h : c) : gd c x = x := gd_pos h
theorem litL (n : Nat) : (OfNat.ofNat n : Int64) = lN n := rfl
theorem i2l {n : Nat} (h : n < 2147483648) : (nI n).toInt64 = lN n := nI_l h
theorem addL (a b : Nat) : lN a + lN b = lN (a + b) := lN_add a b
theorem mulL (a b : Nat) : lN a * lN b = lN (a * b) := lN_mul a b
theorem divL {a b : Nat} (ha : a < 9223372036854775808) (h0 : 0 < b) (hb : b < 9223372036854775808) : lN a / lN b = lN (a / b) := pk_lDiv ha h0 hb
theorem remL {a b : Nat} (ha : a < 9223372036854775808) (h0 : 0 < b) (hb : b < 9223372036854775808) : jlrem (lN a) (lN b) = lN (a % b) := pk_lRem ha h0 hb
theorem cmLe {a b : Nat} (ha : a < 9223372036854775808) (hb : b < 9223372036854775808) : (lg_cmp (lN a) (lN b) ≤ nI 0) = (a ≤ b) := propext ((lg_cmp_le _ _).trans (pk_lLE ha hb))
theorem cmGt {a b : Nat} (ha : a < 9223372036854775808) (hb : b < 9223372036854775808) : (nI 0 < lg_cmp (lN a) (lN b)) = (b < a) := propext ((lg_cmp_gt _ _).trans (pk_lLT hb ha))
theorem cmGe {a b : Nat} (ha : a < 9223372036854775808) (hb : b < 9223372036854775808) : (nI 0 ≤ lg_cmp (lN a) (lN b)) = (b ≤ a) := propext ((lg_cmp_ge _ _).trans (pk_lLE hb ha))
theorem cmEq {a b : Nat} (ha : a < 9223372036854775808) (hb : b < 9223372036854775808) : (lg_cmp (lN a) (lN b) = nI 0) = (a = b) := propext ((lg_cmp_eq _ _).trans (pk_lEQ ha hb))
theorem eqL {a b : Nat} (ha : a < 9223372036854775808) (hb : b < 9223372036854775808) : (lN a = lN b) = (a = b) := propext (pk_lEQ ha hb)
theorem neg1 : -(nI 1) = oI 0 := rfl
theorem nIo {a b : Nat} (ha : a < 2147483647) (hb : b < 2147483648) : (nI a = oI b) = (a + 1 = b) := by
  rw [← oI_s, oI_eq (by omega) hb]
theorem oIn {a b : Nat} (ha : a < 2147483648) (hb : b < 2147483647) : (oI a = nI b) = (a = b + 1) := by
  rw [← oI_s, oI_eq ha (by omega)]
theorem hasE {a k : Nat} : (nI (a / 2 ^ k &&& 1) = nI 1) = (a.testBit k = true) := by
  rw [Nat.testBit, Nat.shiftRight_eq_div_pow, Nat.and_comm 1, Nat.and_one_is_mod]
  have h2 : a / 2 ^ k % 2 < 2 := Nat.mod_lt _ (by decide)
  rw [eqN (by omega) (by decide)]
  have : a / 2 ^ k % 2 = 0 ∨ a / 2 ^ k % 2 = 1 := by omega
  rcases this with h | h <;> rw [h] <;> decide
theorem bit1 {a k : Nat} (h : a.testBit k = true) : a / 2 ^ k &&& 1 = 1 := by
  rw [Nat.testBit, Nat.shiftRight_eq_div_pow, Nat.and_comm 1, Nat.and_one_is_mod] at h
  rw [Nat.and_one_is_mod]
  have : a / 2 ^ k % 2 = 0 ∨ a / 2 ^ k % 2 = 1 := by omega
  rcases this with e | e
  · rw [e] at h; exact absurd h (by decide)
  · exact e
theorem bit0 {a k : Nat} (h : ¬ a.testBit k = true) : a / 2 ^ k &&& 1 = 0 := by
  rw [Nat.testBit, Nat.shiftRight_eq_div_pow, Nat.and_comm 1, Nat.and_one_is_mod] at h
  rw [Nat.and_one_is_mod]
  have : a / 2 ^ k % 2 = 0 ∨ a / 2 ^ k % 2 = 1 := by omega
  rcases this with e | e
  · exact e
  · rw [e] at h; exact absurd rfl h
theorem max7 {a b : Nat} (ha : a < 2147483648) (hb : b < 2147483648) : jmax (nI a) (nI b) = nI (max a b) := by
  unfold jmax
  by_cases h : a < b
  · rw [if_pos ((nI_ltI ha hb).mpr h), Nat.max_eq_right (by omega)]
  · rw [if_neg (fun x => h ((nI_ltI ha hb).mp x)), Nat.max_eq_left (by omega)]
theorem min7 {a b : Nat} (ha : a < 2147483648) (hb : b < 2147483648) : jmin (nI a) (nI b) = nI (min a b) := by
  unfold jmin
  by_cases h : b < a
  · rw [if_pos ((nI_ltI hb ha).mpr h), Nat.min_eq_right (by omega)]
  · rw [if_neg (fun x => h ((nI_ltI hb ha).mp x)), Nat.min_eq_left (by omega)]
/-- turn after turn -/
def itr {σ : Type} (st : Nat → σ → σ) : Nat → Nat → σ → σ
  | _, 0, a => a
  | k, j + 1, a => itr st (k + 1) j (st k a)
theorem lp_gen {σ ρ : Type} (L : Nat → Nat → σ → Option ρ) (N : Nat) (st : Nat → σ → σ) (out : σ → ρ) (P : Nat → σ → Prop) (h0 : ∀ n a, P N a → L (n + 1) N a = some (out a)) (h1 : ∀ n k a, k < N → P k a → L (n + 1) k a = L n (k + 1) (st k a) ∧ P (k + 1) (st k a)) : ∀ j k a n, k + j = N → P k a → j < n → L n k a = some (out (itr st k j a)) ∧ P N (itr st k j a) := by
  intro j
  induction j with
  | zero =>
    intro k a n hk hp hn
    obtain ⟨m, rfl⟩ : ∃ m, n = m + 1 := ⟨n - 1, by omega⟩
    have : k = N := by omega
    subst this
    exact ⟨h0 m a hp, hp⟩
  | succ j ih =>
    intro k a n hk hp hn
    obtain ⟨m, rfl⟩ : ∃ m, n = m + 1 := ⟨n - 1, by omega⟩
    obtain ⟨e, hp'⟩ := h1 m k a (by omega) hp
    rw [e]
    exact ih (k + 1) (st k a) m (by omega) hp' (by omega)
theorem lp_run {σ ρ : Type} (L : Nat → Nat → σ → Option ρ) (N : Nat) (st : Nat → σ → σ) (out : σ → ρ) (P : Nat → σ → Prop) (a : σ) (hN : N < 4000) (hp : P 0 a) (h0 : ∀ n a, P N a → L (n + 1) N a = some (out a)) (h1 : ∀ n k a, k < N → P k a → L (n + 1) k a = L n (k + 1) (st k a) ∧ P (k + 1) (st k a)) : L FU 0 a = some (out (itr st 0 N a)) ∧ P N (itr st 0 N a) :=
  lp_gen L N st out P h0 h1 N 0 a FU (by omega) hp (by show N < 5000; omega)
/-- the invariant alone -/
theorem itr_P {σ : Type} (st : Nat → σ → σ) (P : Nat → σ → Prop) (N : Nat) (h1 : ∀ k a, k < N → P k a → P (k + 1) (st k a)) : ∀ j k a, k + j = N → P k a → P N (itr st k j a) := by
  intro j
  induction j with
  | zero => intro k a hk hp; have : k = N := by omega
            subst this; exact hp
  | succ j ih => intro k a hk hp; exact ih (k + 1) _ (by omega) (h1 k a (by omega) hp)
/-- a set of bits, one after another -/
noncomputable def bst (p : Nat → Prop) : Nat → Nat → Nat := fun k a => @ite Nat (p k) (Classical.propDecidable _) (a ||| 2 ^ k) a
theorem bst_p {p : Nat → Prop} {k a : Nat} (h : p k) : bst p k a = a ||| 2 ^ k := if_pos h
theorem bst_n {p : Nat → Prop} {k a : Nat} (h : ¬ p k) : bst p k a = a := if_neg h
theorem bst_bit {p : Nat → Prop} {k a i : Nat} : (bst p k a).testBit i = true ↔ a.testBit i = true ∨ (i = k ∧ p k) := by
  by_cases h : p k
  · rw [bst_p h, Nat.testBit_or, Nat.testBit_two_pow]
    simp only [Bool.or_eq_true, decide_eq_true_eq]
    constructor
    · rintro (x | x)
      · exact Or.inl x
      · exact Or.inr ⟨x.symm, h⟩
    · rintro (x | ⟨x, _⟩)
      · exact Or.inl x
      · exact Or.inr x.symm
  · rw [bst_n h]
    exact ⟨Or.inl, fun x => x.elim id (fun x => absurd x.2 h)⟩
theorem bst_bits (p : Nat → Prop) : ∀ j k a i, (itr (bst p) k j a).testBit i = true ↔ a.testBit i = true ∨ (k ≤ i ∧ i < k + j ∧ p i) := by
  intro j
  induction j with
  | zero => intro k a i; exact ⟨Or.inl, fun x => x.elim id (fun x => absurd x.1 (by omega))⟩
  | succ j ih =>
    intro k a i
    show (itr (bst p) (k + 1) j (bst p k a)).testBit i = true ↔ _
    rw [ih, bst_bit]
    constructor
    · rintro ((x | ⟨rfl, x⟩) | ⟨x, y, z⟩)
      · exact Or.inl x
      · exact Or.inr ⟨by omega, by omega, x⟩
      · exact Or.inr ⟨by omega, by omega, z⟩
    · rintro (x | ⟨x, y, z⟩)
      · exact Or.inl (Or.inl x)
      · by_cases h : i = k
        · subst h; exact Or.inl (Or.inr ⟨rfl, z⟩)
        · exact Or.inr ⟨by omega, by omega, z⟩
theorem bst_lt {p : Nat → Prop} {k a n : Nat} (h : a < 2 ^ n) (hk : k < n) : bst p k a < 2 ^ n := by
  by_cases hp : p k
  · rw [bst_p hp]; exact Nat.or_lt_two_pow h (Nat.pow_lt_pow_right (by decide) hk)
  · rw [bst_n hp]; exact h
theorem bits_eq {a b n : Nat} (ha : a < 2 ^ n) (hb : b < 2 ^ n) (h : ∀ i, i < n → (a.testBit i = true ↔ b.testBit i = true)) : a = b := by
  apply Nat.eq_of_testBit_eq
  intro i
  by_cases hi : i < n
  · exact Bool.eq_iff_iff.mpr (h i hi)
  · rw [Nat.testBit_lt_two_pow (Nat.lt_of_lt_of_le ha (Nat.pow_le_pow_right (by decide) (by omega))), Nat.testBit_lt_two_pow (Nat.lt_of_lt_of_le hb (Nat.pow_le_pow_right (by decide) (by omega)))]
theorem bit_z {a n : Nat} (ha : a < 2 ^ n) : a = 0 ↔ ∀ i, i < n → ¬ a.testBit i = true := by
  constructor
  · rintro rfl i _; simp
  · intro h
    exact bits_eq ha (Nat.two_pow_pos n) (fun i hi => by simp [h i hi])
/-- not: what is in a, and not in b -/
def andn (a b : Nat) : Nat := a &&& (4294967295 - b)
theorem notN (b : Nat) (hb : b < 4294967296) : nI b ^^^ -1 = nI (4294967295 - b) := by
  apply Int32.toBitVec_inj.mp
  show BitVec.ofNat 32 b ^^^ (-1 : Int32).toBitVec = BitVec.ofNat 32 (4294967295 - b)
  have e : (-1 : Int32).toBitVec = BitVec.allOnes 32 := by decide
  rw [e, BitVec.xor_allOnes]
  apply BitVec.eq_of_toNat_eq
  rw [BitVec.toNat_not, BitVec.toNat_ofNat, BitVec.toNat_ofNat, Nat.mod_eq_of_lt hb, Nat.mod_eq_of_lt (by omega)]
theorem notN' (b : Nat) (hb : b < 4294967296) : nI b ^^^ oI 0 = nI (4294967295 - b) := notN b hb
theorem andn_bit {a b i : Nat} (hb : b < 4294967296) (hi : i < 32) : (andn a b).testBit i = true ↔ a.testBit i = true ∧ ¬ b.testBit i = true := by
  unfold andn
  have e : 4294967295 - b = 2 ^ 32 - (b + 1) := by omega
  rw [Nat.testBit_and, e, Nat.testBit_two_pow_sub_succ (by omega)]
  simp [hi]
theorem andn_le {a b : Nat} : andn a b ≤ a := Nat.and_le_left
/-- how many bits -/
def pcf : Nat → Nat → Nat
  | 0, _ => 0
  | n + 1, x => if x = 0 then 0 else pcf n (x &&& (x - 1)) + 1
theorem pcf_le : ∀ n x, pcf n x ≤ n := by
  intro n
  induction n with
  | zero => intro x; exact Nat.le_refl 0
  | succ n ih =>
    intro x
    show (if x = 0 then 0 else pcf n (x &&& (x - 1)) + 1) ≤ n + 1
    by_cases h : x = 0
    · rw [if_pos h]; omega
    · rw [if_neg h]; have := ih (x &&& (x - 1)); omega
/-- it comes to none within so many turns -/
def pcz : Nat → Nat → Bool
  | 0, x => x == 0
  | n + 1, x => x == 0 || pcz n (x &&& (x - 1))
theorem all64 {p : Nat → Prop} (h : ∀ a, a < 64 → ∀ b, b < 64 → p (64 * a + b)) : ∀ x, x < 4096 → p x := by
  intro x hx
  have := h (x / 64) (by omega) (x % 64) (by omega)
  rwa [Nat.div_add_mod] at this
theorem pcz_all : ∀ x, x < 4096 → pcz 12 x = true := all64 (by decide +kernel)
def pc (x : Nat) : Nat := pcf 12 x
theorem pc_le (x : Nat) : pc x ≤ 12 := pcf_le 12 x
theorem bits_lp : ∀ k x c n, pcz k x = true → x < 4096 → c + k < 1000 → k < n → fX7_bits_4 n (nI c) (nI x) = some (nI (c + pcf k x)) := by
  intro k
  induction k with
  | zero =>
    intro x c n h hx hc hn
    obtain ⟨m, rfl⟩ : ∃ m, n = m + 1 := ⟨n - 1, by omega⟩
    have : x = 0 := by simpa [pcz] using h
    subst this
    rw [sX7_bits_4, fX7_bits_4b, gi_pos (show nI 0 = (0 : Int32) from rfl)]
    rfl
  | succ k ih =>
    intro x c n h hx hc hn
    obtain ⟨m, rfl⟩ : ∃ m, n = m + 1 := ⟨n - 1, by omega⟩
    by_cases h0 : x = 0
    · subst h0
      rw [sX7_bits_4, fX7_bits_4b, gi_pos (show nI 0 = (0 : Int32) from rfl)]
      rfl
    · have h' : pcz k (x &&& (x - 1)) = true := by
        have : (x == 0 || pcz k (x &&& (x - 1))) = true := h
        simpa [h0] using this
      have hl : x &&& (x - 1) ≤ x := Nat.and_le_left
      have e : pcf (k + 1) x = pcf k (x &&& (x - 1)) + 1 := if_neg h0
      rw [sX7_bits_4, fX7_bits_4b, e]
      simp (disch := (first | assumption | trivial | omega)) only [lit, neg1, oI_s, addN, mulN, subN, clN, gdN, ltN, leN, eqN, nIo, oIn, oI_eq, divN, remN, giT, giF, lzE, prE, bdE, smL, smR, shlN, shrN, hasE, andN, orN, bit1, bit0, max7, min7, giTr, giFa, gdp, litL, i2l, addL, mulL, divL, remL, cmLe, cmGt, cmGe, cmEq, eqL]
      rw [ih _ _ _ h' (by omega) (by omega) (by omega), Nat.add_assoc, Nat.add_comm 1]
theorem bits7 {x : Nat} (hx : x < 4096) : fX7_bits (nI x) = some (nI (pc x)) := by
  unfold fX7_bits
  rw [show (0 : Int32) = nI 0 from rfl, bits_lp 12 x 0 FU (pcz_all x hx) hx (by decide) (by decide), bdE, Nat.zero_add]
  rfl
theorem bitCount6 : ∀ x, x < 4096 → fJ6_bitCount_0f7a4 (nI x) = nI (pc x) := by
  exact all64 (by decide +kernel)
