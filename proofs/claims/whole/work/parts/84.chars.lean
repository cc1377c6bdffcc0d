-- 84: PURE PART: characters, words, signs (out of gen84.py and pure.py)
/-! some 64-bit rows, from the kit's texts for pasting -/
theorem wb_tb (n : Nat) : (lN n).toBitVec = BitVec.ofNat 64 n := rfl
theorem wb_inj {a b : Int64} (h : a.toBitVec = b.toBitVec) : a = b := Int64.toBitVec_inj.mp h
theorem wb_c : ∀ k, k < 64 → ((nI k).toInt64 &&& 63) = lN k := by decide +kernel
theorem wb_sm : ∀ k, k < 64 → (BitVec.ofNat 64 k).smod 64 = BitVec.ofNat 64 k := by decide +kernel
theorem wb_shl (n : Nat) {k : Nat} (hk : k < 64) : lN n <<< ((nI k).toInt64 &&& 63) = lN (n * 2 ^ k) := by
  rw [wb_c k hk]
  apply wb_inj
  rw [Int64.toBitVec_shiftLeft, wb_tb, wb_tb, wb_tb, wb_sm k hk]
  apply BitVec.eq_of_toNat_eq
  rw [BitVec.shiftLeft_eq', BitVec.toNat_shiftLeft, BitVec.toNat_ofNat, BitVec.toNat_ofNat, BitVec.toNat_ofNat, Nat.mod_eq_of_lt (show k < 2 ^ 64 by omega), Nat.shiftLeft_eq, Nat.mul_mod, Nat.mod_mod, ← Nat.mul_mod]
theorem u_tn {n : Nat} (h : n < 2 ^ 64) : (UInt64.ofNat n).toNat = n := Nat.mod_eq_of_lt h
theorem g_or {k p a b : Nat} (hp : 2 ^ k = p) (ha : a < p) (h : b * p + a < 2 ^ 64) : lN (b * p) ||| lN a = lN (b * p + a) := by
  subst hp
  have h1 : b * 2 ^ k ||| a = b * 2 ^ k + a := by rw [← Nat.shiftLeft_eq, Nat.shiftLeft_add_eq_or_of_lt ha]
  have h3 : UInt64.ofNat (b * 2 ^ k) ||| UInt64.ofNat a = UInt64.ofNat (b * 2 ^ k + a) := UInt64.toNat_inj.mp (by rw [UInt64.toNat_or, u_tn (by omega), u_tn (by omega), u_tn h, h1])
  have h2 := congrArg UInt64.toInt64 h3
  exact h2
theorem pf_lI {a : Nat} (h : a < 2 ^ 63) : (lN a).toInt = (a : Int) := lg_ofNat_toInt h
theorem pf_shr {a d : Nat} {D : Int64} (hD : (D.toBitVec.smod 64).toNat = d) (h : a < 2 ^ 62) : lN a >>> D = lN (a / 2 ^ d) := by
  have hd : a / 2 ^ d ≤ a := Nat.div_le_self _ _
  apply Int64.toInt_inj.mp
  have e : (lN a >>> D).toInt = (lN a).toInt >>> d := by
    rw [← hD]
    exact BitVec.toInt_sshiftRight ..
  rw [e, Int.shiftRight_eq_div_pow, pf_lI (by omega), pf_lI (by omega)]
  rfl

def isLe (c : Nat) : Bool := decide ((65 ≤ c ∧ c ≤ 90) ∨ (97 ≤ c ∧ c ≤ 122))
def isDi (c : Nat) : Bool := decide (48 ≤ c ∧ c ≤ 57)
def isSp (c : Nat) : Bool := decide (c = 32 ∨ c = 10)
theorem isLe_t {c : Nat} : isLe c = true ↔ (65 ≤ c ∧ c ≤ 90) ∨ (97 ≤ c ∧ c ≤ 122) := by unfold isLe; exact decide_eq_true_iff
theorem isDi_t {c : Nat} : isDi c = true ↔ 48 ≤ c ∧ c ≤ 57 := by unfold isDi; exact decide_eq_true_iff
theorem isSp_t {c : Nat} : isSp c = true ↔ c = 32 ∨ c = 10 := by unfold isSp; exact decide_eq_true_iff
theorem bo_f {b : Bool} (h : ¬ b = true) : b = false := by cases b <;> simp at h ⊢
/-- letters, figures: both sides' tests -/
theorem let6 {c : Nat} (hc : c < 256) : fX4_isLetter (nI c) = nI (if isLe c = true then 1 else 0) := by
  unfold fX4_isLetter
  by_cases h1 : c < 65
  · have e : ¬ isLe c = true := fun z => by have := isLe_t.mp z; omega
    rw [if_neg e]
    have h2 : c < 97 := by omega
    simp (disch := (first | assumption | trivial | omega)) only [h1, h2, lit, neg1, oI_s, addN, mulN, subN, clN, gdN, ltN, leN, eqN, nIo, oIn, oI_eq, divN, remN, giT, giF, lzE, prE, bdE, smL, smR, shlN, shrN, hasE, andN, orN, bit1, bit0, max7, min7, giTr, giFa, gdp, litL, i2l, addL, mulL, divL, remL, cmLe, cmGt, cmGe, cmEq, eqL]
  · by_cases h3 : 90 < c
    · by_cases h4 : c < 97
      · have e : ¬ isLe c = true := fun z => by have := isLe_t.mp z; omega
        rw [if_neg e]
        simp (disch := (first | assumption | trivial | omega)) only [h1, h3, h4, lit, neg1, oI_s, addN, mulN, subN, clN, gdN, ltN, leN, eqN, nIo, oIn, oI_eq, divN, remN, giT, giF, lzE, prE, bdE, smL, smR, shlN, shrN, hasE, andN, orN, bit1, bit0, max7, min7, giTr, giFa, gdp, litL, i2l, addL, mulL, divL, remL, cmLe, cmGt, cmGe, cmEq, eqL]
      · by_cases h5 : c ≤ 122
        · rw [if_pos (isLe_t.mpr (by omega))]
          simp (disch := (first | assumption | trivial | omega)) only [h1, h3, h4, h5, lit, neg1, oI_s, addN, mulN, subN, clN, gdN, ltN, leN, eqN, nIo, oIn, oI_eq, divN, remN, giT, giF, lzE, prE, bdE, smL, smR, shlN, shrN, hasE, andN, orN, bit1, bit0, max7, min7, giTr, giFa, gdp, litL, i2l, addL, mulL, divL, remL, cmLe, cmGt, cmGe, cmEq, eqL]
        · have e : ¬ isLe c = true := fun z => by have := isLe_t.mp z; omega
          rw [if_neg e]
          simp (disch := (first | assumption | trivial | omega)) only [h1, h3, h4, h5, lit, neg1, oI_s, addN, mulN, subN, clN, gdN, ltN, leN, eqN, nIo, oIn, oI_eq, divN, remN, giT, giF, lzE, prE, bdE, smL, smR, shlN, shrN, hasE, andN, orN, bit1, bit0, max7, min7, giTr, giFa, gdp, litL, i2l, addL, mulL, divL, remL, cmLe, cmGt, cmGe, cmEq, eqL]
    · have h4 : c < 97 := by omega
      rw [if_pos (isLe_t.mpr (by omega))]
      simp (disch := (first | assumption | trivial | omega)) only [h1, h3, h4, lit, neg1, oI_s, addN, mulN, subN, clN, gdN, ltN, leN, eqN, nIo, oIn, oI_eq, divN, remN, giT, giF, lzE, prE, bdE, smL, smR, shlN, shrN, hasE, andN, orN, bit1, bit0, max7, min7, giTr, giFa, gdp, litL, i2l, addL, mulL, divL, remL, cmLe, cmGt, cmGe, cmEq, eqL]
theorem let7 {c : Nat} (hc : c < 256) : fX7_isLetterByte (nI c) = nI (if isLe c = true then 1 else 0) := let6 hc
theorem let7n : fX7_isLetterByte (oI 0) = nI 0 := by
  unfold fX7_isLetterByte
  rw [lzE, lzE, gi_pos (show oI 0 < (65 : Int32) by decide), gi_pos (show oI 0 < (97 : Int32) by decide)]
  rfl
theorem dig6 {c : Nat} (hc : c < 256) : fX4_isDigit (nI c) = nI (if isDi c = true then 1 else 0) := by
  unfold fX4_isDigit
  by_cases h1 : c < 48
  · have e : ¬ isDi c = true := fun z => by have := isDi_t.mp z; omega
    rw [if_neg e]
    simp (disch := (first | assumption | trivial | omega)) only [h1, lit, neg1, oI_s, addN, mulN, subN, clN, gdN, ltN, leN, eqN, nIo, oIn, oI_eq, divN, remN, giT, giF, lzE, prE, bdE, smL, smR, shlN, shrN, hasE, andN, orN, bit1, bit0, max7, min7, giTr, giFa, gdp, litL, i2l, addL, mulL, divL, remL, cmLe, cmGt, cmGe, cmEq, eqL]
  · by_cases h2 : 57 < c
    · have e : ¬ isDi c = true := fun z => by have := isDi_t.mp z; omega
      rw [if_neg e]
      simp (disch := (first | assumption | trivial | omega)) only [h1, h2, lit, neg1, oI_s, addN, mulN, subN, clN, gdN, ltN, leN, eqN, nIo, oIn, oI_eq, divN, remN, giT, giF, lzE, prE, bdE, smL, smR, shlN, shrN, hasE, andN, orN, bit1, bit0, max7, min7, giTr, giFa, gdp, litL, i2l, addL, mulL, divL, remL, cmLe, cmGt, cmGe, cmEq, eqL]
    · rw [if_pos (isDi_t.mpr (by omega))]
      simp (disch := (first | assumption | trivial | omega)) only [h1, h2, lit, neg1, oI_s, addN, mulN, subN, clN, gdN, ltN, leN, eqN, nIo, oIn, oI_eq, divN, remN, giT, giF, lzE, prE, bdE, smL, smR, shlN, shrN, hasE, andN, orN, bit1, bit0, max7, min7, giTr, giFa, gdp, litL, i2l, addL, mulL, divL, remL, cmLe, cmGt, cmGe, cmEq, eqL]
theorem dig7 {c : Nat} (hc : c < 256) : fX7_isFigure (nI c) = nI (if isDi c = true then 1 else 0) := dig6 hc
theorem dig7n : fX7_isFigure (oI 0) = nI 0 := by
  unfold fX7_isFigure
  rw [gi_pos (show oI 0 < (48 : Int32) by decide)]
  rfl
/-- a run's end -/
def runE (f : Nat → Bool) : Nat → Nat → Nat
  | 0, c => c
  | g + 1, c => if f c = true then runE f g (c + 1) else c
def endE (f : Nat → Bool) (L c : Nat) : Nat := runE f (L - c) c
theorem endE_ge {f : Nat → Bool} {L c : Nat} (h : L ≤ c) : endE f L c = c := by
  unfold endE
  rw [show L - c = 0 by omega]
  rfl
theorem endE_st {f : Nat → Bool} {L c : Nat} (h : f c = false) : endE f L c = c := by
  unfold endE
  cases L - c with
  | zero => rfl
  | succ g =>
    show (if f c = true then _ else c) = c
    rw [h, if_neg (by decide)]
theorem endE_go {f : Nat → Bool} {L c : Nat} (hc : c < L) (h : f c = true) : endE f L c = endE f L (c + 1) := by
  unfold endE
  rw [show L - c = (L - (c + 1)) + 1 by omega]
  show (if f c = true then runE f (L - (c + 1)) (c + 1) else c) = _
  rw [if_pos h]
theorem endE_bd {f : Nat → Bool} {L : Nat} : ∀ g c, L - c < g → c ≤ L → c ≤ endE f L c ∧ endE f L c ≤ L ∧ (∀ j, c ≤ j → j < endE f L c → f j = true) ∧ (endE f L c < L → f (endE f L c) = false) := by
  intro g
  induction g with
  | zero => intro c hg; omega
  | succ g ih =>
    intro c hg hc
    by_cases d : c < L
    · by_cases h : f c = true
      · rw [endE_go d h]
        obtain ⟨a1, a2, a3, a4⟩ := ih (c + 1) (by omega) (by omega)
        refine ⟨by omega, a2, fun j h1 h2 => ?_, a4⟩
        by_cases e : j = c
        · rw [e]; exact h
        · exact a3 j (by omega) h2
      · rw [endE_st (bo_f h)]
        exact ⟨Nat.le_refl _, hc, fun j h1 h2 => by omega, fun _ => bo_f h⟩
    · rw [endE_ge (by omega)]
      exact ⟨Nat.le_refl _, hc, fun j h1 h2 => by omega, fun z => by omega⟩
theorem endE_le {f : Nat → Bool} {L c : Nat} (hc : c ≤ L) : c ≤ endE f L c ∧ endE f L c ≤ L ∧ (∀ j, c ≤ j → j < endE f L c → f j = true) ∧ (endE f L c < L → f (endE f L c) = false) := endE_bd (L - c + 1) c (by omega) hc
/-- what a number of figures comes to -/
def numV (bt : Nat → Nat) : Nat → Nat → Nat → Nat
  | 0, _, a => a
  | g + 1, c, a => if isDi (bt c) = true then numV bt g (c + 1) (min 10000 (a * 10 + (bt c - 48))) else a
/-- the reference's word, a letter more -/
def wstp (z b : Nat) : Nat := if z / 281474976710656 = 0 then z * 256 + b else 1152921504606846976
def wrdV (bt : Nat → Nat) : Nat → Nat → Nat → Nat
  | 0, _, z => z
  | g + 1, c, z => if isLe (bt c) = true then wrdV bt g (c + 1) (wstp z (bt c)) else z
def wseq (bt : Nat → Nat) (p : Nat) : Nat → Nat
  | 0 => 0
  | n + 1 => wstp (wseq bt p n) (bt (p + n))
theorem wrd_seq {bt : Nat → Nat} {L p : Nat} : ∀ g c, L - c < g → p ≤ c → wrdV bt (L - c) c (wseq bt p (c - p)) = wseq bt p (endE (fun j => isLe (bt j)) L c - p) := by
  intro g
  induction g with
  | zero => intro c hg; omega
  | succ g ih =>
    intro c hg hp
    by_cases d : c < L
    · rw [show L - c = (L - (c + 1)) + 1 by omega]
      show (if isLe (bt c) = true then wrdV bt (L - (c + 1)) (c + 1) (wstp (wseq bt p (c - p)) (bt c)) else wseq bt p (c - p)) = _
      by_cases h : isLe (bt c) = true
      · rw [if_pos h, endE_go d h, ← ih (c + 1) (by omega) (by omega), show c + 1 - p = (c - p) + 1 by omega]
        show _ = wrdV bt (L - (c + 1)) (c + 1) (wstp (wseq bt p (c - p)) (bt (p + (c - p))))
        rw [show p + (c - p) = c by omega]
      · rw [if_neg h, endE_st (f := fun j => isLe (bt j)) (bo_f h)]
    · rw [endE_ge (by omega), show L - c = 0 by omega]
      rfl
theorem wstp_s {z b : Nat} (h : z < 281474976710656) : wstp z b = z * 256 + b := if_pos (by omega)
theorem wseq_lt {bt : Nat → Nat} {p : Nat} (hb : ∀ j, bt (p + j) < 256) : ∀ n, wseq bt p n < 2305843009213693952 := by
  intro n
  cases n with
  | zero => show 0 < _; omega
  | succ n =>
    show wstp (wseq bt p n) (bt (p + n)) < _
    have := hb n
    unfold wstp
    by_cases c : wseq bt p n / 281474976710656 = 0
    · rw [if_pos c]; omega
    · rw [if_neg c]; omega
theorem wseq_5 {bt : Nat → Nat} {p : Nat} (b0 : bt p < 256) (b1 : bt (p + 1) < 256) (b2 : bt (p + 2) < 256) (b3 : bt (p + 3) < 256) (b4 : bt (p + 4) < 256) : wseq bt p 1 = bt p ∧ wseq bt p 2 = bt p * 256 + bt (p + 1) ∧ wseq bt p 3 = (bt p * 256 + bt (p + 1)) * 256 + bt (p + 2) ∧ wseq bt p 4 = ((bt p * 256 + bt (p + 1)) * 256 + bt (p + 2)) * 256 + bt (p + 3) ∧ wseq bt p 5 = (((bt p * 256 + bt (p + 1)) * 256 + bt (p + 2)) * 256 + bt (p + 3)) * 256 + bt (p + 4) := by
  have e1 : wseq bt p 1 = bt p := by
    show wstp 0 (bt (p + 0)) = _
    rw [wstp_s (by omega), Nat.add_zero]; omega
  have e2 : wseq bt p 2 = bt p * 256 + bt (p + 1) := by
    show wstp (wseq bt p 1) (bt (p + 1)) = _
    rw [e1, wstp_s (by omega)]
  have e3 : wseq bt p 3 = (bt p * 256 + bt (p + 1)) * 256 + bt (p + 2) := by
    show wstp (wseq bt p 2) (bt (p + 2)) = _
    rw [e2, wstp_s (by omega)]
  have e4 : wseq bt p 4 = ((bt p * 256 + bt (p + 1)) * 256 + bt (p + 2)) * 256 + bt (p + 3) := by
    show wstp (wseq bt p 3) (bt (p + 3)) = _
    rw [e3, wstp_s (by omega)]
  refine ⟨e1, e2, e3, e4, ?_⟩
  show wstp (wseq bt p 4) (bt (p + 4)) = _
  rw [e4, wstp_s (by omega)]
theorem wseq_6 {bt : Nat → Nat} {p : Nat} (hb : ∀ j, bt (p + j) < 256) (h0 : 65 ≤ bt p) : ∀ n, 1099511627776 ≤ wseq bt p (n + 6) := by
  intro n
  induction n with
  | zero =>
    show 1099511627776 ≤ wstp (wseq bt p 5) (bt (p + 5))
    have q0 := hb 0
    have q1 := hb 1
    have q2 := hb 2
    have q3 := hb 3
    have q4 := hb 4
    rw [Nat.add_zero] at q0
    rw [(wseq_5 q0 q1 q2 q3 q4).2.2.2.2, wstp_s (by omega)]
    omega
  | succ n ih =>
    show 1099511627776 ≤ wstp (wseq bt p (n + 6)) (bt (p + (n + 6)))
    unfold wstp
    by_cases c : wseq bt p (n + 6) / 281474976710656 = 0
    · rw [if_pos c]; omega
    · rw [if_neg c]; omega
/-- the words' letters, five each, blanks behind -/
def twl : List Nat := [98, 105, 100, 115, 32, 101, 97, 114, 110, 115, 98, 117, 121, 101, 114, 116, 111, 32, 32, 32, 115, 111, 114, 116, 32, 98, 121, 32, 32, 32, 115, 101, 108, 108, 32, 103, 105, 118, 101, 32, 116, 117, 114, 110, 32, 100, 97, 121, 32, 32, 119, 111, 114, 116, 104, 112, 117, 114, 115, 101, 105, 102, 32, 32, 32, 116, 104, 101, 110, 32, 101, 108, 115, 101, 32, 101, 110, 100, 32, 32, 111, 114, 32, 32, 32, 97, 110, 100, 32, 32, 110, 111, 116, 32, 32, 108, 111, 110, 103, 32, 111, 119, 110, 32, 32, 102, 114, 101, 101, 32, 119, 97, 110, 116, 115, 104, 97, 115, 32, 32]
def tww (k i : Nat) : Nat := twl.getD (5 * k + i) 0
theorem chA {x : Nat} (hx : x < 120) : fJ0_charAt_5068e (nI x) = some (nI (twl.getD x 0)) := by
  have h : ∀ x, x < 120 → ji2c ((tokB.getD x 0) &&& (255 : Int32)) = nI (twl.getD x 0) := by decide +kernel
  unfold fJ0_charAt_5068e
  rw [gdN hx (by omega), clN (by omega), h x hx]
theorem tww_lt : ∀ k, k < 24 → ∀ i, i < 5 → tww k i < 128 := by decide +kernel
def padW (bt : Nat → Nat) (p len i : Nat) : Nat := if i < len then bt (p + i) else 32
/-- which word it is -/
def WRDm (bt : Nat → Nat) (p len k : Nat) : Prop := (k < 24 ∧ len ≤ 5 ∧ ∀ i, i < 5 → padW bt p len i = tww k i) ∨ (k = 39 ∧ (5 < len ∨ ∀ j, j < 24 → ∃ i, i < 5 ∧ ¬ padW bt p len i = tww j i))
theorem wp_1 : ∀ k, k < 24 → (32 < tww k 0 ∧ tww k 1 = 32 ∧ tww k 2 = 32 ∧ tww k 3 = 32 ∧ tww k 4 = 32) → wdn k = tww k 0 := by decide +kernel
theorem wq_1 : ∀ k, k < 24 → 65 ≤ wdn k → wdn k < 256 → tww k 0 = wdn k % 256 ∧ tww k 1 = 32 ∧ tww k 2 = 32 ∧ tww k 3 = 32 ∧ tww k 4 = 32 := by decide +kernel
theorem wp_2 : ∀ k, k < 24 → (32 < tww k 0 ∧ 32 < tww k 1 ∧ tww k 2 = 32 ∧ tww k 3 = 32 ∧ tww k 4 = 32) → wdn k = tww k 0 * 256 + tww k 1 := by decide +kernel
theorem wq_2 : ∀ k, k < 24 → 16640 ≤ wdn k → wdn k < 65536 → tww k 0 = wdn k / 256 % 256 ∧ tww k 1 = wdn k % 256 ∧ tww k 2 = 32 ∧ tww k 3 = 32 ∧ tww k 4 = 32 := by decide +kernel
theorem wp_3 : ∀ k, k < 24 → (32 < tww k 0 ∧ 32 < tww k 1 ∧ 32 < tww k 2 ∧ tww k 3 = 32 ∧ tww k 4 = 32) → wdn k = (tww k 0 * 256 + tww k 1) * 256 + tww k 2 := by decide +kernel
theorem wq_3 : ∀ k, k < 24 → 4259840 ≤ wdn k → wdn k < 16777216 → tww k 0 = wdn k / 65536 % 256 ∧ tww k 1 = wdn k / 256 % 256 ∧ tww k 2 = wdn k % 256 ∧ tww k 3 = 32 ∧ tww k 4 = 32 := by decide +kernel
theorem wp_4 : ∀ k, k < 24 → (32 < tww k 0 ∧ 32 < tww k 1 ∧ 32 < tww k 2 ∧ 32 < tww k 3 ∧ tww k 4 = 32) → wdn k = ((tww k 0 * 256 + tww k 1) * 256 + tww k 2) * 256 + tww k 3 := by decide +kernel
theorem wq_4 : ∀ k, k < 24 → 1090519040 ≤ wdn k → wdn k < 4294967296 → tww k 0 = wdn k / 16777216 % 256 ∧ tww k 1 = wdn k / 65536 % 256 ∧ tww k 2 = wdn k / 256 % 256 ∧ tww k 3 = wdn k % 256 ∧ tww k 4 = 32 := by decide +kernel
theorem wp_5 : ∀ k, k < 24 → (32 < tww k 0 ∧ 32 < tww k 1 ∧ 32 < tww k 2 ∧ 32 < tww k 3 ∧ 32 < tww k 4) → wdn k = (((tww k 0 * 256 + tww k 1) * 256 + tww k 2) * 256 + tww k 3) * 256 + tww k 4 := by decide +kernel
theorem wq_5 : ∀ k, k < 24 → 279172874240 ≤ wdn k → wdn k < 1099511627776 → tww k 0 = wdn k / 4294967296 % 256 ∧ tww k 1 = wdn k / 16777216 % 256 ∧ tww k 2 = wdn k / 65536 % 256 ∧ tww k 3 = wdn k / 256 % 256 ∧ tww k 4 = wdn k % 256 := by decide +kernel
theorem word_ok {bt : Nat → Nat} {p len k : Nat} (h1 : 1 ≤ len) (hb : ∀ j, bt (p + j) < 256) (hl : ∀ j, j < len → 65 ≤ bt (p + j) ∧ bt (p + j) ≤ 122) (h : WRDm bt p len k) : (k < 24 ∧ wseq bt p len = wdn k) ∨ (k = 39 ∧ ∀ j, j < 24 → ¬ wseq bt p len = wdn j) := by
  have q0 := hb 0
  have q1 := hb 1
  have q2 := hb 2
  have q3 := hb 3
  have q4 := hb 4
  rw [Nat.add_zero] at q0
  have l0 := hl 0 (by omega)
  rw [Nat.add_zero] at l0
  obtain ⟨e1, e2, e3, e4, e5⟩ := wseq_5 q0 q1 q2 q3 q4
  by_cases c6 : 5 < len
  · rcases h with ⟨_, z, _⟩ | ⟨hk, _⟩
    · omega
    · refine Or.inr ⟨hk, fun j hj z => ?_⟩
      have a := wseq_6 hb (by omega) (len - 6)
      rw [show len - 6 + 6 = len by omega] at a
      have b := wdn_lt j hj
      omega
  have P : ∀ i, padW bt p len i = if i < len then bt (p + i) else 32 := fun _ => rfl
  have hlen : len = 1 ∨ len = 2 ∨ len = 3 ∨ len = 4 ∨ len = 5 := by omega
  rcases hlen with rfl | rfl | rfl | rfl | rfl
  · have l9 := l0
    have pd : padW bt p 1 0 = bt p ∧ padW bt p 1 1 = 32 ∧ padW bt p 1 2 = 32 ∧ padW bt p 1 3 = 32 ∧ padW bt p 1 4 = 32 := ⟨rfl, rfl, rfl, rfl, rfl⟩
    rw [e1]
    rcases h with ⟨hk, _, hm⟩ | ⟨hk, hm⟩
    · left
      have m0 := hm 0 (by omega)
      have m1 := hm 1 (by omega)
      have m2 := hm 2 (by omega)
      have m3 := hm 3 (by omega)
      have m4 := hm 4 (by omega)
      rw [pd.1] at m0
      rw [pd.2.1] at m1
      rw [pd.2.2.1] at m2
      rw [pd.2.2.2.1] at m3
      rw [pd.2.2.2.2] at m4
      have w := wp_1 k hk ⟨by omega, by omega, by omega, by omega, by omega⟩
      refine ⟨hk, ?_⟩
      rw [w]
      omega
    · right
      refine ⟨hk, fun j hj z => ?_⟩
      rcases hm with y | hm
      · omega
      · obtain ⟨i, i5, hi⟩ := hm j hj
        have w := wq_1 j hj (by omega) (by omega)
        have i5' : i = 0 ∨ i = 1 ∨ i = 2 ∨ i = 3 ∨ i = 4 := by omega
        rcases i5' with rfl | rfl | rfl | rfl | rfl
        · rw [pd.1] at hi; omega
        · rw [pd.2.1] at hi; omega
        · rw [pd.2.2.1] at hi; omega
        · rw [pd.2.2.2.1] at hi; omega
        · rw [pd.2.2.2.2] at hi; omega
  · have l1 := hl 1 (by omega)
    have pd : padW bt p 2 0 = bt p ∧ padW bt p 2 1 = bt (p + 1) ∧ padW bt p 2 2 = 32 ∧ padW bt p 2 3 = 32 ∧ padW bt p 2 4 = 32 := ⟨rfl, rfl, rfl, rfl, rfl⟩
    rw [e2]
    rcases h with ⟨hk, _, hm⟩ | ⟨hk, hm⟩
    · left
      have m0 := hm 0 (by omega)
      have m1 := hm 1 (by omega)
      have m2 := hm 2 (by omega)
      have m3 := hm 3 (by omega)
      have m4 := hm 4 (by omega)
      rw [pd.1] at m0
      rw [pd.2.1] at m1
      rw [pd.2.2.1] at m2
      rw [pd.2.2.2.1] at m3
      rw [pd.2.2.2.2] at m4
      have w := wp_2 k hk ⟨by omega, by omega, by omega, by omega, by omega⟩
      refine ⟨hk, ?_⟩
      rw [w]
      omega
    · right
      refine ⟨hk, fun j hj z => ?_⟩
      rcases hm with y | hm
      · omega
      · obtain ⟨i, i5, hi⟩ := hm j hj
        have w := wq_2 j hj (by omega) (by omega)
        have i5' : i = 0 ∨ i = 1 ∨ i = 2 ∨ i = 3 ∨ i = 4 := by omega
        rcases i5' with rfl | rfl | rfl | rfl | rfl
        · rw [pd.1] at hi; omega
        · rw [pd.2.1] at hi; omega
        · rw [pd.2.2.1] at hi; omega
        · rw [pd.2.2.2.1] at hi; omega
        · rw [pd.2.2.2.2] at hi; omega
  · have l1 := hl 1 (by omega)
    have l2 := hl 2 (by omega)
    have pd : padW bt p 3 0 = bt p ∧ padW bt p 3 1 = bt (p + 1) ∧ padW bt p 3 2 = bt (p + 2) ∧ padW bt p 3 3 = 32 ∧ padW bt p 3 4 = 32 := ⟨rfl, rfl, rfl, rfl, rfl⟩
    rw [e3]
    rcases h with ⟨hk, _, hm⟩ | ⟨hk, hm⟩
    · left
      have m0 := hm 0 (by omega)
      have m1 := hm 1 (by omega)
      have m2 := hm 2 (by omega)
      have m3 := hm 3 (by omega)
      have m4 := hm 4 (by omega)
      rw [pd.1] at m0
      rw [pd.2.1] at m1
      rw [pd.2.2.1] at m2
      rw [pd.2.2.2.1] at m3
      rw [pd.2.2.2.2] at m4
      have w := wp_3 k hk ⟨by omega, by omega, by omega, by omega, by omega⟩
      refine ⟨hk, ?_⟩
      rw [w]
      omega
    · right
      refine ⟨hk, fun j hj z => ?_⟩
      rcases hm with y | hm
      · omega
      · obtain ⟨i, i5, hi⟩ := hm j hj
        have w := wq_3 j hj (by omega) (by omega)
        have i5' : i = 0 ∨ i = 1 ∨ i = 2 ∨ i = 3 ∨ i = 4 := by omega
        rcases i5' with rfl | rfl | rfl | rfl | rfl
        · rw [pd.1] at hi; omega
        · rw [pd.2.1] at hi; omega
        · rw [pd.2.2.1] at hi; omega
        · rw [pd.2.2.2.1] at hi; omega
        · rw [pd.2.2.2.2] at hi; omega
  · have l1 := hl 1 (by omega)
    have l2 := hl 2 (by omega)
    have l3 := hl 3 (by omega)
    have pd : padW bt p 4 0 = bt p ∧ padW bt p 4 1 = bt (p + 1) ∧ padW bt p 4 2 = bt (p + 2) ∧ padW bt p 4 3 = bt (p + 3) ∧ padW bt p 4 4 = 32 := ⟨rfl, rfl, rfl, rfl, rfl⟩
    rw [e4]
    rcases h with ⟨hk, _, hm⟩ | ⟨hk, hm⟩
    · left
      have m0 := hm 0 (by omega)
      have m1 := hm 1 (by omega)
      have m2 := hm 2 (by omega)
      have m3 := hm 3 (by omega)
      have m4 := hm 4 (by omega)
      rw [pd.1] at m0
      rw [pd.2.1] at m1
      rw [pd.2.2.1] at m2
      rw [pd.2.2.2.1] at m3
      rw [pd.2.2.2.2] at m4
      have w := wp_4 k hk ⟨by omega, by omega, by omega, by omega, by omega⟩
      refine ⟨hk, ?_⟩
      rw [w]
      omega
    · right
      refine ⟨hk, fun j hj z => ?_⟩
      rcases hm with y | hm
      · omega
      · obtain ⟨i, i5, hi⟩ := hm j hj
        have w := wq_4 j hj (by omega) (by omega)
        have i5' : i = 0 ∨ i = 1 ∨ i = 2 ∨ i = 3 ∨ i = 4 := by omega
        rcases i5' with rfl | rfl | rfl | rfl | rfl
        · rw [pd.1] at hi; omega
        · rw [pd.2.1] at hi; omega
        · rw [pd.2.2.1] at hi; omega
        · rw [pd.2.2.2.1] at hi; omega
        · rw [pd.2.2.2.2] at hi; omega
  · have l1 := hl 1 (by omega)
    have l2 := hl 2 (by omega)
    have l3 := hl 3 (by omega)
    have l4 := hl 4 (by omega)
    have pd : padW bt p 5 0 = bt p ∧ padW bt p 5 1 = bt (p + 1) ∧ padW bt p 5 2 = bt (p + 2) ∧ padW bt p 5 3 = bt (p + 3) ∧ padW bt p 5 4 = bt (p + 4) := ⟨rfl, rfl, rfl, rfl, rfl⟩
    rw [e5]
    rcases h with ⟨hk, _, hm⟩ | ⟨hk, hm⟩
    · left
      have m0 := hm 0 (by omega)
      have m1 := hm 1 (by omega)
      have m2 := hm 2 (by omega)
      have m3 := hm 3 (by omega)
      have m4 := hm 4 (by omega)
      rw [pd.1] at m0
      rw [pd.2.1] at m1
      rw [pd.2.2.1] at m2
      rw [pd.2.2.2.1] at m3
      rw [pd.2.2.2.2] at m4
      have w := wp_5 k hk ⟨by omega, by omega, by omega, by omega, by omega⟩
      refine ⟨hk, ?_⟩
      rw [w]
      omega
    · right
      refine ⟨hk, fun j hj z => ?_⟩
      rcases hm with y | hm
      · omega
      · obtain ⟨i, i5, hi⟩ := hm j hj
        have w := wq_5 j hj (by omega) (by omega)
        have i5' : i = 0 ∨ i = 1 ∨ i = 2 ∨ i = 3 ∨ i = 4 := by omega
        rcases i5' with rfl | rfl | rfl | rfl | rfl
        · rw [pd.1] at hi; omega
        · rw [pd.2.1] at hi; omega
        · rw [pd.2.2.1] at hi; omega
        · rw [pd.2.2.2.1] at hi; omega
        · rw [pd.2.2.2.2] at hi; omega
/-- a sign's kind -/
noncomputable def sgk (c q : Nat) : Nat :=
  gi (c = 35)
 (30)
 (gi (c = 36)
 (39)
 (gi (c = 37)
 (39)
 (gi (c = 38)
 (39)
 (gi (c = 39)
 (39)
 (gi (c = 40)
 (35)
 (gi (c = 41)
 (36)
 (gi (c = 42)
 (33)
 (gi (c = 43)
 (31)
 (gi (c = 44)
 (39)
 (gi (c = 45)
 (32)
 (gi (c = 46)
 (39)
 (gi (c = 47)
 (34)
 (gi (c = 48)
 (39)
 (gi (c = 49)
 (39)
 (gi (c = 50)
 (39)
 (gi (c = 51)
 (39)
 (gi (c = 52)
 (39)
 (gi (c = 53)
 (39)
 (gi (c = 54)
 (39)
 (gi (c = 55)
 (39)
 (gi (c = 56)
 (39)
 (gi (c = 57)
 (39)
 (gi (c = 58)
 (39)
 (gi (c = 59)
 (37)
 (gi (c = 60)
 (gi (q = 0)
 (27)
 (25))
 (gi (c = 61)
 (29)
 (gi (c = 62)
 (gi (q = 0)
 (28)
 (26))
 (39))))))))))))))))))))))))))))
theorem gi_nI {p : Prop} {a b : Nat} : nI (gi p a b) = gi p (nI a) (nI b) := by
  by_cases c : p
  · rw [gi_pos c, gi_pos c]
  · rw [gi_neg c, gi_neg c]
theorem gi_same {α : Type} {p : Prop} {a : α} : gi p a a = a := by
  by_cases c : p
  · rw [gi_pos c]
  · rw [gi_neg c]
theorem sign6 {c q : Nat} (hc : c < 256) (hq : q < 2) : fX4_ofSign (nI c) (nI q) = nI (sgk c q) := by
  unfold fX4_ofSign sgk
  simp (disch := omega) only [lit, eqN, gi_nI]
/-- the reference's sign: what it takes it for, with q: = behind it -/
noncomputable def sg7 (c q : Nat) : Nat := gi (c = 60) (gi (q = 1) 4 60) (gi (c = 62) (gi (q = 1) 5 62) (gi (fX7_isSign (nI c) = 0) 3 c))
theorem sgn_ok {c q : Nat} (hc : c < 256) (hq : q < 2) : (24 < sgk c q ∧ sgk c q < 38 ∧ sg7 c q = sgn (sgk c q)) ∨ (sgk c q = 39 ∧ (sg7 c q = 3 ∨ sg7 c q = 58)) := by
  have hq2 : q = 1 ∨ q = 0 := by omega
  by_cases c60 : c = 60
  · subst c60
    rcases hq2 with rfl | rfl
    · have e1 : sgk 60 1 = 25 := by unfold sgk; simp only [gi_neg, gi_pos, Nat.reduceEqDiff, not_false_iff, giFa, giTr, Nat.one_ne_zero]
      have e2 : sg7 60 1 = 4 := by unfold sg7; simp only [Nat.reduceEqDiff, giFa, giTr, Nat.zero_ne_one]
      rw [e1, e2]
      left
      decide
    · have e1 : sgk 60 0 = 27 := by unfold sgk; simp only [gi_neg, gi_pos, Nat.reduceEqDiff, not_false_iff, giFa, giTr, Nat.one_ne_zero]
      have e2 : sg7 60 0 = 60 := by unfold sg7; simp only [Nat.reduceEqDiff, giFa, giTr, Nat.zero_ne_one]
      rw [e1, e2]
      left
      decide
  by_cases c62 : c = 62
  · subst c62
    rcases hq2 with rfl | rfl
    · have e1 : sgk 62 1 = 26 := by unfold sgk; simp only [gi_neg, gi_pos, Nat.reduceEqDiff, not_false_iff, giFa, giTr, Nat.one_ne_zero]
      have e2 : sg7 62 1 = 5 := by unfold sg7; simp only [Nat.reduceEqDiff, giFa, giTr, Nat.zero_ne_one]
      rw [e1, e2]
      left
      decide
    · have e1 : sgk 62 0 = 28 := by unfold sgk; simp only [gi_neg, gi_pos, Nat.reduceEqDiff, not_false_iff, giFa, giTr, Nat.one_ne_zero]
      have e2 : sg7 62 0 = 62 := by unfold sg7; simp only [Nat.reduceEqDiff, giFa, giTr, Nat.zero_ne_one]
      rw [e1, e2]
      left
      decide
  by_cases c35 : c = 35
  · subst c35
    have s : fX7_isSign (nI 35) = nI 1 := by unfold fX7_isSign; simp (disch := omega) only [lit, eqN, Nat.reduceEqDiff, giFa, giTr]
    have e1 : sgk 35 q = 30 := by unfold sgk; simp only [Nat.reduceEqDiff, giFa, giTr]
    have e2 : sg7 35 q = 35 := by unfold sg7; rw [s]; simp only [Nat.reduceEqDiff, giFa]; exact gi_neg (by decide)
    rw [e1, e2]
    left
    decide
  by_cases c40 : c = 40
  · subst c40
    have s : fX7_isSign (nI 40) = nI 1 := by unfold fX7_isSign; simp (disch := omega) only [lit, eqN, Nat.reduceEqDiff, giFa, giTr]
    have e1 : sgk 40 q = 35 := by unfold sgk; simp only [Nat.reduceEqDiff, giFa, giTr]
    have e2 : sg7 40 q = 40 := by unfold sg7; rw [s]; simp only [Nat.reduceEqDiff, giFa]; exact gi_neg (by decide)
    rw [e1, e2]
    left
    decide
  by_cases c41 : c = 41
  · subst c41
    have s : fX7_isSign (nI 41) = nI 1 := by unfold fX7_isSign; simp (disch := omega) only [lit, eqN, Nat.reduceEqDiff, giFa, giTr]
    have e1 : sgk 41 q = 36 := by unfold sgk; simp only [Nat.reduceEqDiff, giFa, giTr]
    have e2 : sg7 41 q = 41 := by unfold sg7; rw [s]; simp only [Nat.reduceEqDiff, giFa]; exact gi_neg (by decide)
    rw [e1, e2]
    left
    decide
  by_cases c42 : c = 42
  · subst c42
    have s : fX7_isSign (nI 42) = nI 1 := by unfold fX7_isSign; simp (disch := omega) only [lit, eqN, Nat.reduceEqDiff, giFa, giTr]
    have e1 : sgk 42 q = 33 := by unfold sgk; simp only [Nat.reduceEqDiff, giFa, giTr]
    have e2 : sg7 42 q = 42 := by unfold sg7; rw [s]; simp only [Nat.reduceEqDiff, giFa]; exact gi_neg (by decide)
    rw [e1, e2]
    left
    decide
  by_cases c43 : c = 43
  · subst c43
    have s : fX7_isSign (nI 43) = nI 1 := by unfold fX7_isSign; simp (disch := omega) only [lit, eqN, Nat.reduceEqDiff, giFa, giTr]
    have e1 : sgk 43 q = 31 := by unfold sgk; simp only [Nat.reduceEqDiff, giFa, giTr]
    have e2 : sg7 43 q = 43 := by unfold sg7; rw [s]; simp only [Nat.reduceEqDiff, giFa]; exact gi_neg (by decide)
    rw [e1, e2]
    left
    decide
  by_cases c45 : c = 45
  · subst c45
    have s : fX7_isSign (nI 45) = nI 1 := by unfold fX7_isSign; simp (disch := omega) only [lit, eqN, Nat.reduceEqDiff, giFa, giTr]
    have e1 : sgk 45 q = 32 := by unfold sgk; simp only [Nat.reduceEqDiff, giFa, giTr]
    have e2 : sg7 45 q = 45 := by unfold sg7; rw [s]; simp only [Nat.reduceEqDiff, giFa]; exact gi_neg (by decide)
    rw [e1, e2]
    left
    decide
  by_cases c47 : c = 47
  · subst c47
    have s : fX7_isSign (nI 47) = nI 1 := by unfold fX7_isSign; simp (disch := omega) only [lit, eqN, Nat.reduceEqDiff, giFa, giTr]
    have e1 : sgk 47 q = 34 := by unfold sgk; simp only [Nat.reduceEqDiff, giFa, giTr]
    have e2 : sg7 47 q = 47 := by unfold sg7; rw [s]; simp only [Nat.reduceEqDiff, giFa]; exact gi_neg (by decide)
    rw [e1, e2]
    left
    decide
  by_cases c59 : c = 59
  · subst c59
    have s : fX7_isSign (nI 59) = nI 1 := by unfold fX7_isSign; simp (disch := omega) only [lit, eqN, Nat.reduceEqDiff, giFa, giTr]
    have e1 : sgk 59 q = 37 := by unfold sgk; simp only [Nat.reduceEqDiff, giFa, giTr]
    have e2 : sg7 59 q = 59 := by unfold sg7; rw [s]; simp only [Nat.reduceEqDiff, giFa]; exact gi_neg (by decide)
    rw [e1, e2]
    left
    decide
  by_cases c61 : c = 61
  · subst c61
    have s : fX7_isSign (nI 61) = nI 1 := by unfold fX7_isSign; simp (disch := omega) only [lit, eqN, Nat.reduceEqDiff, giFa, giTr]
    have e1 : sgk 61 q = 29 := by unfold sgk; simp only [Nat.reduceEqDiff, giFa, giTr]
    have e2 : sg7 61 q = 61 := by unfold sg7; rw [s]; simp only [Nat.reduceEqDiff, giFa]; exact gi_neg (by decide)
    rw [e1, e2]
    left
    decide
  right
  by_cases c58 : c = 58
  · subst c58
    have s : fX7_isSign (nI 58) = nI 1 := by unfold fX7_isSign; simp (disch := omega) only [lit, eqN, Nat.reduceEqDiff, giFa, giTr]
    have e1 : sgk 58 q = 39 := by unfold sgk; simp only [Nat.reduceEqDiff, giFa, giTr]
    have e2 : sg7 58 q = 58 := by unfold sg7; rw [s]; simp only [Nat.reduceEqDiff, giFa]; exact gi_neg (by decide)
    rw [e1, e2]
    exact ⟨rfl, Or.inr rfl⟩
  have s : fX7_isSign (nI c) = nI 0 := by unfold fX7_isSign; simp (disch := omega) only [lit, eqN, giF, gi_same]
  have e1 : sgk c q = 39 := by unfold sgk; simp (disch := omega) only [giF, gi_same]
  have e2 : sg7 c q = 3 := by unfold sg7; rw [gi_neg c60, gi_neg c62, s]; exact gi_pos rfl
  exact ⟨e1, Or.inl e2⟩
