-- 62: PURE PART: hours that serve all (out of wip/whole/pure by pure.py)
/-- how many bits, and what they are worth, from p on, n of them -/
def cb (u p : Nat) : Nat → Nat
  | 0 => 0
  | n + 1 => cb u p n + if u.testBit (p + n) = true then 1 else 0
def sb (u p : Nat) : Nat → Nat
  | 0 => 0
  | n + 1 => sb u p n + if u.testBit (p + n) = true then 2 ^ (p + n) else 0
theorem cb_add {u p a : Nat} : ∀ b, cb u p (a + b) = cb u p a + cb u (p + a) b := by
  intro b
  induction b with
  | zero => rfl
  | succ b ih =>
    show cb u p (a + b) + (if u.testBit (p + (a + b)) = true then 1 else 0) = cb u p a + (cb u (p + a) b + (if u.testBit (p + a + b) = true then 1 else 0))
    rw [ih, Nat.add_assoc p a b]
    omega
theorem sb_add {u p a : Nat} : ∀ b, sb u p (a + b) = sb u p a + sb u (p + a) b := by
  intro b
  induction b with
  | zero => rfl
  | succ b ih =>
    show sb u p (a + b) + (if u.testBit (p + (a + b)) = true then 2 ^ (p + (a + b)) else 0) = sb u p a + (sb u (p + a) b + (if u.testBit (p + a + b) = true then 2 ^ (p + a + b) else 0))
    rw [ih, Nat.add_assoc p a b]
    omega
theorem cb_some {u p i : Nat} (hi : p ≤ i) (ht : u.testBit i = true) : ∀ n, i < p + n → 1 ≤ cb u p n ∧ 2 ^ p ≤ sb u p n := by
  intro n
  induction n with
  | zero => intro h; omega
  | succ n ih =>
    intro h
    show 1 ≤ cb u p n + (if u.testBit (p + n) = true then 1 else 0) ∧ 2 ^ p ≤ sb u p n + (if u.testBit (p + n) = true then 2 ^ (p + n) else 0)
    by_cases c : i = p + n
    · subst c
      rw [if_pos ht, if_pos ht]
      have : 2 ^ p ≤ 2 ^ (p + n) := Nat.pow_le_pow_right (by decide) (by omega)
      omega
    · have := ih (by omega)
      omega
theorem cb_or {u q : Nat} : ∀ n, cb (u ||| 2 ^ q) 0 n ≤ cb u 0 n + (if q < n then 1 else 0) ∧ sb (u ||| 2 ^ q) 0 n ≤ sb u 0 n + (if q < n then 2 ^ q else 0) := by
  intro n
  induction n with
  | zero => exact ⟨Nat.zero_le _, Nat.zero_le _⟩
  | succ n ih =>
    show cb (u ||| 2 ^ q) 0 n + (if (u ||| 2 ^ q).testBit (0 + n) = true then 1 else 0) ≤ (cb u 0 n + (if u.testBit (0 + n) = true then 1 else 0)) + (if q < n + 1 then 1 else 0) ∧ sb (u ||| 2 ^ q) 0 n + (if (u ||| 2 ^ q).testBit (0 + n) = true then 2 ^ (0 + n) else 0) ≤ (sb u 0 n + (if u.testBit (0 + n) = true then 2 ^ (0 + n) else 0)) + (if q < n + 1 then 2 ^ q else 0)
    rw [Nat.zero_add]
    by_cases c : q < n
    · rw [if_pos c, if_pos c] at ih
      rw [if_pos (show q < n + 1 by omega), if_pos (show q < n + 1 by omega)]
      have : (u ||| 2 ^ q).testBit n = u.testBit n := by
        rw [Bool.eq_iff_iff, or_bit]
        exact ⟨fun z => z.elim id (fun z => absurd z (by omega)), Or.inl⟩
      rw [this]
      omega
    · rw [if_neg c, if_neg c] at ih
      by_cases c2 : q = n
      · subst c2
        rw [if_pos (show q < q + 1 by omega), if_pos (show q < q + 1 by omega)]
        by_cases z : (u ||| 2 ^ q).testBit q = true
        · rw [if_pos z, if_pos z]
          omega
        · rw [if_neg z, if_neg z]
          generalize (2 : Nat) ^ q = w at *
          omega
      · rw [if_neg (show ¬ q < n + 1 by omega), if_neg (show ¬ q < n + 1 by omega)]
        have : (u ||| 2 ^ q).testBit n = u.testBit n := by
          rw [Bool.eq_iff_iff, or_bit]
          exact ⟨fun z => z.elim id (fun z => absurd z (by omega)), Or.inl⟩
        rw [this]
        omega
theorem pc_cb : ∀ x, x < 4096 → pc x = cb x 0 12 := all64 (by decide +kernel)
theorem sb_id : ∀ x, x < 4096 → sb x 0 12 = x := all64 (by decide +kernel)
section ST
variable {S : Nat → Nat → Nat} {IC IM : gI}
/-- u serves all buyers -/
def hit (S : Nat → Nat → Nat) (u : Nat) : Prop := ∀ b, b < S 0 0 → ∃ i, i < 12 ∧ u.testBit i = true ∧ S 4 b ≤ i ∧ i ≤ S 5 b
theorem hit_and (h : sv S IC IM) {u b : Nat} (hb : b < 6) : (sq S b &&& u = 0) ↔ ¬ ∃ i, i < 12 ∧ u.testBit i = true ∧ S 4 b ≤ i ∧ i ≤ S 5 b := by
  have hq := sq_lt h hb
  have hl : sq S b &&& u < 2 ^ 12 := Nat.lt_of_le_of_lt Nat.and_le_left hq
  rw [bit_z hl]
  constructor
  · rintro z ⟨i, hi, ht, h1, h2⟩
    apply z i hi
    rw [Nat.testBit_and, Bool.and_eq_true, sq_bit h hb hi]
    exact ⟨⟨h1, h2⟩, ht⟩
  · intro z i hi ht
    rw [Nat.testBit_and, Bool.and_eq_true, sq_bit h hb hi] at ht
    exact z ⟨i, hi, ht.2, ht.1⟩
theorem sv7 (h : sv S IC IM) {u : Nat} (hu : u < 4096) : (hit S u ∧ fX7_areServed (nI u) IM = some (nI 1)) ∨ (¬ hit S u ∧ fX7_areServed (nI u) IM = some (nI 0)) := by
  have bn := b_nb h
  obtain ⟨r, e, q⟩ := lp_ex (fun n k (_ : Unit) => fX7_areServed_2 n (nI u) (nI k) IM) (S 0 0) (fun k _ => ∀ b, b < k → ∃ i, i < 12 ∧ u.testBit i = true ∧ S 4 b ≤ i ∧ i ≤ S 5 b) (fun r => (r = Sum.inr () ∧ hit S u) ∨ (r = Sum.inl () ∧ ¬ hit S u))
    (fun n a hP => by
      try dsimp only at hP ⊢
      refine ⟨_, ?_, Or.inl ⟨rfl, hP⟩⟩
      rw [sX7_areServed_2, fX7_areServed_2b]
      simp (disch := (first | assumption | trivial | omega)) only [v_nb7 h, lit, neg1, oI_s, addN, mulN, subN, clN, gdN, ltN, leN, eqN, nIo, oIn, oI_eq, divN, remN, giT, giF, lzE, prE, bdE, smL, smR, shlN, shrN, hasE, andN, orN, bit1, bit0, max7, min7, giTr, giFa, gdp, litL, i2l, addL, mulL, divL, remL, cmLe, cmGt, cmGe, cmEq, eqL])
    (fun n b a hb hP => by
      try dsimp only at hP ⊢
      have hb6 : b < 6 := by omega
      have hz := hit_and h (u := u) hb6
      have hq := sq_lt h hb6
      have hl : sq S b &&& u < 4096 := Nat.lt_of_le_of_lt Nat.and_le_left hq
      by_cases c : sq S b &&& u = 0
      · left
        refine ⟨_, ?_, Or.inr ⟨rfl, fun z => hz.mp c (z b hb)⟩⟩
        rw [sX7_areServed_2, fX7_areServed_2b]
        simp (disch := (first | assumption | trivial | omega)) only [v_nb7 h, sl7 h, c, lit, neg1, oI_s, addN, mulN, subN, clN, gdN, ltN, leN, eqN, nIo, oIn, oI_eq, divN, remN, giT, giF, lzE, prE, bdE, smL, smR, shlN, shrN, hasE, andN, orN, bit1, bit0, max7, min7, giTr, giFa, gdp, litL, i2l, addL, mulL, divL, remL, cmLe, cmGt, cmGe, cmEq, eqL]
      · right
        refine ⟨(), ?_, fun d hd => ?_⟩
        · rw [sX7_areServed_2, fX7_areServed_2b]
          simp (disch := (first | assumption | trivial | omega)) only [v_nb7 h, sl7 h, c, lit, neg1, oI_s, addN, mulN, subN, clN, gdN, ltN, leN, eqN, nIo, oIn, oI_eq, divN, remN, giT, giF, lzE, prE, bdE, smL, smR, shlN, shrN, hasE, andN, orN, bit1, bit0, max7, min7, giTr, giFa, gdp, litL, i2l, addL, mulL, divL, remL, cmLe, cmGt, cmGe, cmEq, eqL]
        · by_cases e : d = b
          · subst e
            exact Decidable.byContradiction fun z => c (hz.mpr z)
          · exact hP d (by omega)) (S 0 0) 0 () FU (by omega) (fun b hb => absurd hb (by omega)) (by show _ < 5000; omega)
  have e' : fX7_areServed_2 FU (nI u) 0 IM = some r := e
  unfold fX7_areServed
  rw [e']
  rcases q with ⟨rfl, q⟩ | ⟨rfl, q⟩
  · exact Or.inl ⟨q, rfl⟩
  · exact Or.inr ⟨q, rfl⟩
/-- does a buyer begin at p, unserved from l on? -/
theorem st20 (h : sv S IC IM) {x y : Int32} {l p : Nat} (hl : l < 13) (hp : p < 12) : ∃ r, fX6_stab_20 FU x y (nI l) (nI p) (nI 0) (nI 0) IC = some (nI r) ∧ (r = 0 ∨ r = 1) ∧ (r = 1 ↔ ∃ b, b < S 0 0 ∧ S 4 b = p ∧ S 5 b < l) := by
  have bn := b_nb h
  obtain ⟨v, e, r, rfl, q1, q2⟩ := lp_ex (fun n k (a : Nat) => fX6_stab_20 n x y (nI l) (nI p) (nI a) (nI k) IC) (S 0 0) (fun k a => (a = 0 ∨ a = 1) ∧ (a = 1 ↔ ∃ b, b < k ∧ S 4 b = p ∧ S 5 b < l)) (fun v => ∃ r, v = nI r ∧ (r = 0 ∨ r = 1) ∧ (r = 1 ↔ ∃ b, b < S 0 0 ∧ S 4 b = p ∧ S 5 b < l))
    (fun n a hP => by
      try dsimp only at hP ⊢
      refine ⟨nI a, ?_, a, rfl, hP⟩
      rw [sX6_stab_20, fX6_stab_20b]
      simp (disch := (first | assumption | trivial | omega)) only [v_nb6 h, lit, neg1, oI_s, addN, mulN, subN, clN, gdN, ltN, leN, eqN, nIo, oIn, oI_eq, divN, remN, giT, giF, lzE, prE, bdE, smL, smR, shlN, shrN, hasE, andN, orN, bit1, bit0, max7, min7, giTr, giFa, gdp, litL, i2l, addL, mulL, divL, remL, cmLe, cmGt, cmGe, cmEq, eqL])
    (fun n b a hb hP => by
      try dsimp only at hP ⊢
      right
      obtain ⟨p1, p2⟩ := hP
      have hb6 : b < 6 := by omega
      have bb := b_bu h hb6
      by_cases c : S 4 b = p ∧ S 5 b < l
      · refine ⟨1, ?_, Or.inr rfl, ⟨fun _ => ⟨b, by omega, c⟩, fun _ => rfl⟩⟩
        have c2 : ¬ l ≤ S 5 b := by omega
        rw [sX6_stab_20, fX6_stab_20b]
        rcases p1 with rfl | rfl
        · simp (disch := (first | assumption | trivial | omega)) only [v_nb6 h, v_fr6 h, v_to6 h, c.1, c2, Nat.zero_or, lit, neg1, oI_s, addN, mulN, subN, clN, gdN, ltN, leN, eqN, nIo, oIn, oI_eq, divN, remN, giT, giF, lzE, prE, bdE, smL, smR, shlN, shrN, hasE, andN, orN, bit1, bit0, max7, min7, giTr, giFa, gdp, litL, i2l, addL, mulL, divL, remL, cmLe, cmGt, cmGe, cmEq, eqL]
        · simp (disch := (first | assumption | trivial | omega)) only [v_nb6 h, v_fr6 h, v_to6 h, c.1, c2, Nat.or_self, lit, neg1, oI_s, addN, mulN, subN, clN, gdN, ltN, leN, eqN, nIo, oIn, oI_eq, divN, remN, giT, giF, lzE, prE, bdE, smL, smR, shlN, shrN, hasE, andN, orN, bit1, bit0, max7, min7, giTr, giFa, gdp, litL, i2l, addL, mulL, divL, remL, cmLe, cmGt, cmGe, cmEq, eqL]
      · refine ⟨a, ?_, p1, ?_⟩
        · rw [sX6_stab_20, fX6_stab_20b]
          by_cases c1 : S 4 b = p
          · have c2 : l ≤ S 5 b := by omega
            simp (disch := (first | assumption | trivial | omega)) only [v_nb6 h, v_fr6 h, v_to6 h, c1, c2, Nat.or_zero, lit, neg1, oI_s, addN, mulN, subN, clN, gdN, ltN, leN, eqN, nIo, oIn, oI_eq, divN, remN, giT, giF, lzE, prE, bdE, smL, smR, shlN, shrN, hasE, andN, orN, bit1, bit0, max7, min7, giTr, giFa, gdp, litL, i2l, addL, mulL, divL, remL, cmLe, cmGt, cmGe, cmEq, eqL]
          · simp (disch := (first | assumption | trivial | omega)) only [v_nb6 h, v_fr6 h, c1, Nat.or_zero, lit, neg1, oI_s, addN, mulN, subN, clN, gdN, ltN, leN, eqN, nIo, oIn, oI_eq, divN, remN, giT, giF, lzE, prE, bdE, smL, smR, shlN, shrN, hasE, andN, orN, bit1, bit0, max7, min7, giTr, giFa, gdp, litL, i2l, addL, mulL, divL, remL, cmLe, cmGt, cmGe, cmEq, eqL]
        · rw [p2]
          constructor
          · rintro ⟨d, d1, d2⟩
            exact ⟨d, by omega, d2⟩
          · rintro ⟨d, d1, d2⟩
            by_cases e : d = b
            · subst e; exact absurd d2 c
            · exact ⟨d, by omega, d2⟩) (S 0 0) 0 0 FU (by omega) ⟨Or.inl rfl, ⟨fun q => absurd q (by decide), fun ⟨b, hb, _⟩ => absurd hb (by omega)⟩⟩ (by show _ < 5000; omega)
  exact ⟨r, e, q1, q2⟩
theorem st6 (h : sv S IC IM) (x : Int32) : ∃ G, G < 4096 ∧ fX6_stab_9 FU x 0 12 11 IC = some (nI G) ∧ hit S G ∧ ∀ u, u < 4096 → hit S u → pc G ≤ pc u ∧ (pc u = pc G → G ≤ u) := by
  have bn := b_nb h
  obtain ⟨v, e, G, rfl, g1, g2, g3⟩ := lp_ex (fun n k (a : Nat × Nat) => fX6_stab_9 n x (nI a.1) (nI a.2) (oI (12 - k)) IC) 12
    (fun k a => a.1 < 4096 ∧ a.2 ≤ 12 ∧ 12 - k ≤ a.2 ∧ (a.2 = 12 ∨ a.1.testBit a.2 = true) ∧ (∀ b, b < S 0 0 → 12 - k ≤ S 4 b → ∃ i, i < 12 ∧ a.1.testBit i = true ∧ S 4 b ≤ i ∧ i ≤ S 5 b) ∧ ∀ u, hit S u → cb a.1 0 12 ≤ cb u a.2 (12 - a.2) ∧ (cb u a.2 (12 - a.2) = cb a.1 0 12 → a.1 ≤ sb u a.2 (12 - a.2)))
    (fun v => ∃ G, v = nI G ∧ G < 4096 ∧ hit S G ∧ ∀ u, u < 4096 → hit S u → pc G ≤ pc u ∧ (pc u = pc G → G ≤ u))
    (fun n a hP => by
      obtain ⟨G, l⟩ := a
      try dsimp only at hP ⊢
      obtain ⟨p1, p2, p3, p4, p5, p6⟩ := hP
      refine ⟨nI G, ?_, G, rfl, p1, fun b hb => p5 b hb (by omega), fun u hu hh => ?_⟩
      · rw [Nat.sub_self, sX6_stab_9, fX6_stab_9b, gi_pos (show oI 0 < 0 by decide)]
      · obtain ⟨z1, z2⟩ := p6 u hh
        have s1 := cb_add (u := u) (p := 0) (a := l) (12 - l)
        have s2 := sb_add (u := u) (p := 0) (a := l) (12 - l)
        rw [show l + (12 - l) = 12 by omega, Nat.zero_add] at s1 s2
        rw [sb_id u hu] at s2
        rw [pc_cb u hu, pc_cb G p1]
        refine ⟨by omega, fun q => ?_⟩
        have := z2 (by omega)
        omega)
    (fun n k a hk hP => by
      obtain ⟨G, l⟩ := a
      try dsimp only at hP ⊢
      right
      obtain ⟨p1, p2, p3, p4, p5, p6⟩ := hP
      obtain ⟨p, hp⟩ : ∃ p, 12 - k = p + 1 := ⟨11 - k, by omega⟩
      have hp2 : 12 - (k + 1) = p := by omega
      have hp12 : p < 12 := by omega
      rw [hp] at p3 p5
      rw [hp, hp2, oI_s]
      obtain ⟨r, e20, q1, q2⟩ := st20 h (x := x) (y := nI G) (l := l) (p := p) (by omega) hp12
      have p2p := p2lt hp12
      have hor : G ||| 2 ^ p < 4096 := Nat.or_lt_two_pow (n := 12) p1 p2p
      rcases q1 with rfl | rfl
      · refine ⟨(G, l), ?_, p1, p2, by omega, p4, fun b hb hq => ?_, p6⟩
        · rw [sX6_stab_9, fX6_stab_9b]
          simp (disch := (first | assumption | trivial | omega)) only [e20, decO, lit, neg1, oI_s, addN, mulN, subN, clN, gdN, ltN, leN, eqN, nIo, oIn, oI_eq, divN, remN, giT, giF, lzE, prE, bdE, smL, smR, shlN, shrN, hasE, andN, orN, bit1, bit0, max7, min7, giTr, giFa, gdp, litL, i2l, addL, mulL, divL, remL, cmLe, cmGt, cmGe, cmEq, eqL]
        · by_cases c : p + 1 ≤ S 4 b
          · exact p5 b hb c
          · have hb6 : b < 6 := by omega
            have bb := b_bu h hb6
            have hl : l ≤ S 5 b := by
              apply Decidable.byContradiction
              intro z
              have := q2.mpr ⟨b, hb, by omega, by omega⟩
              exact absurd this (by decide)
            rcases p4 with p4 | p4
            · omega
            · exact ⟨l, by omega, p4, by omega, hl⟩
      · obtain ⟨b0, hb0, f0, t0⟩ := q2.mp rfl
        refine ⟨(G ||| 2 ^ p, p), ?_, hor, by omega, Nat.le_refl _, Or.inr (or_bit.mpr (Or.inr rfl)), fun b hb hq => ?_, fun u hh => ?_⟩
        · rw [sX6_stab_9, fX6_stab_9b]
          simp (disch := (first | assumption | trivial | omega)) only [e20, decO, Nat.one_mul, lit, neg1, oI_s, addN, mulN, subN, clN, gdN, ltN, leN, eqN, nIo, oIn, oI_eq, divN, remN, giT, giF, lzE, prE, bdE, smL, smR, shlN, shrN, hasE, andN, orN, bit1, bit0, max7, min7, giTr, giFa, gdp, litL, i2l, addL, mulL, divL, remL, cmLe, cmGt, cmGe, cmEq, eqL]
        · have hb6 : b < 6 := by omega
          have bb := b_bu h hb6
          by_cases c : p + 1 ≤ S 4 b
          · obtain ⟨i, i1, i2, i3⟩ := p5 b hb c
            exact ⟨i, i1, or_bit.mpr (Or.inl i2), i3⟩
          · exact ⟨p, hp12, or_bit.mpr (Or.inr rfl), by omega, by omega⟩
        · obtain ⟨i, i1, i2, i3, i4⟩ := hh b0 hb0
          obtain ⟨z1, z2⟩ := p6 u hh
          obtain ⟨w1, w2⟩ := cb_some (p := p) (i := i) (u := u) (by omega) i2 (l - p) (by omega)
          have s1 := cb_add (u := u) (p := p) (a := l - p) (12 - l)
          have s2 := sb_add (u := u) (p := p) (a := l - p) (12 - l)
          rw [show l - p + (12 - l) = 12 - p by omega, show p + (l - p) = l by omega] at s1 s2
          obtain ⟨o1, o2⟩ := cb_or (u := G) (q := p) 12
          rw [if_pos hp12] at o1 o2
          rw [sb_id _ hor, sb_id _ p1] at o2
          show cb (G ||| 2 ^ p) 0 12 ≤ cb u p (12 - p) ∧ (cb u p (12 - p) = cb (G ||| 2 ^ p) 0 12 → G ||| 2 ^ p ≤ sb u p (12 - p))
          refine ⟨by omega, fun q => ?_⟩
          have := z2 (by omega)
          omega) 12 0 (0, 12) FU rfl ⟨(by decide : 0 < 4096), Nat.le_refl _, Nat.le_refl _, Or.inl rfl, fun b hb hq => absurd (b_bu h (show b < 6 by omega)) (fun z => by omega), fun u _ => ⟨Nat.le_refl _, fun _ => Nat.le_refl _⟩⟩ (by show _ < 5000; omega)
  exact ⟨G, g1, e, g2, g3⟩
theorem st7 (h : sv S IC IM) (x : Int32) : ∃ R, R < 4096 ∧ fX7_stab_8 FU x 4095 4095 IM = some (nI R) ∧ hit S R ∧ ∀ u, u < 4096 → hit S u → pc R ≤ pc u ∧ (pc u = pc R → R ≤ u) := by
  have bn := b_nb h
  obtain ⟨v, e, R, rfl, g1, g2, g3⟩ := lp_ex (fun n k (a : Nat) => fX7_stab_8 n x (nI a) (oI (4096 - k)) IM) 4096
    (fun k a => a < 4096 ∧ hit S a ∧ ∀ u, 4096 - k ≤ u → u < 4096 → hit S u → pc a ≤ pc u ∧ (pc u = pc a → a ≤ u))
    (fun v => ∃ R, v = nI R ∧ R < 4096 ∧ hit S R ∧ ∀ u, u < 4096 → hit S u → pc R ≤ pc u ∧ (pc u = pc R → R ≤ u))
    (fun n a hP => by
      try dsimp only at hP ⊢
      refine ⟨nI a, ?_, a, rfl, hP.1, hP.2.1, fun u hu hh => hP.2.2 u (by omega) hu hh⟩
      rw [Nat.sub_self, sX7_stab_8, fX7_stab_8b, gi_pos (show oI 0 < 0 by decide)])
    (fun n k a hk hP => by
      try dsimp only at hP ⊢
      right
      obtain ⟨p1, p2, p3⟩ := hP
      obtain ⟨p, hp⟩ : ∃ p, 4096 - k = p + 1 := ⟨4095 - k, by omega⟩
      have hp2 : 4096 - (k + 1) = p := by omega
      have hp12 : p < 4096 := by omega
      rw [hp] at p3
      rw [hp, hp2, oI_s]
      have c1 := bits7 hp12
      have c2 := bits7 p1
      have l1 := pc_le p
      have l2 := pc_le a
      by_cases c : pc a < pc p
      · refine ⟨a, ?_, p1, p2, fun u h1 h2 hh => ?_⟩
        · rw [sX7_stab_8, fX7_stab_8b]
          simp (disch := (first | assumption | trivial | omega)) only [c1, c2, c, decO, lit, neg1, oI_s, addN, mulN, subN, clN, gdN, ltN, leN, eqN, nIo, oIn, oI_eq, divN, remN, giT, giF, lzE, prE, bdE, smL, smR, shlN, shrN, hasE, andN, orN, bit1, bit0, max7, min7, giTr, giFa, gdp, litL, i2l, addL, mulL, divL, remL, cmLe, cmGt, cmGe, cmEq, eqL]
        · by_cases e : u = p
          · subst e; exact ⟨by omega, fun z => by omega⟩
          · exact p3 u (by omega) h2 hh
      · rcases sv7 h hp12 with ⟨d, d7⟩ | ⟨d, d7⟩
        · refine ⟨p, ?_, hp12, d, fun u h1 h2 hh => ?_⟩
          · rw [sX7_stab_8, fX7_stab_8b]
            simp (disch := (first | assumption | trivial | omega)) only [c1, c2, c, d7, decO, lit, neg1, oI_s, addN, mulN, subN, clN, gdN, ltN, leN, eqN, nIo, oIn, oI_eq, divN, remN, giT, giF, lzE, prE, bdE, smL, smR, shlN, shrN, hasE, andN, orN, bit1, bit0, max7, min7, giTr, giFa, gdp, litL, i2l, addL, mulL, divL, remL, cmLe, cmGt, cmGe, cmEq, eqL]
          · by_cases e : u = p
            · subst e; exact ⟨Nat.le_refl _, fun _ => Nat.le_refl _⟩
            · have := p3 u (by omega) h2 hh
              exact ⟨by omega, fun _ => by omega⟩
        · refine ⟨a, ?_, p1, p2, fun u h1 h2 hh => ?_⟩
          · rw [sX7_stab_8, fX7_stab_8b]
            simp (disch := (first | assumption | trivial | omega)) only [c1, c2, c, d7, decO, lit, neg1, oI_s, addN, mulN, subN, clN, gdN, ltN, leN, eqN, nIo, oIn, oI_eq, divN, remN, giT, giF, lzE, prE, bdE, smL, smR, shlN, shrN, hasE, andN, orN, bit1, bit0, max7, min7, giTr, giFa, gdp, litL, i2l, addL, mulL, divL, remL, cmLe, cmGt, cmGe, cmEq, eqL]
          · by_cases e : u = p
            · subst e; exact absurd hh d
            · exact p3 u (by omega) h2 hh) 4096 0 4095 FU rfl ⟨by decide, fun b hb => ⟨S 4 b, by have := b_bu h (show b < 6 by omega); omega, all12 _ (by have := b_bu h (show b < 6 by omega); omega), Nat.le_refl _, by have := b_bu h (show b < 6 by omega); omega⟩, fun u h1 h2 _ => absurd h1 (by omega)⟩ (by show _ < 5000; omega)
  exact ⟨R, g1, e, g2, g3⟩
end ST
theorem case_33 : st_33 V0 := by
  intro a1 IC IM JM hV
  obtain ⟨S, h⟩ := view hV
  obtain ⟨G, g1, e6, g2, g3⟩ := st6 h (bz a1)
  obtain ⟨R, r1, e7, r2, r3⟩ := st7 h (bz a1)
  obtain ⟨x1, x2⟩ := g3 R r1 r2
  obtain ⟨y1, y2⟩ := r3 G g1 g2
  have hR : R = G := by
    have h1 := x2 (by omega)
    have h2 := y2 (by omega)
    omega
  subst hR
  have hb := bits7 r1
  have hc := bitCount6 R r1
  rcases bz_01 a1 with z | z
  · refine ⟨nI R, ?_, ?_, hV⟩
    · unfold fX6_stab
      rw [e6, bdE, z, gi_pos (show nI 0 = (0 : Int32) from rfl)]
    · unfold fX7_stab
      rw [e7, bdE, z, gi_pos (show nI 0 = (0 : Int32) from rfl)]
  · refine ⟨nI (pc R), ?_, ?_, hV⟩
    · unfold fX6_stab
      rw [e6, bdE, z, gi_neg (c := nI 1 = (0 : Int32)) one_ne, hc]
    · unfold fX7_stab
      rw [e7, bdE, z, gi_neg (c := nI 1 = (0 : Int32)) one_ne, hb]
      rfl
