-- 63: PURE PART: dawns for each (out of wip/whole/pure by pure.py)
section FFS
variable (d : Nat → Nat) (q : Nat)
/-- the first dawn that is free -/
def ffr : Nat → Nat → Nat
  | 0, j => j
  | n + 1, j => if d j &&& q = 0 then j else ffr n (j + 1)
def ff : Nat := ffr d q 6 0
def plc : Nat → Nat := fun i => if i = ff d q then d i ||| q else d i
end FFS
theorem ffr_ok {d : Nat → Nat} {q : Nat} : ∀ n j, (∃ c, j ≤ c ∧ c < j + n ∧ d c &&& q = 0) → j ≤ ffr d q n j ∧ ffr d q n j < j + n ∧ d (ffr d q n j) &&& q = 0 ∧ ∀ i, j ≤ i → i < ffr d q n j → ¬ d i &&& q = 0 := by
  intro n
  induction n with
  | zero => rintro j ⟨c, c1, c2, _⟩; omega
  | succ n ih =>
    rintro j ⟨c, c1, c2, c3⟩
    by_cases z : d j &&& q = 0
    · have e : ffr d q (n + 1) j = j := if_pos z
      rw [e]
      exact ⟨Nat.le_refl _, by omega, z, fun i a b => by omega⟩
    · have e : ffr d q (n + 1) j = ffr d q n (j + 1) := if_neg z
      rw [e]
      have hc : j ≠ c := fun w => z (by rw [w]; exact c3)
      obtain ⟨a1, a2, a3, a4⟩ := ih (j + 1) ⟨c, by omega, by omega, c3⟩
      refine ⟨by omega, by omega, a3, fun i b1 b2 => ?_⟩
      by_cases w : i = j
      · subst w; exact z
      · exact a4 i (by omega) b2
theorem ff_ok {d : Nat → Nat} {q c : Nat} (hc : c < 6) (h0 : d c = 0) : ff d q ≤ c ∧ d (ff d q) &&& q = 0 ∧ ∀ i, i < ff d q → ¬ d i &&& q = 0 := by
  have hz : d c &&& q = 0 := by rw [h0, Nat.zero_and]
  obtain ⟨a1, a2, a3, a4⟩ := ffr_ok (d := d) (q := q) 6 0 ⟨c, Nat.zero_le _, by omega, hz⟩
  refine ⟨?_, a3, fun i hi => a4 i (Nat.zero_le _) hi⟩
  apply Decidable.byContradiction
  intro z
  exact a4 c (Nat.zero_le _) (by unfold ff at z; omega) hz
theorem ff_u {d : Nat → Nat} {q c k : Nat} (hc : c < 6) (h0 : d c = 0) (hk : d k &&& q = 0) (hb : ∀ i, i < k → ¬ d i &&& q = 0) : ff d q = k := by
  obtain ⟨_, a, b⟩ := ff_ok (d := d) (q := q) hc h0
  have h1 : ¬ ff d q < k := fun z => hb _ z a
  have h2 : ¬ k < ff d q := fun z => b _ z hk
  omega
/-- an hour's buyers, one after another -/
def rw1 (S : Nat → Nat → Nat) (h : Nat) (d : Nat → Nat) : Nat → Nat → Nat
  | 0 => d
  | k + 1 => if S 4 k = h then plc (rw1 S h d k) (sq S k) else rw1 S h d k
def dd1 (S : Nat → Nat → Nat) : Nat → Nat → Nat
  | 0 => fun _ => 0
  | h + 1 => rw1 S h (dd1 S h) (S 0 0)
theorem rw_p {S : Nat → Nat → Nat} {h k : Nat} {d : Nat → Nat} (c : S 4 k = h) : rw1 S h d (k + 1) = plc (rw1 S h d k) (sq S k) := if_pos c
theorem rw_n {S : Nat → Nat → Nat} {h k : Nat} {d : Nat → Nat} (c : ¬ S 4 k = h) : rw1 S h d (k + 1) = rw1 S h d k := if_neg c
/-- already placed -/
def pl1 (S : Nat → Nat → Nat) (h k : Nat) (b : Nat) : Prop := S 4 b < h ∨ (S 4 b = h ∧ b < k)
theorem ct_ext {B B' : Nat → Prop} : ∀ n, (∀ b, b < n → (B b ↔ B' b)) → ct B n = ct B' n := by
  intro n
  induction n with
  | zero => intro _; rfl
  | succ n ih =>
    intro h
    have e := ih (fun b hb => h b (by omega))
    by_cases c : B n
    · rw [ct_p c, ct_p ((h n (by omega)).mp c), e]
    · rw [ct_n c, ct_n (fun z => c ((h n (by omega)).mpr z)), e]
theorem ct_add {B B' : Nat → Prop} {k : Nat} (h1 : ¬ B k) (h2 : B' k) : ∀ n, k < n → (∀ b, b < n → b ≠ k → (B b ↔ B' b)) → ct B' n = ct B n + 1 := by
  intro n
  induction n with
  | zero => intro h; omega
  | succ n ih =>
    intro hk h
    by_cases c : k = n
    · subst c
      rw [ct_n h1, ct_p h2, ct_ext k (fun b hb => h b (by omega) (by omega))]
    · have e := ih (by omega) (fun b hb hbk => h b (by omega) hbk)
      have hn := h n (by omega) (fun z => c z.symm)
      by_cases cb : B n
      · rw [ct_p cb, ct_p (hn.mp cb), e]
      · rw [ct_n cb, ct_n (fun z => cb (hn.mpr z)), e]
theorem ct_lt {B : Nat → Prop} {k : Nat} (h1 : ¬ B k) : ∀ n, k < n → ct B n < n := by
  intro n
  induction n with
  | zero => intro h; omega
  | succ n ih =>
    intro hk
    by_cases c : k = n
    · subst c
      rw [ct_n h1]
      have := ct_le (B := B) k
      omega
    · have e := ih (by omega)
      by_cases cb : B n
      · rw [ct_p cb]; omega
      · rw [ct_n cb]; omega
section DW
variable {S : Nat → Nat → Nat} {IC IM : gI}
/-- masks of dawns: bounded, and none where nobody is placed yet -/
def dz (S : Nat → Nat → Nat) (h k : Nat) (d : Nat → Nat) : Prop := (∀ i, d i < 4096) ∧ ∀ i, ct (pl1 S h k) (S 0 0) ≤ i → d i = 0
theorem dz_s (g : sv S IC IM) {h k : Nat} {d : Nat → Nat} (hk : k < S 0 0) (hd : dz S h k (rw1 S h d k)) : dz S h (k + 1) (rw1 S h d (k + 1)) ∧ (S 4 k = h → ff (rw1 S h d k) (sq S k) < 6 ∧ ∃ c, c < 6 ∧ rw1 S h d k c = 0) := by
  have bn := b_nb g
  have hq := sq_lt g (show k < 6 by omega)
  by_cases c : S 4 k = h
  · have hnot : ¬ pl1 S h k k := by
      rintro (z | ⟨z1, z2⟩)
      · omega
      · omega
    have hct := ct_lt hnot (S 0 0) hk
    have hadd : ct (pl1 S h (k + 1)) (S 0 0) = ct (pl1 S h k) (S 0 0) + 1 := by
      refine ct_add hnot (Or.inr ⟨c, by omega⟩) (S 0 0) hk (fun b hb hbk => ?_)
      unfold pl1
      constructor
      · rintro (z | z)
        · exact Or.inl z
        · exact Or.inr ⟨z.1, by omega⟩
      · rintro (z | z)
        · exact Or.inl z
        · exact Or.inr ⟨z.1, by omega⟩
    have h0 := hd.2 _ (Nat.le_refl _)
    have hff := ff_ok (q := sq S k) (show ct (pl1 S h k) (S 0 0) < 6 by omega) h0
    rw [rw_p c]
    refine ⟨⟨fun i => ?_, fun i hi => ?_⟩, fun _ => ⟨by omega, _, by omega, h0⟩⟩
    · unfold plc
      by_cases e : i = ff (rw1 S h d k) (sq S k)
      · rw [if_pos e]; exact Nat.or_lt_two_pow (n := 12) (hd.1 i) hq
      · rw [if_neg e]; exact hd.1 i
    · unfold plc
      rw [if_neg (by omega)]
      exact hd.2 i (by omega)
  · rw [rw_n c]
    refine ⟨⟨hd.1, fun i hi => hd.2 i ?_⟩, fun z => absurd z c⟩
    rw [ct_ext (B := pl1 S h k) (B' := pl1 S h (k + 1)) (S 0 0) (fun b hb => ?_)]
    · exact hi
    · unfold pl1
      constructor
      · rintro (z | z)
        · exact Or.inl z
        · exact Or.inr ⟨z.1, by omega⟩
      · rintro (z | z)
        · exact Or.inl z
        · by_cases e : b = k
          · subst e; exact absurd z.1 c
          · exact Or.inr ⟨z.1, by omega⟩
theorem dz_h {h : Nat} {d : Nat → Nat} (hd : dz S h (S 0 0) d) : dz S (h + 1) 0 d := by
  refine ⟨hd.1, fun i hi => hd.2 i ?_⟩
  rw [ct_ext (B := pl1 S h (S 0 0)) (B' := pl1 S (h + 1) 0) (S 0 0) (fun b hb => ?_)]
  · exact hi
  · unfold pl1
    constructor
    · rintro (z | z)
      · exact Or.inl (by omega)
      · exact Or.inl (by omega)
    · rintro (z | z)
      · by_cases e : S 4 b = h
        · exact Or.inr ⟨e, hb⟩
        · exact Or.inl (by omega)
      · omega
/-- the class's first free dawn -/
theorem lo6d {C : gI} {d : Nat → Nat} {q c : Nat} (hq : q < 4096) (hd : ∀ i, d i < 4096) (hC : ∀ i, i < 6 → C 294 i = nI (d i)) (hc : c < 6) (h0 : d c = 0) (hff : ff d q < 6) : fX6_lowestDawn (nI q) C = some (nI (ff d q), wI C 294 (ff d q) (nI (d (ff d q) ||| q))) := by
  obtain ⟨r, e, rfl⟩ := lp_ex (fun n k (_ : Unit) => fX6_lowestDawn_2 n (nI q) (nI k) C) 6 (fun k _ => ∀ i, i < k → ¬ d i &&& q = 0) (fun r => r = Sum.inl (nI (ff d q)))
    (fun n a hP => absurd (by rw [h0, Nat.zero_and]) (hP c hc))
    (fun n k a hk hP => by
      try dsimp only at hP ⊢
      have e := hC k hk
      have hlt : d k &&& q < 4096 := Nat.lt_of_le_of_lt Nat.and_le_left (hd k)
      by_cases z : d k &&& q = 0
      · left
        refine ⟨_, ?_, rfl⟩
        rw [ff_u hc h0 z hP, sX6_lowestDawn_2, fX6_lowestDawn_2b]
        simp (disch := (first | assumption | trivial | omega)) only [e, z, lit, neg1, oI_s, addN, mulN, subN, clN, gdN, ltN, leN, eqN, nIo, oIn, oI_eq, divN, remN, giT, giF, lzE, prE, bdE, smL, smR, shlN, shrN, hasE, andN, orN, bit1, bit0, max7, min7, giTr, giFa, gdp, litL, i2l, addL, mulL, divL, remL, cmLe, cmGt, cmGe, cmEq, eqL]
      · right
        refine ⟨(), ?_, fun i hi => ?_⟩
        · rw [sX6_lowestDawn_2, fX6_lowestDawn_2b]
          simp (disch := (first | assumption | trivial | omega)) only [e, z, lit, neg1, oI_s, addN, mulN, subN, clN, gdN, ltN, leN, eqN, nIo, oIn, oI_eq, divN, remN, giT, giF, lzE, prE, bdE, smL, smR, shlN, shrN, hasE, andN, orN, bit1, bit0, max7, min7, giTr, giFa, gdp, litL, i2l, addL, mulL, divL, remL, cmLe, cmGt, cmGe, cmEq, eqL]
        · by_cases w : i = k
          · subst w; exact z
          · exact hP i (by omega)) 6 0 () FU rfl (fun i hi => absurd hi (by omega)) (by show _ < 5000; omega)
  have e' : fX6_lowestDawn_2 FU (nI q) 0 C = _ := e
  have e2 := hC _ hff
  unfold fX6_lowestDawn
  rw [e']
  simp (disch := (first | assumption | trivial | omega)) only [e2, lit, neg1, oI_s, addN, mulN, subN, clN, gdN, ltN, leN, eqN, nIo, oIn, oI_eq, divN, remN, giT, giF, lzE, prE, bdE, smL, smR, shlN, shrN, hasE, andN, orN, bit1, bit0, max7, min7, giTr, giFa, gdp, litL, i2l, addL, mulL, divL, remL, cmLe, cmGt, cmGe, cmEq, eqL]
theorem lo7d {M : gI} (g : sv S IC M) {d : Nat → Nat} {b c h : Nat} (hb : b < 6) (hd : ∀ i, d i < 4096) (hM : ∀ i, i < 6 → M 10 i = nI (d i)) (hc : c < 6) (h0 : d c = 0) : fX7_layDawns_59 FU (nI h) (nI b) 0 M = some (nI (ff d (sq S b))) := by
  have hq := sq_lt g hb
  obtain ⟨r, e, rfl⟩ := lp_ex (fun n k (_ : Unit) => fX7_layDawns_59 n (nI h) (nI b) (nI k) M) 6 (fun k _ => ∀ i, i < k → ¬ d i &&& sq S b = 0) (fun r => r = nI (ff d (sq S b)))
    (fun n a hP => absurd (by rw [h0, Nat.zero_and]) (hP c hc))
    (fun n k a hk hP => by
      try dsimp only at hP ⊢
      have e := hM k hk
      have hlt : d k &&& sq S b < 4096 := Nat.lt_of_le_of_lt Nat.and_le_left (hd k)
      by_cases z : d k &&& sq S b = 0
      · left
        refine ⟨_, ?_, rfl⟩
        rw [ff_u hc h0 z hP, sX7_layDawns_59, fX7_layDawns_59b]
        simp (disch := (first | assumption | trivial | omega)) only [sl7 g, e, z, lit, neg1, oI_s, addN, mulN, subN, clN, gdN, ltN, leN, eqN, nIo, oIn, oI_eq, divN, remN, giT, giF, lzE, prE, bdE, smL, smR, shlN, shrN, hasE, andN, orN, bit1, bit0, max7, min7, giTr, giFa, gdp, litL, i2l, addL, mulL, divL, remL, cmLe, cmGt, cmGe, cmEq, eqL]
      · right
        refine ⟨(), ?_, fun i hi => ?_⟩
        · rw [sX7_layDawns_59, fX7_layDawns_59b]
          simp (disch := (first | assumption | trivial | omega)) only [sl7 g, e, z, lit, neg1, oI_s, addN, mulN, subN, clN, gdN, ltN, leN, eqN, nIo, oIn, oI_eq, divN, remN, giT, giF, lzE, prE, bdE, smL, smR, shlN, shrN, hasE, andN, orN, bit1, bit0, max7, min7, giTr, giFa, gdp, litL, i2l, addL, mulL, divL, remL, cmLe, cmGt, cmGe, cmEq, eqL]
        · by_cases w : i = k
          · subst w; exact z
          · exact hP i (by omega)) 6 0 () FU rfl (fun i hi => absurd hi (by omega)) (by show _ < 5000; omega)
  exact e
/-- the dawn of a buyer -/
def dw1 (S : Nat → Nat → Nat) (b : Nat) : Nat := ff (rw1 S (S 4 b) (dd1 S (S 4 b)) b) (sq S b)
theorem dw6 (g : sv S IC IM) {x : Nat} (hx : x < S 0 0) : ∃ C', fX6_dawns (nI x) IC = some (nI (dw1 S x), C') ∧ ∀ o, o ≠ 294 → C' o = IC o := by
  have bn := b_nb g
  have hx6 : x < 6 := by omega
  have bx := b_bu g hx6
  obtain ⟨C0, e0, c1, c2⟩ := lp_ex (fun n k (a : gI) => fX6_dawns_12 n (nI x) (nI k) a) 6 (fun k a => (∀ o, o ≠ 294 → a o = IC o) ∧ ∀ i, i < k → a 294 i = nI 0) (fun a => (∀ o, o ≠ 294 → a o = IC o) ∧ ∀ i, i < 6 → a 294 i = nI 0)
    (fun n a hP => by
      try dsimp only at hP ⊢
      refine ⟨a, ?_, hP⟩
      rw [sX6_dawns_12, fX6_dawns_12b]
      simp (disch := (first | assumption | trivial | omega)) only [lit, neg1, oI_s, addN, mulN, subN, clN, gdN, ltN, leN, eqN, nIo, oIn, oI_eq, divN, remN, giT, giF, lzE, prE, bdE, smL, smR, shlN, shrN, hasE, andN, orN, bit1, bit0, max7, min7, giTr, giFa, gdp, litL, i2l, addL, mulL, divL, remL, cmLe, cmGt, cmGe, cmEq, eqL])
    (fun n k a hk hP => by
      try dsimp only at hP ⊢
      right
      refine ⟨wI a 294 k (nI 0), ?_, fun o ho => by rw [wI_o ho]; exact hP.1 o ho, fun i hi => ?_⟩
      · rw [sX6_dawns_12, fX6_dawns_12b]
        simp (disch := (first | assumption | trivial | omega)) only [lit, neg1, oI_s, addN, mulN, subN, clN, gdN, ltN, leN, eqN, nIo, oIn, oI_eq, divN, remN, giT, giF, lzE, prE, bdE, smL, smR, shlN, shrN, hasE, andN, orN, bit1, bit0, max7, min7, giTr, giFa, gdp, litL, i2l, addL, mulL, divL, remL, cmLe, cmGt, cmGe, cmEq, eqL]
      · by_cases e : i = k
        · subst e; exact wI_eq
        · rw [wI_ne (by omega)]; exact hP.2 i (by omega)) 6 0 IC FU rfl ⟨fun _ _ => rfl, fun i hi => absurd hi (by omega)⟩ (by show _ < 5000; omega)
  obtain ⟨r, e, C', rfl, hC'⟩ := lp_ex (fun n h (a : gI) => fX6_dawns_33 n (nI x) (nI h) a) 12 (fun h a => h ≤ S 4 x ∧ (∀ o, o ≠ 294 → a o = IC o) ∧ (∀ i, i < 6 → a 294 i = nI (dd1 S h i)) ∧ dz S h 0 (dd1 S h)) (fun r => ∃ C', r = Sum.inl (nI (dw1 S x), C') ∧ ∀ o, o ≠ 294 → C' o = IC o)
    (fun n a hP => absurd hP.1 (by omega))
    (fun n h a hh hP => by
      try dsimp only at hP ⊢
      obtain ⟨p1, p2, p3, p4⟩ := hP
      obtain ⟨v, ev, q⟩ := lp_ex (fun n k (b : gI) => fX6_dawns_41 n (nI x) (nI h) (nI k) b) (S 0 0) (fun k b => ¬ (S 4 x = h ∧ x < k) ∧ (∀ o, o ≠ 294 → b o = IC o) ∧ (∀ i, i < 6 → b 294 i = nI (rw1 S h (dd1 S h) k i)) ∧ dz S h k (rw1 S h (dd1 S h) k)) (fun v => (S 4 x = h ∧ ∃ C', v = Sum.inl (nI (dw1 S x), C') ∧ ∀ o, o ≠ 294 → C' o = IC o) ∨ (¬ S 4 x = h ∧ ∃ C', v = Sum.inr C' ∧ (∀ o, o ≠ 294 → C' o = IC o) ∧ (∀ i, i < 6 → C' 294 i = nI (dd1 S (h + 1) i)) ∧ dz S (h + 1) 0 (dd1 S (h + 1))))
        (fun n b hP => by
          try dsimp only at hP ⊢
          obtain ⟨w1, w2, w3, w4⟩ := hP
          have g1 : sv S b IM := sv_eq g (fun o ho => w2 o (by omega)) eqM_rf
          refine ⟨Sum.inr b, ?_, Or.inr ⟨fun z => w1 ⟨z, hx⟩, b, rfl, w2, w3, dz_h w4⟩⟩
          rw [sX6_dawns_41, fX6_dawns_41b]
          simp (disch := (first | assumption | trivial | omega)) only [v_nb6 g1, lit, neg1, oI_s, addN, mulN, subN, clN, gdN, ltN, leN, eqN, nIo, oIn, oI_eq, divN, remN, giT, giF, lzE, prE, bdE, smL, smR, shlN, shrN, hasE, andN, orN, bit1, bit0, max7, min7, giTr, giFa, gdp, litL, i2l, addL, mulL, divL, remL, cmLe, cmGt, cmGe, cmEq, eqL])
        (fun n k b hk hP => by
          try dsimp only at hP ⊢
          obtain ⟨w1, w2, w3, w4⟩ := hP
          have g1 : sv S b IM := sv_eq g (fun o ho => w2 o (by omega)) eqM_rf
          have hk6 : k < 6 := by omega
          have bk := b_bu g hk6
          have hq := sq_lt g hk6
          obtain ⟨z1, z2⟩ := dz_s g hk w4
          by_cases c : S 4 k = h
          · obtain ⟨f6, c0, hc0, hz0⟩ := z2 c
            have hl := lo6d (C := b) (q := sq S k) hq w4.1 w3 hc0 hz0 f6
            by_cases ex : k = x
            · left
              subst ex
              refine ⟨_, ?_, Or.inl ⟨c, wI b 294 (ff (rw1 S h (dd1 S h) k) (sq S k)) (nI (rw1 S h (dd1 S h) k (ff (rw1 S h (dd1 S h) k) (sq S k)) ||| sq S k)), rfl, fun o ho => by rw [wI_o ho]; exact w2 o ho⟩⟩
              unfold dw1
              rw [c, sX6_dawns_41, fX6_dawns_41b]
              simp (disch := (first | assumption | trivial | omega)) only [v_nb6 g1, v_fr6 g1, c, sl6 g1, hl, lit, neg1, oI_s, addN, mulN, subN, clN, gdN, ltN, leN, eqN, nIo, oIn, oI_eq, divN, remN, giT, giF, lzE, prE, bdE, smL, smR, shlN, shrN, hasE, andN, orN, bit1, bit0, max7, min7, giTr, giFa, gdp, litL, i2l, addL, mulL, divL, remL, cmLe, cmGt, cmGe, cmEq, eqL]
            · right
              refine ⟨wI b 294 (ff (rw1 S h (dd1 S h) k) (sq S k)) (nI (rw1 S h (dd1 S h) k (ff (rw1 S h (dd1 S h) k) (sq S k)) ||| sq S k)), ?_, fun z => w1 ⟨z.1, by omega⟩, fun o ho => by rw [wI_o ho]; exact w2 o ho, fun i hi => ?_, z1⟩
              · rw [sX6_dawns_41, fX6_dawns_41b]
                simp (disch := (first | assumption | trivial | omega)) only [v_nb6 g1, v_fr6 g1, c, sl6 g1, hl, ex, lit, neg1, oI_s, addN, mulN, subN, clN, gdN, ltN, leN, eqN, nIo, oIn, oI_eq, divN, remN, giT, giF, lzE, prE, bdE, smL, smR, shlN, shrN, hasE, andN, orN, bit1, bit0, max7, min7, giTr, giFa, gdp, litL, i2l, addL, mulL, divL, remL, cmLe, cmGt, cmGe, cmEq, eqL]
              · rw [rw_p c]
                unfold plc
                by_cases ei : i = ff (rw1 S h (dd1 S h) k) (sq S k)
                · rw [if_pos ei, ei, wI_eq]
                · rw [if_neg ei, wI_ne (by omega)]; exact w3 i hi
          · right
            refine ⟨b, ?_, ?_, w2, ?_, z1⟩
            · rw [sX6_dawns_41, fX6_dawns_41b]
              simp (disch := (first | assumption | trivial | omega)) only [v_nb6 g1, v_fr6 g1, c, lit, neg1, oI_s, addN, mulN, subN, clN, gdN, ltN, leN, eqN, nIo, oIn, oI_eq, divN, remN, giT, giF, lzE, prE, bdE, smL, smR, shlN, shrN, hasE, andN, orN, bit1, bit0, max7, min7, giTr, giFa, gdp, litL, i2l, addL, mulL, divL, remL, cmLe, cmGt, cmGe, cmEq, eqL]
            · rintro ⟨y1, y2⟩
              by_cases ex : k = x
              · subst ex; exact c y1
              · exact w1 ⟨y1, by omega⟩
            · rw [rw_n c]; exact w3) (S 0 0) 0 a FU (by omega) ⟨fun z => by omega, p2, p3, p4⟩ (by show _ < 5000; omega)
      have ev' : fX6_dawns_41 FU (nI x) (nI h) (nI 0) a = some v := ev
      rcases q with ⟨_, C', rfl, hC'⟩ | ⟨hne, C', rfl, y1, y2, y3⟩
      · left
        refine ⟨_, ?_, C', rfl, hC'⟩
        rw [sX6_dawns_33, fX6_dawns_33b]
        simp (disch := (first | assumption | trivial | omega)) only [ev', lit, neg1, oI_s, addN, mulN, subN, clN, gdN, ltN, leN, eqN, nIo, oIn, oI_eq, divN, remN, giT, giF, lzE, prE, bdE, smL, smR, shlN, shrN, hasE, andN, orN, bit1, bit0, max7, min7, giTr, giFa, gdp, litL, i2l, addL, mulL, divL, remL, cmLe, cmGt, cmGe, cmEq, eqL]
      · right
        refine ⟨C', ?_, by omega, y1, y2, y3⟩
        rw [sX6_dawns_33, fX6_dawns_33b]
        simp (disch := (first | assumption | trivial | omega)) only [ev', lit, neg1, oI_s, addN, mulN, subN, clN, gdN, ltN, leN, eqN, nIo, oIn, oI_eq, divN, remN, giT, giF, lzE, prE, bdE, smL, smR, shlN, shrN, hasE, andN, orN, bit1, bit0, max7, min7, giTr, giFa, gdp, litL, i2l, addL, mulL, divL, remL, cmLe, cmGt, cmGe, cmEq, eqL]) 12 0 C0 FU rfl ⟨Nat.zero_le _, c1, c2, ⟨fun i => by show 0 < 4096; decide, fun i _ => rfl⟩⟩ (by show _ < 5000; omega)
  have e0' : fX6_dawns_12 FU (nI x) 0 IC = some C0 := e0
  have e' : fX6_dawns_33 FU (nI x) 0 C0 = _ := e
  refine ⟨C', ?_, hC'⟩
  unfold fX6_dawns
  rw [isB6p g (inR_nI hx), e0', gi_neg (c := nI 1 = (0 : Int32)) one_ne, bdE, e']
  rfl
theorem dw7 (g : sv S IC IM) : ∃ M', fX7_layDawns IM = some M' ∧ (∀ b, b < S 0 0 → M' 11 b = nI (dw1 S b)) ∧ ∀ o, o ≠ 10 → o ≠ 11 → M' o = IM o := by
  have bn := b_nb g
  obtain ⟨M0, e0, c1, c2⟩ := lp_ex (fun n k (a : gI) => fX7_layDawns_2 n (nI k) a) 6 (fun k a => (∀ o, o ≠ 10 → a o = IM o) ∧ ∀ i, i < k → a 10 i = nI 0) (fun a => (∀ o, o ≠ 10 → a o = IM o) ∧ ∀ i, i < 6 → a 10 i = nI 0)
    (fun n a hP => by
      try dsimp only at hP ⊢
      refine ⟨a, ?_, hP⟩
      rw [sX7_layDawns_2, fX7_layDawns_2b]
      simp (disch := (first | assumption | trivial | omega)) only [lit, neg1, oI_s, addN, mulN, subN, clN, gdN, ltN, leN, eqN, nIo, oIn, oI_eq, divN, remN, giT, giF, lzE, prE, bdE, smL, smR, shlN, shrN, hasE, andN, orN, bit1, bit0, max7, min7, giTr, giFa, gdp, litL, i2l, addL, mulL, divL, remL, cmLe, cmGt, cmGe, cmEq, eqL])
    (fun n k a hk hP => by
      try dsimp only at hP ⊢
      right
      refine ⟨wI a 10 k (nI 0), ?_, fun o ho => by rw [wI_o ho]; exact hP.1 o ho, fun i hi => ?_⟩
      · rw [sX7_layDawns_2, fX7_layDawns_2b]
        simp (disch := (first | assumption | trivial | omega)) only [lit, neg1, oI_s, addN, mulN, subN, clN, gdN, ltN, leN, eqN, nIo, oIn, oI_eq, divN, remN, giT, giF, lzE, prE, bdE, smL, smR, shlN, shrN, hasE, andN, orN, bit1, bit0, max7, min7, giTr, giFa, gdp, litL, i2l, addL, mulL, divL, remL, cmLe, cmGt, cmGe, cmEq, eqL]
      · by_cases e : i = k
        · subst e; exact wI_eq
        · rw [wI_ne (by omega)]; exact hP.2 i (by omega)) 6 0 IM FU rfl ⟨fun _ _ => rfl, fun i hi => absurd hi (by omega)⟩ (by show _ < 5000; omega)
  obtain ⟨M', e, q1, q2⟩ := lp_ex (fun n h (a : gI) => fX7_layDawns_23 n (nI h) a) 12 (fun h a => (∀ o, o ≠ 10 → o ≠ 11 → a o = IM o) ∧ (∀ b, b < S 0 0 → S 4 b < h → a 11 b = nI (dw1 S b)) ∧ (∀ i, i < 6 → a 10 i = nI (dd1 S h i)) ∧ dz S h 0 (dd1 S h)) (fun a => (∀ o, o ≠ 10 → o ≠ 11 → a o = IM o) ∧ ∀ b, b < S 0 0 → S 4 b < 12 → a 11 b = nI (dw1 S b))
    (fun n a hP => by
      try dsimp only at hP ⊢
      refine ⟨a, ?_, hP.1, hP.2.1⟩
      rw [sX7_layDawns_23, fX7_layDawns_23b]
      simp (disch := (first | assumption | trivial | omega)) only [lit, neg1, oI_s, addN, mulN, subN, clN, gdN, ltN, leN, eqN, nIo, oIn, oI_eq, divN, remN, giT, giF, lzE, prE, bdE, smL, smR, shlN, shrN, hasE, andN, orN, bit1, bit0, max7, min7, giTr, giFa, gdp, litL, i2l, addL, mulL, divL, remL, cmLe, cmGt, cmGe, cmEq, eqL])
    (fun n h a hh hP => by
      try dsimp only at hP ⊢
      right
      obtain ⟨p1, p2, p3, p4⟩ := hP
      obtain ⟨A, ev, y1, y2, y3, y4⟩ := lp_ex (fun n k (m : gI) => fX7_layDawns_31 n (nI h) (nI k) m) (S 0 0) (fun k m => (∀ o, o ≠ 10 → o ≠ 11 → m o = IM o) ∧ (∀ b, b < S 0 0 → pl1 S h k b → m 11 b = nI (dw1 S b)) ∧ (∀ i, i < 6 → m 10 i = nI (rw1 S h (dd1 S h) k i)) ∧ dz S h k (rw1 S h (dd1 S h) k)) (fun m => (∀ o, o ≠ 10 → o ≠ 11 → m o = IM o) ∧ (∀ b, b < S 0 0 → pl1 S h (S 0 0) b → m 11 b = nI (dw1 S b)) ∧ (∀ i, i < 6 → m 10 i = nI (dd1 S (h + 1) i)) ∧ dz S (h + 1) 0 (dd1 S (h + 1)))
        (fun n m hP => by
          try dsimp only at hP ⊢
          obtain ⟨w1, w2, w3, w4⟩ := hP
          have g1 : sv S IC m := sv_eq g eqC_rf ⟨w1 1 (by omega) (by omega), w1 2 (by omega) (by omega), w1 3 (by omega) (by omega), w1 4 (by omega) (by omega), by rw [w1 0 (by omega) (by omega)], by rw [w1 0 (by omega) (by omega)], by rw [w1 0 (by omega) (by omega)], by rw [w1 0 (by omega) (by omega)]⟩
          refine ⟨m, ?_, w1, w2, w3, dz_h w4⟩
          rw [sX7_layDawns_31, fX7_layDawns_31b]
          simp (disch := (first | assumption | trivial | omega)) only [v_nb7 g1, lit, neg1, oI_s, addN, mulN, subN, clN, gdN, ltN, leN, eqN, nIo, oIn, oI_eq, divN, remN, giT, giF, lzE, prE, bdE, smL, smR, shlN, shrN, hasE, andN, orN, bit1, bit0, max7, min7, giTr, giFa, gdp, litL, i2l, addL, mulL, divL, remL, cmLe, cmGt, cmGe, cmEq, eqL])
        (fun n k m hk hP => by
          try dsimp only at hP ⊢
          right
          obtain ⟨w1, w2, w3, w4⟩ := hP
          have g1 : sv S IC m := sv_eq g eqC_rf ⟨w1 1 (by omega) (by omega), w1 2 (by omega) (by omega), w1 3 (by omega) (by omega), w1 4 (by omega) (by omega), by rw [w1 0 (by omega) (by omega)], by rw [w1 0 (by omega) (by omega)], by rw [w1 0 (by omega) (by omega)], by rw [w1 0 (by omega) (by omega)]⟩
          have hk6 : k < 6 := by omega
          have bk := b_bu g hk6
          have hq := sq_lt g hk6
          obtain ⟨z1, z2⟩ := dz_s g hk w4
          by_cases c : S 4 k = h
          · obtain ⟨f6, c0, hc0, hz0⟩ := z2 c
            have hl : fX7_layDawns_59 FU (nI h) (nI k) (nI 0) m = _ := lo7d (h := h) g1 hk6 w4.1 w3 hc0 hz0
            have e10 := w3 _ f6
            refine ⟨wI (wI m 10 (ff (rw1 S h (dd1 S h) k) (sq S k)) (nI (rw1 S h (dd1 S h) k (ff (rw1 S h (dd1 S h) k) (sq S k)) ||| sq S k))) 11 k (nI (ff (rw1 S h (dd1 S h) k) (sq S k))), ?_, fun o h1 h2 => by rw [wI_o h2, wI_o h1]; exact w1 o h1 h2, fun b hb hp => ?_, fun i hi => ?_, z1⟩
            · rw [sX7_layDawns_31, fX7_layDawns_31b]
              simp (disch := (first | assumption | trivial | omega)) only [v_nb7 g1, v_fr7 g1, c, hl, sl7 g1, e10, lit, neg1, oI_s, addN, mulN, subN, clN, gdN, ltN, leN, eqN, nIo, oIn, oI_eq, divN, remN, giT, giF, lzE, prE, bdE, smL, smR, shlN, shrN, hasE, andN, orN, bit1, bit0, max7, min7, giTr, giFa, gdp, litL, i2l, addL, mulL, divL, remL, cmLe, cmGt, cmGe, cmEq, eqL]
            · by_cases eb : b = k
              · subst eb
                rw [wI_eq]
                unfold dw1
                rw [c]
              · rw [wI_ne (by omega), wI_o (by omega)]
                refine w2 b hb ?_
                rcases hp with hp | hp
                · exact Or.inl hp
                · exact Or.inr ⟨hp.1, by omega⟩
            · rw [wI_o (by omega), rw_p c]
              unfold plc
              by_cases ei : i = ff (rw1 S h (dd1 S h) k) (sq S k)
              · rw [if_pos ei, ei, wI_eq]
              · rw [if_neg ei, wI_ne (by omega)]; exact w3 i hi
          · refine ⟨m, ?_, w1, fun b hb hp => ?_, ?_, z1⟩
            · rw [sX7_layDawns_31, fX7_layDawns_31b]
              simp (disch := (first | assumption | trivial | omega)) only [v_nb7 g1, v_fr7 g1, c, lit, neg1, oI_s, addN, mulN, subN, clN, gdN, ltN, leN, eqN, nIo, oIn, oI_eq, divN, remN, giT, giF, lzE, prE, bdE, smL, smR, shlN, shrN, hasE, andN, orN, bit1, bit0, max7, min7, giTr, giFa, gdp, litL, i2l, addL, mulL, divL, remL, cmLe, cmGt, cmGe, cmEq, eqL]
            · refine w2 b hb ?_
              rcases hp with hp | hp
              · exact Or.inl hp
              · by_cases eb : b = k
                · subst eb; exact absurd hp.1 c
                · exact Or.inr ⟨hp.1, by omega⟩
            · rw [rw_n c]; exact w3) (S 0 0) 0 a FU (by omega) ⟨p1, fun b hb hp => p2 b hb (by rcases hp with hp | hp <;> omega), p3, p4⟩ (by show _ < 5000; omega)
      have ev' : fX7_layDawns_31 FU (nI h) (nI 0) a = some A := ev
      refine ⟨A, ?_, y1, fun b hb hp => y2 b hb ?_, y3, y4⟩
      · rw [sX7_layDawns_23, fX7_layDawns_23b]
        simp (disch := (first | assumption | trivial | omega)) only [ev', lit, neg1, oI_s, addN, mulN, subN, clN, gdN, ltN, leN, eqN, nIo, oIn, oI_eq, divN, remN, giT, giF, lzE, prE, bdE, smL, smR, shlN, shrN, hasE, andN, orN, bit1, bit0, max7, min7, giTr, giFa, gdp, litL, i2l, addL, mulL, divL, remL, cmLe, cmGt, cmGe, cmEq, eqL]
      · by_cases eh : S 4 b = h
        · exact Or.inr ⟨eh, hb⟩
        · exact Or.inl (by omega)) 12 0 M0 FU rfl ⟨fun o h1 h2 => c1 o h1, fun b hb hp => absurd hp (by omega), c2, ⟨fun i => by show 0 < 4096; decide, fun i _ => rfl⟩⟩ (by show _ < 5000; omega)
  have e0' : fX7_layDawns_2 FU 0 IM = some M0 := e0
  have e' : fX7_layDawns_23 FU 0 M0 = some M' := e
  refine ⟨M', ?_, fun b hb => q2 b hb (by have := b_bu g (show b < 6 by omega); omega), q1⟩
  unfold fX7_layDawns
  rw [e0', bdE, e']
  rfl
end DW
theorem case_35 : st_35 V0 := by
  intro a1 IC IM JM hV
  obtain ⟨S, g⟩ := view hV
  have bn := b_nb g
  by_cases c : inR a1 (S 0 0)
  · have i7 := isB7p g c
    obtain ⟨x, hx, rfl⟩ := c
    obtain ⟨C', e6, hC⟩ := dw6 g hx
    obtain ⟨M', e7, d7, hM⟩ := dw7 g
    have ed := d7 x hx
    refine ⟨nI (dw1 S x), C', M', e6, ?_, V0_eq hV (fun o ho => hC o (by omega)) ⟨hM 1 (by omega) (by omega), hM 2 (by omega) (by omega), hM 3 (by omega) (by omega), hM 4 (by omega) (by omega), by rw [hM 0 (by omega) (by omega)], by rw [hM 0 (by omega) (by omega)], by rw [hM 0 (by omega) (by omega)], by rw [hM 0 (by omega) (by omega)]⟩⟩
    unfold fX7_dawns
    rw [i7, e7]
    simp (disch := (first | assumption | trivial | omega)) only [ed, lit, neg1, oI_s, addN, mulN, subN, clN, gdN, ltN, leN, eqN, nIo, oIn, oI_eq, divN, remN, giT, giF, lzE, prE, bdE, smL, smR, shlN, shrN, hasE, andN, orN, bit1, bit0, max7, min7, giTr, giFa, gdp, litL, i2l, addL, mulL, divL, remL, cmLe, cmGt, cmGe, cmEq, eqL]
  · refine ⟨-1, IC, IM, ?_, ?_, hV⟩
    · unfold fX6_dawns
      rw [isB6n g c]
      simp (disch := (first | assumption | trivial | omega)) only [lit, neg1, oI_s, addN, mulN, subN, clN, gdN, ltN, leN, eqN, nIo, oIn, oI_eq, divN, remN, giT, giF, lzE, prE, bdE, smL, smR, shlN, shrN, hasE, andN, orN, bit1, bit0, max7, min7, giTr, giFa, gdp, litL, i2l, addL, mulL, divL, remL, cmLe, cmGt, cmGe, cmEq, eqL]
      all_goals rfl
    · unfold fX7_dawns
      rw [isB7n g c]
      simp (disch := (first | assumption | trivial | omega)) only [lit, neg1, oI_s, addN, mulN, subN, clN, gdN, ltN, leN, eqN, nIo, oIn, oI_eq, divN, remN, giT, giF, lzE, prE, bdE, smL, smR, shlN, shrN, hasE, andN, orN, bit1, bit0, max7, min7, giTr, giFa, gdp, litL, i2l, addL, mulL, divL, remL, cmLe, cmGt, cmGe, cmEq, eqL]
      all_goals rfl
