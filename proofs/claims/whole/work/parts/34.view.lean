-- 34: PURE PART: what the two memories say, in numbers (out of wip/whole/pure by pure.py)
/-- none, or a number, one more -/
def oI (k : Nat) : Int32 := match k with
  | 0 => -1
  | j + 1 => nI j
theorem oI_0 : oI 0 = -1 := rfl
theorem oI_s (k : Nat) : oI (k + 1) = nI k := rfl
theorem nI_none {n : Nat} (h : n < 2147483648) : ¬ nI n = -1 := by
  intro e
  have := congrArg Int32.toInt e
  rw [nI_toInt h] at this
  have e1 : (-1 : Int32).toInt = -1 := by decide
  omega
theorem oI_eq {a b : Nat} (ha : a < 2147483648) (hb : b < 2147483648) : (oI a = oI b) = (a = b) := by
  cases a with
  | zero => cases b with
    | zero => simp
    | succ b => exact propext ⟨fun h => absurd h.symm (nI_none (by omega)), fun h => absurd h (by omega)⟩
  | succ a => cases b with
    | zero => exact propext ⟨fun h => absurd h (nI_none (by omega)), fun h => absurd h (by omega)⟩
    | succ b => exact propext ⟨fun h => by rw [(nI_eq (by omega) (by omega)).mp h], fun h => by rw [h]⟩
theorem inR_cl {x : Int32} {n : Nat} (hn : n ≤ 2147483648) (h : inR x n) : x = nI x.toNatClampNeg ∧ x.toNatClampNeg < n := by
  obtain ⟨k, hk, rfl⟩ := h
  rw [nI_clamp (by omega)]
  exact ⟨rfl, hk⟩
/-- the numbers of two memories -/
def sS (IC IM : gI) (w nb nt : Nat) : Nat → Nat → Nat := fun i k => match i with
  | 0 => (match k with
    | 0 => nb
    | 1 => nt
    | _ => if IM 1 2 = -1 then 0 else (IM 1 2).toNatClampNeg + 1)
  | 1 => (IM 1 (29 + k)).toNatClampNeg
  | 2 => (IM 1 (34 + k)).toNatClampNeg
  | 3 => (IM 1 (39 + k)).toNatClampNeg
  | 4 => (IM 1 (45 + k)).toNatClampNeg
  | 5 => (IM 1 (51 + k)).toNatClampNeg
  | 6 => (IM 1 (57 + k)).toNatClampNeg
  | 7 => (IM 1 (69 + k)).toNatClampNeg
  | 10 => (match k with
    | 0 => (IM 1 6).toNatClampNeg
    | 1 => (IM 1 7).toNatClampNeg
    | 2 => (IM 1 8).toNatClampNeg
    | 3 => (IM 1 9).toNatClampNeg
    | 4 => (IM 1 10).toNatClampNeg
    | _ => (IC w 4).toNatClampNeg)
  | 11 => if IM 1 (11 + k) = -1 then 0 else (IM 1 (11 + k)).toNatClampNeg + 1
  | 12 => (IC (w + 2) k).toNatClampNeg
  | _ => (IM 1 (23 + k)).toNatClampNeg
/-- heads, sorts, buyers, values -/
def pv (S : Nat → Nat → Nat) (IC IM : gI) : Prop :=
  (S 0 0 ≤ 6 ∧ S 0 1 ≤ 4 ∧ S 0 2 ≤ S 0 1) ∧
  (IM 1 0 = nI (S 0 0) ∧ IC 1 12 = nI (S 0 0) ∧ IM 1 1 = nI (S 0 1) ∧ IC 1 13 = nI (S 0 1) ∧ IC 1 14 = oI (S 0 2) ∧ IM 1 2 = oI (S 0 2)) ∧
  (∀ s, s < 5 → (S 1 s < 10 ∧ S 2 s < 100) ∧ IM 1 (29 + s) = nI (S 1 s) ∧ IC 2 s = nI (S 1 s) ∧ IM 1 (34 + s) = nI (S 2 s) ∧ IC 3 s = nI (S 2 s)) ∧
  (∀ b, b < 6 → (S 3 b < 32 ∧ S 4 b ≤ S 5 b ∧ S 5 b < 12 ∧ S 6 b < 1000) ∧ (IM 1 (39 + b) = nI (S 3 b) ∧ IC 4 b = nI (S 3 b)) ∧ (IM 1 (45 + b) = nI (S 4 b) ∧ IC 5 b = nI (S 4 b)) ∧ (IM 1 (51 + b) = nI (S 5 b) ∧ IC 6 b = nI (S 5 b)) ∧ (IM 1 (57 + b) = nI (S 6 b) ∧ IC 7 b = nI (S 6 b))) ∧
  (∀ s, s < 12 → S 7 s < 100 ∧ IM 1 (69 + s) = nI (S 7 s) ∧ IC 8 s = nI (S 7 s))
/-- a wall, and what the reference has for it -/
def wv (S : Nat → Nat → Nat) (w : Nat) (IC IM : gI) : Prop :=
  (S 10 0 < 10000 ∧ S 10 1 < 31039 ∧ S 10 2 < 100000 ∧ S 10 3 < 5 ∧ S 10 4 < 26 ∧ S 10 5 < 4096) ∧
  (IM 1 6 = nI (S 10 0) ∧ IC w 7 = nI (S 10 0) ∧ IM 1 7 = nI (S 10 1) ∧ IC w 8 = nI (S 10 1) ∧ IM 1 8 = nI (S 10 2) ∧ IC w 6 = nI (S 10 2) ∧ IM 1 9 = nI (S 10 3) ∧ IC w 5 = nI (S 10 3) ∧ IM 1 10 = nI (S 10 4) ∧ IC w 3 = nI (S 10 4) ∧ IC w 4 = nI (S 10 5)) ∧
  (∀ s, s < 12 → (S 11 s ≤ S 0 0 ∨ S 11 s = 7) ∧ IM 1 (11 + s) = oI (S 11 s) ∧ ((S 10 5).testBit s = true ↔ S 11 s = 0)) ∧
  (∀ b, b < 6 → S 12 b < 4096 ∧ IC (w + 2) b = nI (S 12 b) ∧ ∀ s, s < 12 → ((S 12 b).testBit s = true ↔ S 11 s = b + 1)) ∧
  (∀ b, b < 6 → S 13 b < 1000 ∧ IM 1 (23 + b) = nI (S 13 b) ∧ IC (w + 1) b = nI (S 13 b)) ∧
  (∀ i, i < S 10 4 → rLine (IC (w + 3) i) (IM 1 (1567 + i)))
theorem pv_of {IC IM : gI} {w nb nt : Nat} (h1 : rHead IC 1 (IM 1) nb nt) (h4 : rOdds IC 1 (IM 1)) (h5 : rBuy IC 1 (IM 1)) (h6 : rVals IC 1 (IM 1)) : pv (sS IC IM w nb nt) IC IM := by
  obtain ⟨a1, a2, a3, a4, a5, a6, a7, a8⟩ := h1
  have e2 : ((if IM 1 2 = -1 then 0 else (IM 1 2).toNatClampNeg + 1) ≤ nt) ∧ IM 1 2 = oI (if IM 1 2 = -1 then 0 else (IM 1 2).toNatClampNeg + 1) := by
    rcases a8 with a8 | ⟨t, ht, a8⟩
    · rw [if_pos a8, a8]; exact ⟨Nat.zero_le _, rfl⟩
    · rw [a8, if_neg (nI_none (by omega)), nI_clamp (by omega)]
      exact ⟨by omega, rfl⟩
  refine ⟨⟨a1, a2, e2.1⟩, ⟨a3, a4, a5, a6, a7.trans e2.2, e2.2⟩, fun s hs => ?_, fun b hb => ?_, fun s hs => ?_⟩
  · obtain ⟨q1, q2, q3, q4⟩ := h4 s hs
    obtain ⟨r1, r2⟩ := inR_cl (by decide) q1
    obtain ⟨r3, r4⟩ := inR_cl (by decide) q2
    exact ⟨⟨r2, r4⟩, r1, q3.trans r1, r3, q4.trans r3⟩
  · obtain ⟨q1, ⟨f, t, hf, ht, e1, e2⟩, q3, q4, q5, q6, q7⟩ := h5 b hb
    obtain ⟨r1, r2⟩ := inR_cl (by decide) q1
    obtain ⟨r3, r4⟩ := inR_cl (by decide) q3
    have c1 : (IM 1 (45 + b)).toNatClampNeg = f := by rw [e1, nI_clamp (by omega)]
    have c2 : (IM 1 (51 + b)).toNatClampNeg = t := by rw [e2, nI_clamp (by omega)]
    refine ⟨⟨r2, ?_, ?_, r4⟩, ⟨r1, q4.trans r1⟩, ⟨?_, ?_⟩, ⟨?_, ?_⟩, ⟨r3, q7.trans r3⟩⟩
    · show (IM 1 (45 + b)).toNatClampNeg ≤ (IM 1 (51 + b)).toNatClampNeg
      omega
    · show (IM 1 (51 + b)).toNatClampNeg < 12
      omega
    · show IM 1 (45 + b) = nI (IM 1 (45 + b)).toNatClampNeg
      rw [c1, e1]
    · show IC 5 b = nI (IM 1 (45 + b)).toNatClampNeg
      rw [c1, ← e1]; exact q5
    · show IM 1 (51 + b) = nI (IM 1 (51 + b)).toNatClampNeg
      rw [c2, e2]
    · show IC 6 b = nI (IM 1 (51 + b)).toNatClampNeg
      rw [c2, ← e2]; exact q6
  · obtain ⟨q1, q2⟩ := h6 s hs
    obtain ⟨r1, r2⟩ := inR_cl (by decide) q1
    exact ⟨r2, r1, q2.trans r1⟩
theorem wv_of {IC IM : gI} {w nb nt : Nat} (hn : nb ≤ 6) (h : rWall IC w nb (fun k => IM 1 (6 + k)) (fun k => IM 1 (1567 + k))) : wv (sS IC IM w nb nt) w IC IM := by
  obtain ⟨⟨a0, a1, a2, a3, a4⟩, ⟨b0, b1, b2, b3, b4⟩, c, ⟨f, f1, f2, f3⟩, o, q, ln⟩ := h
  dsimp only at a0 a1 a2 a3 a4 b0 b1 b2 b3 b4 c f3 o q ln
  have r0 := inR_cl (by decide) a0
  have r1 := inR_cl (by decide) a1
  have r2 := inR_cl (by decide) a2
  have r3 := inR_cl (by decide) a3
  have r4 := inR_cl (by decide) a4
  have ef : (IC w 4).toNatClampNeg = f := by rw [f2, nI_clamp (by omega)]
  have hs : ∀ s, s < 12 → (sS IC IM w nb nt 11 s ≤ nb ∨ sS IC IM w nb nt 11 s = 7) ∧ IM 1 (11 + s) = oI (sS IC IM w nb nt 11 s) ∧ (sS IC IM w nb nt 11 s = 0 ↔ IM 1 (11 + s) = -1) ∧ ∀ b, b < 6 → (sS IC IM w nb nt 11 s = b + 1 ↔ IM 1 (11 + s) = nI b) := by
    intro s hs
    have c' : IM 1 (11 + s) = -1 ∨ ∃ o, (o < nb ∨ o = 6) ∧ IM 1 (11 + s) = nI o := by
      have := c s hs
      rw [← Nat.add_assoc] at this
      exact this
    show ((if IM 1 (11 + s) = -1 then 0 else (IM 1 (11 + s)).toNatClampNeg + 1) ≤ nb ∨ (if IM 1 (11 + s) = -1 then 0 else (IM 1 (11 + s)).toNatClampNeg + 1) = 7) ∧ IM 1 (11 + s) = oI (if IM 1 (11 + s) = -1 then 0 else (IM 1 (11 + s)).toNatClampNeg + 1) ∧ ((if IM 1 (11 + s) = -1 then 0 else (IM 1 (11 + s)).toNatClampNeg + 1) = 0 ↔ IM 1 (11 + s) = -1) ∧ ∀ b, b < 6 → ((if IM 1 (11 + s) = -1 then 0 else (IM 1 (11 + s)).toNatClampNeg + 1) = b + 1 ↔ IM 1 (11 + s) = nI b)
    rcases c' with c' | ⟨o, ho, c'⟩
    · rw [if_pos c', c']
      refine ⟨Or.inl (Nat.zero_le _), rfl, ⟨fun _ => rfl, fun _ => rfl⟩, fun b hb => ⟨fun h => absurd h (by omega), fun h => absurd h.symm (nI_none (by omega))⟩⟩
    · rw [c', if_neg (nI_none (by omega)), nI_clamp (by omega)]
      refine ⟨by omega, rfl, ⟨fun h => absurd h (by omega), fun h => absurd h (nI_none (by omega))⟩, fun b hb => ⟨fun h => by rw [show o = b by omega], fun h => by rw [(nI_eq (by omega) (by omega)).mp h]⟩⟩
  refine ⟨⟨r0.2, r1.2, r2.2, r3.2, r4.2, ?_⟩, ⟨r0.1, b0.trans r0.1, r1.1, b1.trans r1.1, r2.1, b2.trans r2.1, r3.1, b3.trans r3.1, r4.1, b4.trans r4.1, ?_⟩, fun s hs' => ?_, fun b hb => ?_, fun b hb => ?_, fun i hi => ?_⟩
  · show (IC w 4).toNatClampNeg < 4096
    omega
  · show IC w 4 = nI (IC w 4).toNatClampNeg
    rw [ef, f2]
  · refine ⟨(hs s hs').1, (hs s hs').2.1, ?_⟩
    rw [(hs s hs').2.2.1]
    show (IC w 4).toNatClampNeg.testBit s = true ↔ _
    rw [ef]
    have := f3 s hs'
    rw [← Nat.add_assoc] at this
    exact this
  · obtain ⟨o, o1, o2, o3⟩ := o b hb
    have eo : (IC (w + 2) b).toNatClampNeg = o := by rw [o2, nI_clamp (by omega)]
    refine ⟨?_, ?_, fun s hs' => ?_⟩
    · show (IC (w + 2) b).toNatClampNeg < 4096
      omega
    · show IC (w + 2) b = nI (IC (w + 2) b).toNatClampNeg
      rw [eo, o2]
    · show (IC (w + 2) b).toNatClampNeg.testBit s = true ↔ _
      rw [eo, (hs s hs').2.2.2 b hb]
      have := o3 s hs'
      rw [← Nat.add_assoc] at this
      exact this
  · obtain ⟨q1, q2⟩ := q b hb
    rw [← Nat.add_assoc] at q1 q2
    have r := inR_cl (by decide) q1
    exact ⟨r.2, r.1, q2.trans r.1⟩
  · exact ln i _ r4.1 hi r4.2
/-- the port 'now' and its wall -/
def sv (S : Nat → Nat → Nat) (IC IM : gI) : Prop := pv S IC IM ∧ wv S 11 IC IM
theorem sv_of {IC IM : gI} {nb nt : Nat} (h : rPort IC 1 (IM 1) nb nt) : sv (sS IC IM 11 nb nt) IC IM :=
  ⟨pv_of h.1 h.2.2.2.1 h.2.2.2.2.1 h.2.2.2.2.2.1, wv_of h.1.1 h.2.2.2.2.2.2.1⟩
theorem view {IC IM : gI} {JM : gJ} (h : V0 IC IM JM) : ∃ S, sv S IC IM := by
  obtain ⟨nb, nt, mb, mt, h1, h2, h3, h4, h5⟩ := h
  exact ⟨_, sv_of h2⟩
theorem pv_eq {S : Nat → Nat → Nat} {IC IM IC' IM' : gI} (h : pv S IC IM) (hC : ∀ o, o < 9 → IC' o = IC o) (hM : ∀ k, k < 3 ∨ (29 ≤ k ∧ k < 81) → IM' 1 k = IM 1 k) : pv S IC' IM' := by
  obtain ⟨h1, h2, h3, h4, h5⟩ := h
  refine ⟨h1, ?_, fun s hs => ?_, fun b hb => ?_, fun s hs => ?_⟩
  · rw [hC 1 (by omega), hM 0 (by omega), hM 1 (by omega), hM 2 (by omega)]; exact h2
  · rw [hC 2 (by omega), hC 3 (by omega), hM _ (by omega), hM _ (by omega)]; exact h3 s hs
  · rw [hC 4 (by omega), hC 5 (by omega), hC 6 (by omega), hC 7 (by omega), hM _ (by omega), hM _ (by omega), hM _ (by omega), hM _ (by omega)]; exact h4 b hb
  · rw [hC 8 (by omega), hM _ (by omega)]; exact h5 s hs
theorem wv_eq {S : Nat → Nat → Nat} {w w' : Nat} {IC IM IC' IM' : gI} (h : wv S w IC IM) (h0 : IC' w' = IC w) (h1 : IC' (w' + 1) = IC (w + 1)) (h2 : IC' (w' + 2) = IC (w + 2)) (h3 : IC' (w' + 3) = IC (w + 3)) (hM : ∀ k, (6 ≤ k ∧ k < 29) ∨ (1567 ≤ k ∧ k < 1592) → IM' 1 k = IM 1 k) : wv S w' IC' IM' := by
  obtain ⟨a1, a2, a3, a4, a5, a6⟩ := h
  refine ⟨a1, ?_, fun s hs => ?_, fun b hb => ?_, fun b hb => ?_, fun i hi => ?_⟩
  · rw [h0, hM 6 (by omega), hM 7 (by omega), hM 8 (by omega), hM 9 (by omega), hM 10 (by omega)]; exact a2
  · rw [hM _ (by omega)]; exact a3 s hs
  · rw [h2]; exact a4 b hb
  · rw [h1, hM _ (by omega)]; exact a5 b hb
  · rw [h3, hM _ (by omega)]; exact a6 i hi
theorem sv_eq {S : Nat → Nat → Nat} {IC IM IC' IM' : gI} (h : sv S IC IM) (hC : eqC IC IC') (hM : eqM IM IM') : sv S IC' IM' :=
  ⟨pv_eq h.1 (fun o ho => hC o (by omega)) (fun k _ => by rw [hM.1]), wv_eq h.2 (hC _ (by omega)) (hC _ (by omega)) (hC _ (by omega)) (hC _ (by omega)) (fun k _ => by rw [hM.1])⟩
section SV
variable {S : Nat → Nat → Nat} {IC IM : gI} {s b k : Nat}
theorem v_nb7 (h : sv S IC IM) : IM 1 0 = nI (S 0 0) := h.1.2.1.1
theorem v_nb6 (h : sv S IC IM) : IC 1 12 = nI (S 0 0) := h.1.2.1.2.1
theorem v_nt7 (h : sv S IC IM) : IM 1 1 = nI (S 0 1) := h.1.2.1.2.2.1
theorem v_nt6 (h : sv S IC IM) : IC 1 13 = nI (S 0 1) := h.1.2.1.2.2.2.1
theorem v_ru7 (h : sv S IC IM) : IM 1 2 = oI (S 0 2) := h.1.2.1.2.2.2.2.2
theorem v_ru6 (h : sv S IC IM) : IC 1 14 = oI (S 0 2) := h.1.2.1.2.2.2.2.1
theorem v_od7 (h : sv S IC IM) (hs : s < 5) : IM 1 (29 + s) = nI (S 1 s) := (h.1.2.2.1 s hs).2.1
theorem v_od6 (h : sv S IC IM) (hs : s < 5) : IC 2 s = nI (S 1 s) := (h.1.2.2.1 s hs).2.2.1
theorem v_wo7 (h : sv S IC IM) (hs : s < 5) : IM 1 (34 + s) = nI (S 2 s) := (h.1.2.2.1 s hs).2.2.2.1
theorem v_wo6 (h : sv S IC IM) (hs : s < 5) : IC 3 s = nI (S 2 s) := (h.1.2.2.1 s hs).2.2.2.2
theorem v_wa7 (h : sv S IC IM) (hb : b < 6) : IM 1 (39 + b) = nI (S 3 b) := (h.1.2.2.2.1 b hb).2.1.1
theorem v_wa6 (h : sv S IC IM) (hb : b < 6) : IC 4 b = nI (S 3 b) := (h.1.2.2.2.1 b hb).2.1.2
theorem v_fr7 (h : sv S IC IM) (hb : b < 6) : IM 1 (45 + b) = nI (S 4 b) := (h.1.2.2.2.1 b hb).2.2.1.1
theorem v_fr6 (h : sv S IC IM) (hb : b < 6) : IC 5 b = nI (S 4 b) := (h.1.2.2.2.1 b hb).2.2.1.2
theorem v_to7 (h : sv S IC IM) (hb : b < 6) : IM 1 (51 + b) = nI (S 5 b) := (h.1.2.2.2.1 b hb).2.2.2.1.1
theorem v_to6 (h : sv S IC IM) (hb : b < 6) : IC 6 b = nI (S 5 b) := (h.1.2.2.2.1 b hb).2.2.2.1.2
theorem v_be7 (h : sv S IC IM) (hb : b < 6) : IM 1 (57 + b) = nI (S 6 b) := (h.1.2.2.2.1 b hb).2.2.2.2.1
theorem v_be6 (h : sv S IC IM) (hb : b < 6) : IC 7 b = nI (S 6 b) := (h.1.2.2.2.1 b hb).2.2.2.2.2
theorem v_vl7 (h : sv S IC IM) (hs : s < 12) : IM 1 (69 + s) = nI (S 7 s) := (h.1.2.2.2.2 s hs).2.1
theorem v_vl6 (h : sv S IC IM) (hs : s < 12) : IC 8 s = nI (S 7 s) := (h.1.2.2.2.2 s hs).2.2
theorem v_da7 (h : sv S IC IM) : IM 1 6 = nI (S 10 0) := h.2.2.1.1
theorem v_da6 (h : sv S IC IM) : IC 11 7 = nI (S 10 0) := h.2.2.1.2.1
theorem v_dx7 (h : sv S IC IM) : IM 1 7 = nI (S 10 1) := h.2.2.1.2.2.1
theorem v_dx6 (h : sv S IC IM) : IC 11 8 = nI (S 10 1) := h.2.2.1.2.2.2.1
theorem v_fu7 (h : sv S IC IM) : IM 1 8 = nI (S 10 2) := h.2.2.1.2.2.2.2.1
theorem v_fu6 (h : sv S IC IM) : IC 11 6 = nI (S 10 2) := h.2.2.1.2.2.2.2.2.1
theorem v_so7 (h : sv S IC IM) : IM 1 9 = nI (S 10 3) := h.2.2.1.2.2.2.2.2.2.1
theorem v_so6 (h : sv S IC IM) : IC 11 5 = nI (S 10 3) := h.2.2.1.2.2.2.2.2.2.2.1
theorem v_ln7 (h : sv S IC IM) : IM 1 10 = nI (S 10 4) := h.2.2.1.2.2.2.2.2.2.2.2.1
theorem v_ln6 (h : sv S IC IM) : IC 11 3 = nI (S 10 4) := h.2.2.1.2.2.2.2.2.2.2.2.2.1
theorem v_f6 (h : sv S IC IM) : IC 11 4 = nI (S 10 5) := h.2.2.1.2.2.2.2.2.2.2.2.2.2
theorem v_sl7 (h : sv S IC IM) (hs : s < 12) : IM 1 (11 + s) = oI (S 11 s) := (h.2.2.2.1 s hs).2.1
theorem v_ow6 (h : sv S IC IM) (hb : b < 6) : IC 13 b = nI (S 12 b) := (h.2.2.2.2.1 b hb).2.1
theorem v_pu7 (h : sv S IC IM) (hb : b < 6) : IM 1 (23 + b) = nI (S 13 b) := (h.2.2.2.2.2.1 b hb).2.1
theorem v_pu6 (h : sv S IC IM) (hb : b < 6) : IC 12 b = nI (S 13 b) := (h.2.2.2.2.2.1 b hb).2.2
/-- bounds -/
theorem b_nb (h : sv S IC IM) : S 0 0 ≤ 6 ∧ S 0 1 ≤ 4 ∧ S 0 2 ≤ S 0 1 := h.1.1
theorem b_od (h : sv S IC IM) (hs : s < 5) : S 1 s < 10 ∧ S 2 s < 100 := (h.1.2.2.1 s hs).1
theorem b_bu (h : sv S IC IM) (hb : b < 6) : S 3 b < 32 ∧ S 4 b ≤ S 5 b ∧ S 5 b < 12 ∧ S 6 b < 1000 := (h.1.2.2.2.1 b hb).1
theorem b_vl (h : sv S IC IM) (hs : s < 12) : S 7 s < 100 := (h.1.2.2.2.2 s hs).1
theorem b_w (h : sv S IC IM) : S 10 0 < 10000 ∧ S 10 1 < 31039 ∧ S 10 2 < 100000 ∧ S 10 3 < 5 ∧ S 10 4 < 26 ∧ S 10 5 < 4096 := h.2.1
theorem b_sl (h : sv S IC IM) (hs : s < 12) : (S 11 s ≤ S 0 0 ∨ S 11 s = 7) ∧ ((S 10 5).testBit s = true ↔ S 11 s = 0) := ⟨(h.2.2.2.1 s hs).1, (h.2.2.2.1 s hs).2.2⟩
theorem b_ow (h : sv S IC IM) (hb : b < 6) : S 12 b < 4096 ∧ ∀ s, s < 12 → ((S 12 b).testBit s = true ↔ S 11 s = b + 1) := ⟨(h.2.2.2.2.1 b hb).1, (h.2.2.2.2.1 b hb).2.2⟩
theorem b_pu (h : sv S IC IM) (hb : b < 6) : S 13 b < 1000 := (h.2.2.2.2.2.1 b hb).1
theorem b_bk {i : Nat} (h : sv S IC IM) (hi : i < S 10 4) : rLine (IC 14 i) (IM 1 (1567 + i)) := h.2.2.2.2.2.2 i hi
end SV
