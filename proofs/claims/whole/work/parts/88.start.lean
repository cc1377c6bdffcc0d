-- 88: PURE PART: the relation holds at the start; all the cases (out of wip/whole/pure by pure.py)
theorem z_head : ∀ p, p = 1 ∨ p = 137 → ∀ q, (q = 1 ∧ p = 1) ∨ (q = 2 ∧ p = 137) → rPort IC0 p (IM0 q) 0 0 := by
  intro p hp q hq
  have h0 : ∀ k, k < 6 → IM0 q k = (if k = 2 then -1 else nI 0) := by
    rcases hq with ⟨rfl, _⟩ | ⟨rfl, _⟩ <;> decide +kernel
  have hc : IC0 p 12 = nI 0 ∧ IC0 p 13 = nI 0 ∧ IC0 p 14 = -1 ∧ IC0 p 15 = nI 0 ∧ IC0 p 16 = nI 0 ∧ IC0 p 17 = nI 0 ∧ IC0 p 18 = nI 0 ∧ IC0 p 19 = nI 0 := by
    rcases hp with rfl | rfl <;> decide +kernel
  have hbc : nI 0 = fJ6_bitCount_0f7a4 (nI 0) := by decide +kernel
  have ho : ∀ s, s < 5 → IM0 q (29 + s) = nI 1 ∧ IM0 q (34 + s) = nI (10 * s) ∧ IC0 (p + 1) s = nI 1 ∧ IC0 (p + 2) s = nI (10 * s) := by
    rcases hq with ⟨rfl, rfl⟩ | ⟨rfl, rfl⟩ <;> decide +kernel
  have hb : ∀ b, b < 6 → IM0 q (39 + b) = nI 0 ∧ IM0 q (45 + b) = nI 0 ∧ IM0 q (51 + b) = nI 0 ∧ IM0 q (57 + b) = nI 0 ∧ IM0 q (63 + b) = nI 0 ∧ IC0 (p + 3) b = nI 0 ∧ IC0 (p + 4) b = nI 0 ∧ IC0 (p + 5) b = nI 0 ∧ IC0 (p + 6) b = nI 0 := by
    rcases hq with ⟨rfl, rfl⟩ | ⟨rfl, rfl⟩ <;> decide +kernel
  have hv : ∀ s, s < 12 → IM0 q (69 + s) = nI 0 ∧ IC0 (p + 7) s = nI 0 ∧ IM0 q (11 + s) = -1 := by
    rcases hq with ⟨rfl, rfl⟩ | ⟨rfl, rfl⟩ <;> decide +kernel
  have hw : IM0 q 6 = nI 0 ∧ IM0 q 7 = nI 457 ∧ IM0 q 8 = nI 0 ∧ IM0 q 9 = nI 0 ∧ IM0 q 10 = nI 0 ∧ IC0 (p + 10) 3 = nI 0 ∧ IC0 (p + 10) 4 = nI 4095 ∧ IC0 (p + 10) 5 = nI 0 ∧ IC0 (p + 10) 6 = nI 0 ∧ IC0 (p + 10) 7 = nI 0 ∧ IC0 (p + 10) 8 = nI 457 := by
    rcases hq with ⟨rfl, rfl⟩ | ⟨rfl, rfl⟩ <;> decide +kernel
  have hu : ∀ b, b < 6 → IC0 (p + 10 + 1) b = nI 0 ∧ IC0 (p + 10 + 2) b = nI 0 ∧ IM0 q (23 + b) = nI 0 := by
    rcases hq with ⟨rfl, rfl⟩ | ⟨rfl, rfl⟩ <;> decide +kernel
  have nn : ∀ b, b < 6 → ¬ (-1 : Int32) = nI b := by decide
  have e0 := h0 0 (by omega)
  have e1 := h0 1 (by omega)
  have e2 := h0 2 (by omega)
  have e3 := h0 3 (by omega)
  have e4 := h0 4 (by omega)
  have e5 := h0 5 (by omega)
  rw [if_neg (by omega)] at e0 e1 e3 e4 e5
  rw [if_pos rfl] at e2
  obtain ⟨c12, c13, c14, c15, c16, c17, c18, c19⟩ := hc
  obtain ⟨w6, w7, w8, w9, w10, x3, x4, x5, x6, x7, x8⟩ := hw
  have i0 : ∀ n, 0 < n → inR (nI 0) n := fun n hn => inR_nI hn
  refine ⟨⟨by omega, by omega, e0, c12, e1, c13, c14.trans e2.symm, Or.inl e2⟩, ⟨0, 0, by omega, by omega, c16, c17, e4.trans hbc, fun b hb6 => Or.inl ⟨(hb b hb6).2.2.2.2.1, Nat.zero_testBit b, Nat.zero_testBit b⟩⟩, ⟨0, by omega, e5, c15, fun i hi => by omega⟩, fun s hs => ?_, fun b hb6 => ?_, fun s hs => ?_, ?_, ⟨0, 0, by omega, by omega, e3, c19, c18, fun i hi => by omega⟩, ⟨fun s b hs hb6 e => ?_, fun N i s b hN hi hN3 _ _ _ => ?_⟩⟩
  · obtain ⟨a1, a2, a3, a4⟩ := ho s hs
    rw [a1, a2, a3, a4]
    exact ⟨inR_nI (by omega), inR_nI (by omega), rfl, rfl⟩
  · obtain ⟨a1, a2, a3, a4, _, a6, a7, a8, a9⟩ := hb b hb6
    rw [a1, a2, a3, a4, a6, a7, a8, a9]
    exact ⟨i0 _ (by omega), ⟨0, 0, by omega, by omega, rfl, rfl⟩, i0 _ (by omega), rfl, rfl, rfl, rfl⟩
  · obtain ⟨a1, a2, _⟩ := hv s hs
    rw [a1, a2]
    exact ⟨i0 _ (by omega), rfl⟩
  · have sl : ∀ s, s < 12 → IM0 q (6 + (5 + s)) = -1 := fun s hs => by
      rw [show 6 + (5 + s) = 11 + s by omega]
      exact (hv s hs).2.2
    have tb : ∀ s, s < 12 → (4095 : Nat).testBit s = true := by decide
    refine ⟨⟨?_, ?_, ?_, ?_, ?_⟩, ⟨x7.trans w6.symm, x8.trans w7.symm, x6.trans w8.symm, x5.trans w9.symm, x3.trans w10.symm⟩, fun s hs => Or.inl (sl s hs), ⟨4095, by omega, x4, fun s hs => ⟨fun _ => sl s hs, fun _ => tb s hs⟩⟩, fun b hb6 => ⟨0, by omega, (hu b hb6).2.1, fun s hs => ⟨fun z => by rw [Nat.zero_testBit] at z; exact absurd z (by decide), fun z => absurd ((sl s hs).symm.trans z) (nn b hb6)⟩⟩, fun b hb6 => ?_, fun i n hn hi _ => ?_⟩
    · show inR (IM0 q (6 + 0)) _
      rw [show 6 + 0 = 6 from rfl, w6]; exact i0 _ (by omega)
    · show inR (IM0 q (6 + 1)) _
      rw [show 6 + 1 = 7 from rfl, w7]; exact inR_nI (by omega)
    · show inR (IM0 q (6 + 2)) _
      rw [show 6 + 2 = 8 from rfl, w8]; exact i0 _ (by omega)
    · show inR (IM0 q (6 + 3)) _
      rw [show 6 + 3 = 9 from rfl, w9]; exact i0 _ (by omega)
    · show inR (IM0 q (6 + 4)) _
      rw [show 6 + 4 = 10 from rfl, w10]; exact i0 _ (by omega)
    · show inR (IM0 q (6 + (17 + b))) _ ∧ _ = IM0 q (6 + (17 + b))
      rw [show 6 + (17 + b) = 23 + b by omega, (hu b hb6).2.2, (hu b hb6).1]
      exact ⟨i0 _ (by omega), rfl⟩
    · exfalso
      have hn' : IM0 q (6 + 4) = nI n := hn
      rw [show 6 + 4 = 10 from rfl, w10] at hn'
      have := (nI_eq (a := 0) (b := n) (by omega) (by omega)).mp hn'
      omega
  · exact absurd ((hv s hs).2.2.symm.trans e) (nn b hb6)
  · exfalso
    have := (nI_eq (a := 0) (b := N) (by omega) (by omega)).mp (e3.symm.trans hN)
    omega
theorem V0_0 : V0 IC0 IM0 J00 :=
  ⟨0, 0, 0, 0, Nat.le_refl _, z_head 1 (Or.inl rfl) 1 (Or.inl ⟨rfl, rfl⟩), z_head 137 (Or.inr rfl) 2 (Or.inr ⟨rfl, rfl⟩), ⟨0, by omega, by decide +kernel, by decide +kernel, fun i hi => by omega, by decide +kernel, by decide +kernel, by decide +kernel⟩, fun t ht => by omega⟩
/-- every call of the law keeps it -/
theorem V0_ok : lawOK V0 := ⟨case_0, case_1, case_2, case_3, case_4, case_5, case_6, case_7 BIDS_ok, case_8, case_9, case_10 BIDS_ok, case_11 EARN_ok, case_12, case_13 BIDS_ok EARN_ok, case_14, case_15 BIDS_ok EARN_ok, case_16, case_17, case_18, case_19, case_20 EARN_ok, case_21 BIDS_ok, case_22 BIDS_ok, case_23, case_24, case_25, case_26, case_27, case_28, case_29, case_30, case_31, case_32 BIDS_ok, case_33, case_34, case_35, case_36 BIDS_ok, case_37, case_38, case_39, case_40, case_41, case_42 BIDS_ok, case_43, case_44, case_45, case_46, case_47, case_48, case_49, case_50 BIDS_ok, case_51, case_52 BIDS_ok, case_53, case_54, case_55, case_56⟩
