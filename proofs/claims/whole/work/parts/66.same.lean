-- 66: PURE PART: one sum's codes, both sides, the same value (out of wip/whole/pure by pure.py)
def xr (k : Nat) (x : Int32) : Prop := (k = 0 → bdd x) ∧ (k = 1 → x = nI 0 ∨ x = nI 1)
def exC (S : Nat → Nat → Nat) (b s w t law E : Nat) (IC : gI) (d i j : Nat) (x : Int32) : Prop := ∀ (C M : gI) (sp st : Nat), sv S (fw w C) M → (∀ o, 296 ≤ o → C o = IC o) → sp + d ≤ 64 → st + (j - i) ≤ 300 → j ≤ E → ∃ (C' : gI) (m : Nat), m ≤ j - i ∧ fC C C' ∧ C' 288 sp = x ∧ (∀ a, a < sp → C' 288 a = C 288 a) ∧ ∀ n, fX2_worked_14 (296 + 8 * t) w (n + m) (nI law) (nI b) (nI s) (nI sp) (nI i) (nI st) C = fX2_worked_14 (296 + 8 * t) w n (nI law) (nI b) (nI s) (nI (sp + 1)) (nI j) (nI (st + m)) C'
def exM (S : Nat → Nat → Nat) (b s w t c Q : Nat) (IM : gI) (k p q : Nat) (x : Int32) : Prop := ∀ (C M : gI) (J : gJ) (u1 u2 : Nat), sv S (fw w C) M → M 3 = IM 3 → (∀ v, v < 8 → M 6 v = nI (nvS S b s v)) → u1 + (q - p) ≤ 330 → u2 + (q - p) ≤ 330 → q ≤ Q → ∃ (M' : gI) (J' : gJ), (∀ o, o ≠ 8 → M' o = M o) ∧ (∀ a, a < u2 → M' 8 a = M 8 a) ∧ (∀ a, a < u1 → J' 7 a = J 7 a) ∧ (k = 0 → J' 7 u1 = x.toInt64) ∧ (k = 1 → M' 8 u2 = x) ∧ ∀ n, fX7_summedUp_38 (n + (q - p)) (nI (681 * t + 1 + 3 * c)) (nI (681 * t + 73)) (nI u1) (nI u2) (nI p) M J = fX7_summedUp_38 n (nI (681 * t + 1 + 3 * c)) (nI (681 * t + 73)) (nI (u1 + (1 - k))) (nI (u2 + k)) (nI q) M' J'
theorem rc_at {tx : Nat → Int32} {t p : Nat} (h : p < 304) : rC tx t p = tx (681 * t + 73 + 2 * p) := by
  unfold rC
  rw [if_pos h, Nat.add_assoc]
theorem ro_at {tx : Nat → Int32} {t p : Nat} (h : p < 304) : rO tx t p = tx (681 * t + 73 + 2 * p + 1) := by
  unfold rO
  rw [if_pos h]
  congr 1
  omega
theorem sv_8 {S : Nat → Nat → Nat} {A M M' : gI} (g : sv S A M) (h : ∀ o, o ≠ 8 → M' o = M o) : sv S A M' := sv_f g fC_rf (fun o _ b => h o b)
theorem sv_w {S : Nat → Nat → Nat} {w : Nat} {C C' M : gI} (hw : w = 11 ∨ w = 289) (g : sv S (fw w C) M) (h : fC C C') : sv S (fw w C') M := by
  refine sv_eq g (fun o ho => ?_) eqM_rf
  funext k
  unfold fw
  by_cases h1 : o = 11
  · rw [if_pos h1, if_pos h1, h 11 (by omega), h w (by omega)]
  · rw [if_neg h1, if_neg h1]
    by_cases h2 : o = 12
    · rw [if_pos h2, if_pos h2, h (w + 1) (by omega)]
    · rw [if_neg h2, if_neg h2]
      by_cases h3 : o = 13
      · rw [if_pos h3, if_pos h3, h (w + 2) (by omega)]
      · rw [if_neg h3, if_neg h3, h o (by omega)]
theorem fC_288 {C : gI} {k : Nat} {x : Int32} : fC C (wI C 288 k x) := fun o ho => wI_o ho
section EV
variable {S : Nat → Nat → Nat} {b s w t law E c Q : Nat} {IC IM : gI}
theorem ev_bin (hw : w = 11 ∨ w = 289) (hl : law < 2) (hE : IC (296 + 8 * t + 7) law = nI E) (hE3 : E ≤ 300) {d1 d2 i j k y : Nat} {x1 x2 : Int32} {z : Int64} (hd2 : 1 ≤ d2) (hij : i < j) (hjk : j < k) (h1 : exC S b s w t law E IC d1 i j x1) (h2 : exC S b s w t law E IC d2 j k x2) (hy : y = 16 ∨ y = 17 ∨ y = 25 ∨ y = 26 ∨ y = 27 ∨ y = 28 ∨ y = 29 ∨ y = 30 ∨ y = 31 ∨ y = 32 ∨ y = 33 ∨ y = 34) (hc : IC (296 + 8 * t + 4) k = nI y) (hx : fX2_ofTwo (nI y) x1.toInt64 x2.toInt64 = some z) : exC S b s w t law E IC (max d1 (d2 + 1)) i (k + 1) (fX2_limited z) := by
  intro C M sp st g hT hsp hst hkE
  obtain ⟨C1, m1, a1, f1, v1, b1, e1⟩ := h1 C M sp st g hT (by omega) (by omega) (by omega)
  obtain ⟨C2, m2, a2, f2, v2, b2, e2⟩ := h2 C1 M (sp + 1) (st + m1) (sv_w hw g f1) (fun o ho => (f1 o (by omega)).trans (hT o ho)) (by omega) (by omega) (by omega)
  have hT2 : ∀ o, 296 ≤ o → C2 o = IC o := fun o ho => (f2 o (by omega)).trans ((f1 o (by omega)).trans (hT o ho))
  have hv : C2 288 sp = x1 := (b2 sp (by omega)).trans v1
  refine ⟨wI C2 288 sp (fX2_limited z), m1 + m2 + 1, by omega, fC_tr (fC_tr f1 f2) fC_288, wI_eq, fun a ha => ?_, fun n => ?_⟩
  · rw [wI_ne (by omega), b2 a (by omega), b1 a ha]
  · rw [show n + (m1 + m2 + 1) = (n + 1 + m2) + m1 by omega, e1, e2]
    have h3 := w6two (t := t) (w := w) (b := b) (s := s) (st := st + m1 + m2) (n := n) (C := C2) (law := law) (E := E) (sp := sp) (q := k) hl (by rw [hT2 _ (by omega)]; exact hE) hE3 (by omega) (by omega) (by omega) hy (by rw [hT2 _ (by omega)]; exact hc) (by rw [hv, v2]; exact hx)
    rw [show sp + 1 + 1 = sp + 2 by omega, h3, show st + m1 + m2 + 1 = st + (m1 + m2 + 1) by omega]
theorem ev_all (hw : w = 11 ∨ w = 289) (hnb : S 0 0 ≤ 6) (hb : b < 6) (hs : s < 5) (ht : t < 4) (hl : law < 2) (hE : IC (296 + 8 * t + 7) law = nI E) (hE3 : E ≤ 300) (hc24 : c < 24) (hQ : IM 3 (681 * t + 1 + 3 * c + 2) = nI Q) (hQ3 : Q ≤ 300) {k d i j p q : Nat} (h : Cor (IC (296 + 8 * t + 4)) (IC (296 + 8 * t + 5)) (rC (IM 3) t) (rO (IM 3) t) k d i j p q) : i < j ∧ p < q ∧ 1 ≤ d ∧ (q ≤ 300 → ∃ x, xr k x ∧ exC S b s w t law E IC d i j x ∧ exM S b s w t c Q IM k p q x) := by
  refine h (fun k d i j p q => i < j ∧ p < q ∧ 1 ≤ d ∧ (q ≤ 300 → ∃ x, xr k x ∧ exC S b s w t law E IC d i j x ∧ exM S b s w t c Q IM k p q x)) ⟨?_, ?_, ?_, ?_, ?_, ?_, ?_, ?_⟩
  · -- a number
    intro i p n hn c1 c2 c3 c4
    refine ⟨by omega, by omega, by omega, fun hq => ⟨nI n, ⟨fun _ => bdd_nI (by omega), fun e => absurd e (by decide)⟩, ?_, ?_⟩⟩
    · intro C M sp st g hT hsp hst hjE
      refine ⟨wI C 288 sp (nI n), 1, by omega, fC_288, wI_eq, fun a ha => wI_ne (by omega), fun m => ?_⟩
      exact w6num (n := m) hl (by rw [hT _ (by omega)]; exact hE) hE3 (by omega) (by omega) (by omega) (by rw [hT _ (by omega)]; exact c1) (by rw [hT _ (by omega)]; exact c2)
    · intro C M J u1 u2 g hM hN h1 h2 hqQ
      rw [rc_at (by omega)] at c3
      rw [ro_at (by omega)] at c4
      refine ⟨M, wJ J 7 u1 (lN n), fun _ _ => rfl, fun _ _ => rfl, fun a ha => wJ_n (by omega), fun _ => ?_, fun e => absurd e (by decide), fun m => ?_⟩
      · rw [wJ_e, i2l (by omega)]
      · rw [show p + 1 - p = 1 by omega]
        exact u7num (n := m) ht hc24 (by rw [hM]; exact hQ) hQ3 (by omega) (by omega) (by rw [hM]; exact c3) (by rw [hM]; exact c4) hn
  · -- a name
    intro i p v hv c1 c2 c3
    have hbd : ∀ C M, sv S (fw w C) M → nvS S b s v ≤ 10000 := fun C M g => nvS_le g hb hs
    by_cases hle : nvS S b s v ≤ 10000
    · refine ⟨by omega, by omega, by omega, fun hq => ⟨nI (nvS S b s v), ⟨fun _ => bdd_nI (by omega), fun e => absurd e (by decide)⟩, ?_, ?_⟩⟩
      · intro C M sp st g hT hsp hst hjE
        refine ⟨wI C 288 sp (nI (nvS S b s v)), 1, by omega, fC_288, wI_eq, fun a ha => wI_ne (by omega), fun m => ?_⟩
        exact w6name (n := m) hl (by rw [hT _ (by omega)]; exact hE) hE3 (by omega) (by omega) (by omega) hv (by rw [hT _ (by omega)]; exact c1) (nm6 g hb hs hv)
      · intro C M J u1 u2 g hM hN h1 h2 hqQ
        rw [rc_at (by omega)] at c2
        rw [ro_at (by omega)] at c3
        refine ⟨M, wJ J 7 u1 (lN (nvS S b s v)), fun _ _ => rfl, fun _ _ => rfl, fun a ha => wJ_n (by omega), fun _ => ?_, fun e => absurd e (by decide), fun m => ?_⟩
        · rw [wJ_e, i2l (by omega)]
        · rw [show p + 1 - p = 1 by omega]
          exact u7name (n := m) ht hc24 (by rw [hM]; exact hQ) hQ3 (by omega) (by omega) (by rw [hM]; exact c2) (by rw [hM]; exact c3) hv (hN v hv) hle
    · exact ⟨by omega, by omega, by omega, fun hq => ⟨nI 0, ⟨fun _ => bdd_nI (by omega), fun e => absurd e (by decide)⟩, fun C M sp st g => absurd (hbd C M g) hle, fun C M J u1 u2 g => absurd (hbd C M g) hle⟩⟩
  · -- on one
    intro d i j p q x y hu c1 c2 ih
    obtain ⟨i1, i2, i3, ih⟩ := ih
    refine ⟨by omega, by omega, i3, fun hq => ?_⟩
    obtain ⟨v, hv, e6, e7⟩ := ih (by omega)
    obtain ⟨v', hv', hone⟩ := un67 hnb hu (hv.1 rfl)
    refine ⟨v', ⟨fun _ => hv', fun e => absurd e (by decide)⟩, ?_, ?_⟩
    · intro C M sp st g hT hsp hst hjE
      obtain ⟨C1, m1, a1, f1, v1, b1, x1⟩ := e6 C M sp st g hT hsp (by omega) (by omega)
      have hT1 : ∀ o, 296 ≤ o → C1 o = IC o := fun o ho => (f1 o (by omega)).trans (hT o ho)
      refine ⟨wI C1 288 sp v', m1 + 1, by omega, fC_tr f1 fC_288, wI_eq, fun a ha => by rw [wI_ne (by omega)]; exact b1 a ha, fun n => ?_⟩
      rw [show n + (m1 + 1) = (n + 1) + m1 by omega, x1]
      have hyy : x = 10 ∨ x = 11 ∨ x = 38 ∨ x = 18 := by
        rcases hu with ⟨z, _⟩ | ⟨z, _⟩ | ⟨z, _⟩ <;> omega
      have h3 := w6one (n := n) (t := t) (w := w) (b := b) (s := s) (st := st + m1) (C := C1) (sp := sp) (q := j) (law := law) (E := E) hl (by rw [hT1 _ (by omega)]; exact hE) hE3 (by omega) (by omega) (by omega) hyy (by rw [hT1 _ (by omega)]; exact c1) (by rw [v1]; exact (hone w C1 M (sv_w hw g f1)).1)
      rw [h3, show st + m1 + 1 = st + (m1 + 1) by omega]
    · intro C M J u1 u2 g hM hN h1 h2 hqQ
      rw [rc_at (by omega)] at c2
      obtain ⟨M1, J1, f1, t1, j1, k0, k1, x1⟩ := e7 C M J u1 u2 g hM hN (by omega) (by omega) (by omega)
      have hM1 : M1 3 = IM 3 := (f1 3 (by omega)).trans hM
      refine ⟨M1, wJ J1 7 u1 v'.toInt64, f1, t1, fun a ha => by rw [wJ_n (by omega)]; exact j1 a ha, fun _ => wJ_e, fun e => absurd e (by decide), fun n => ?_⟩
      rw [show n + (q + 1 - p) = (n + 1) + (q - p) by omega, x1]
      have hyy : y = 2 ∨ y = 4 ∨ y = 5 := by
        rcases hu with ⟨_, z⟩ | ⟨_, z⟩ | ⟨_, z⟩ <;> omega
      exact u7one (n := n) ht hc24 (by rw [hM1]; exact hQ) hQ3 (by omega) (by omega) hyy (by rw [hM1]; exact c2) (by rw [k0 rfl]; exact (hone w C M1 (sv_8 g f1)).2)
  · -- between two
    intro d1 d2 i j k p q r x y hu c1 c2 ih1 ih2
    obtain ⟨i1, i2, i3, ih1⟩ := ih1
    obtain ⟨i4, i5, i6, ih2⟩ := ih2
    refine ⟨by omega, by omega, by omega, fun hq => ?_⟩
    obtain ⟨v1, hv1, e61, e71⟩ := ih1 (by omega)
    obtain ⟨v2, hv2, e62, e72⟩ := ih2 (by omega)
    obtain ⟨z, v', hv', z6, z6', z7⟩ := bi67 hu v1 v2
    refine ⟨v', ⟨fun _ => hv', fun e => absurd e (by decide)⟩, ?_, ?_⟩
    · rw [← z6']
      refine ev_bin hw hl hE hE3 i6 i1 i4 e61 e62 ?_ c1 z6
      rcases hu with ⟨z, _⟩ | ⟨z, _⟩ | ⟨z, _⟩ | ⟨z, _⟩ <;> omega
    · intro C M J u1 u2 g hM hN h1 h2 hqQ
      rw [rc_at (by omega)] at c2
      obtain ⟨M1, J1, f1, t1, j1, k0, k1, x1⟩ := e71 C M J u1 u2 g hM hN (by omega) (by omega) (by omega)
      have g1 := sv_8 g f1
      have hM1 : M1 3 = IM 3 := (f1 3 (by omega)).trans hM
      obtain ⟨M2, J2, f2, t2, j2, l0, l1, x2⟩ := e72 C M1 J1 (u1 + 1) u2 g1 hM1 (fun v hv => by rw [f1 6 (by omega)]; exact hN v hv) (by omega) (by omega) (by omega)
      have hM2 : M2 3 = IM 3 := (f2 3 (by omega)).trans hM1
      refine ⟨M2, wJ J2 7 u1 v'.toInt64, fun o ho => (f2 o ho).trans (f1 o ho), fun a ha => (t2 a ha).trans (t1 a ha), fun a ha => by rw [wJ_n (by omega), j2 a (by omega), j1 a ha], fun _ => wJ_e, fun e => absurd e (by decide), fun n => ?_⟩
      rw [show n + (r + 1 - p) = (n + 1 + (r - q)) + (q - p) by omega, x1]
      show fX7_summedUp_38 (n + 1 + (r - q)) _ _ (nI (u1 + 1)) (nI u2) _ _ _ = _
      rw [x2]
      have hyy : y = 6 ∨ y = 7 ∨ y = 8 ∨ y = 9 := by
        rcases hu with ⟨_, z⟩ | ⟨_, z⟩ | ⟨_, z⟩ | ⟨_, z⟩ <;> omega
      exact u7two (n := n) ht hc24 (by rw [hM2]; exact hQ) hQ3 (by omega) (by omega) hyy (by rw [hM2]; exact c2) (by rw [l0 rfl, j2 u1 (by omega), k0 rfl]; exact z7)
  · -- compared
    intro d1 d2 i j k p q r x y hu c1 c2 ih1 ih2
    obtain ⟨i1, i2, i3, ih1⟩ := ih1
    obtain ⟨i4, i5, i6, ih2⟩ := ih2
    refine ⟨by omega, by omega, by omega, fun hq => ?_⟩
    obtain ⟨v1, hv1, e61, e71⟩ := ih1 (by omega)
    obtain ⟨v2, hv2, e62, e72⟩ := ih2 (by omega)
    obtain ⟨z, v', hv', z6, z6', z7⟩ := cm67 hu v1.toInt64 v2.toInt64
    refine ⟨v', ⟨fun e => absurd e (by decide), fun _ => hv'⟩, ?_, ?_⟩
    · rw [← z6']
      refine ev_bin hw hl hE hE3 i6 i1 i4 e61 e62 ?_ c1 z6
      rcases hu with ⟨z, _⟩ | ⟨z, _⟩ | ⟨z, _⟩ | ⟨z, _⟩ | ⟨z, _⟩ | ⟨z, _⟩ <;> omega
    · intro C M J u1 u2 g hM hN h1 h2 hqQ
      rw [rc_at (by omega)] at c2
      obtain ⟨M1, J1, f1, t1, j1, k0, k1, x1⟩ := e71 C M J u1 u2 g hM hN (by omega) (by omega) (by omega)
      have g1 := sv_8 g f1
      have hM1 : M1 3 = IM 3 := (f1 3 (by omega)).trans hM
      obtain ⟨M2, J2, f2, t2, j2, l0, l1, x2⟩ := e72 C M1 J1 (u1 + 1) u2 g1 hM1 (fun v hv => by rw [f1 6 (by omega)]; exact hN v hv) (by omega) (by omega) (by omega)
      have hM2 : M2 3 = IM 3 := (f2 3 (by omega)).trans hM1
      refine ⟨wI M2 8 u2 v', J2, fun o ho => by rw [wI_o ho]; exact (f2 o ho).trans (f1 o ho), fun a ha => by rw [wI_ne (by omega)]; exact (t2 a ha).trans (t1 a ha), fun a ha => by rw [j2 a (by omega), j1 a ha], fun e => absurd e (by decide), fun _ => wI_eq, fun n => ?_⟩
      rw [show n + (r + 1 - p) = (n + 1 + (r - q)) + (q - p) by omega, x1]
      show fX7_summedUp_38 (n + 1 + (r - q)) _ _ (nI (u1 + 1)) (nI u2) _ _ _ = _
      rw [x2]
      have hyy : y = 10 ∨ y = 11 ∨ y = 12 ∨ y = 13 ∨ y = 14 ∨ y = 15 := by
        rcases hu with ⟨_, z⟩ | ⟨_, z⟩ | ⟨_, z⟩ | ⟨_, z⟩ | ⟨_, z⟩ | ⟨_, z⟩ <;> omega
      exact u7cmp (n := n) ht hc24 (by rw [hM2]; exact hQ) hQ3 (by omega) (by omega) (by omega) hyy (by rw [hM2]; exact c2) (by rw [l0 rfl, j2 u1 (by omega), k0 rfl]; exact z7)
  · -- and, or
    intro d1 d2 i j k p q r x y hu c1 c2 ih1 ih2
    obtain ⟨i1, i2, i3, ih1⟩ := ih1
    obtain ⟨i4, i5, i6, ih2⟩ := ih2
    refine ⟨by omega, by omega, by omega, fun hq => ?_⟩
    obtain ⟨v1, hv1, e61, e71⟩ := ih1 (by omega)
    obtain ⟨v2, hv2, e62, e72⟩ := ih2 (by omega)
    obtain ⟨z, v', hv', z6, z6', z7⟩ := jo67 hu (hv1.2 rfl) (hv2.2 rfl)
    refine ⟨v', ⟨fun e => absurd e (by decide), fun _ => hv'⟩, ?_, ?_⟩
    · rw [← z6']
      refine ev_bin hw hl hE hE3 i6 i1 i4 e61 e62 ?_ c1 z6
      rcases hu with ⟨z, _⟩ | ⟨z, _⟩ <;> omega
    · intro C M J u1 u2 g hM hN h1 h2 hqQ
      rw [rc_at (by omega)] at c2
      obtain ⟨M1, J1, f1, t1, j1, k0, k1, x1⟩ := e71 C M J u1 u2 g hM hN (by omega) (by omega) (by omega)
      have g1 := sv_8 g f1
      have hM1 : M1 3 = IM 3 := (f1 3 (by omega)).trans hM
      obtain ⟨M2, J2, f2, t2, j2, l0, l1, x2⟩ := e72 C M1 J1 u1 (u2 + 1) g1 hM1 (fun v hv => by rw [f1 6 (by omega)]; exact hN v hv) (by omega) (by omega) (by omega)
      have hM2 : M2 3 = IM 3 := (f2 3 (by omega)).trans hM1
      refine ⟨wI M2 8 u2 v', J2, fun o ho => by rw [wI_o ho]; exact (f2 o ho).trans (f1 o ho), fun a ha => by rw [wI_ne (by omega)]; exact (t2 a (by omega)).trans (t1 a ha), fun a ha => by rw [j2 a (by omega), j1 a ha], fun e => absurd e (by decide), fun _ => wI_eq, fun n => ?_⟩
      rw [show n + (r + 1 - p) = (n + 1 + (r - q)) + (q - p) by omega, x1]
      show fX7_summedUp_38 (n + 1 + (r - q)) _ _ (nI u1) (nI (u2 + 1)) _ _ _ = _
      rw [x2]
      have hyy : y = 21 ∨ y = 22 := by
        rcases hu with ⟨_, z⟩ | ⟨_, z⟩ <;> omega
      exact u7join (n := n) ht hc24 (by rw [hM2]; exact hQ) hQ3 (by omega) (by omega) hyy (by rw [hM2]; exact c2) (by rw [l1 rfl, t2 u2 (by omega), k1 rfl]; exact z7)
  · -- not
    intro d i j p q c1 c2 ih
    obtain ⟨i1, i2, i3, ih⟩ := ih
    refine ⟨by omega, by omega, i3, fun hq => ?_⟩
    obtain ⟨v, hv, e6, e7⟩ := ih (by omega)
    have hv01 := hv.2 rfl
    have hone : ∀ C, fX2_ofOne w (nI 18) v C = some (gi (v = nI 0) (nI 1) (nI 0)) := by
      intro C
      unfold fX2_ofOne
      rcases hv01 with rfl | rfl
      · rw [gi_neg (show ¬ nI 18 = (10 : Int32) by decide), gi_neg (show ¬ nI 18 = (11 : Int32) by decide), gi_pos (show nI 18 = (18 : Int32) from rfl), gi_pos rfl]
        rfl
      · rw [gi_neg (show ¬ nI 18 = (10 : Int32) by decide), gi_neg (show ¬ nI 18 = (11 : Int32) by decide), gi_pos (show nI 18 = (18 : Int32) from rfl), gi_neg (show ¬ nI 1 = nI 0 by decide)]
        rfl
    have hv' : gi (v = nI 0) (nI 1) (nI 0) = nI 0 ∨ gi (v = nI 0) (nI 1) (nI 0) = nI 1 := by
      by_cases z : v = nI 0
      · rw [gi_pos z]; exact Or.inr rfl
      · rw [gi_neg z]; exact Or.inl rfl
    refine ⟨gi (v = nI 0) (nI 1) (nI 0), ⟨fun e => absurd e (by decide), fun _ => hv'⟩, ?_, ?_⟩
    · intro C M sp st g hT hsp hst hjE
      obtain ⟨C1, m1, a1, f1, v1, b1, x1⟩ := e6 C M sp st g hT hsp (by omega) (by omega)
      have hT1 : ∀ o, 296 ≤ o → C1 o = IC o := fun o ho => (f1 o (by omega)).trans (hT o ho)
      refine ⟨wI C1 288 sp (gi (v = nI 0) (nI 1) (nI 0)), m1 + 1, by omega, fC_tr f1 fC_288, wI_eq, fun a ha => by rw [wI_ne (by omega)]; exact b1 a ha, fun n => ?_⟩
      rw [show n + (m1 + 1) = (n + 1) + m1 by omega, x1]
      have h3 := w6one (n := n) (t := t) (w := w) (b := b) (s := s) (st := st + m1) (C := C1) (sp := sp) (q := j) (law := law) (E := E) hl (by rw [hT1 _ (by omega)]; exact hE) hE3 (by omega) (by omega) (by omega) (Or.inr (Or.inr (Or.inr rfl))) (by rw [hT1 _ (by omega)]; exact c1) (by rw [v1]; exact hone C1)
      rw [h3, show st + m1 + 1 = st + (m1 + 1) by omega]
    · intro C M J u1 u2 g hM hN h1 h2 hqQ
      rw [rc_at (by omega)] at c2
      obtain ⟨M1, J1, f1, t1, j1, k0, k1, x1⟩ := e7 C M J u1 u2 g hM hN (by omega) (by omega) (by omega)
      have hM1 : M1 3 = IM 3 := (f1 3 (by omega)).trans hM
      refine ⟨wI M1 8 u2 (gi (v = nI 0) (nI 1) (nI 0)), J1, fun o ho => by rw [wI_o ho]; exact f1 o ho, fun a ha => by rw [wI_ne (by omega)]; exact t1 a ha, j1, fun e => absurd e (by decide), fun _ => wI_eq, fun n => ?_⟩
      rw [show n + (q + 1 - p) = (n + 1) + (q - p) by omega, x1]
      exact u7not (n := n) ht hc24 (by rw [hM1]; exact hQ) hQ3 (by omega) (by omega) (by rw [hM1]; exact c2) (k1 rfl)
  · -- if then else end
    intro d1 d2 d3 i j k l p q r s' c1 c2 c3 c4 c5 ih1 ih2 ih3
    obtain ⟨i1, i2, i3, ih1⟩ := ih1
    obtain ⟨i4, i5, i6, ih2⟩ := ih2
    obtain ⟨i7, i8, i9, ih3⟩ := ih3
    refine ⟨by omega, by omega, by omega, fun hq => ?_⟩
    obtain ⟨v1, hv1, e61, e71⟩ := ih1 (by omega)
    obtain ⟨v2, hv2, e62, e72⟩ := ih2 (by omega)
    obtain ⟨v3, hv3, e63, e73⟩ := ih3 (by omega)
    refine ⟨gi (v1 = nI 0) v3 v2, ⟨fun _ => ?_, fun e => absurd e (by decide)⟩, ?_, ?_⟩
    · by_cases z : v1 = nI 0
      · rw [gi_pos z]; exact hv3.1 rfl
      · rw [gi_neg z]; exact hv2.1 rfl
    · intro C M sp st g hT hsp hst hjE
      obtain ⟨C1, m1, a1, f1, y1, b1, x1⟩ := e61 C M sp st g hT (by omega) (by omega) (by omega)
      have hT1 : ∀ o, 296 ≤ o → C1 o = IC o := fun o ho => (f1 o (by omega)).trans (hT o ho)
      have g1 := sv_w hw g f1
      have hthen : ∀ n, _ := fun n => w6then (n := n) (t := t) (w := w) (b := b) (s := s) (st := st + m1) (C := C1) (sp := sp) (q := j) (law := law) (E := E) (o := k + 1) hl (by rw [hT1 _ (by omega)]; exact hE) hE3 (by omega) (by omega) (by omega) (by rw [hT1 _ (by omega)]; exact c1) (by rw [hT1 _ (by omega)]; exact c2) y1
      by_cases z : v1 = nI 0
      · obtain ⟨C2, m2, a2, f2, y2, b2, x2⟩ := e63 C1 M sp (st + m1 + 1) g1 hT1 (by omega) (by omega) (by omega)
        refine ⟨C2, m1 + 1 + m2, by omega, fC_tr f1 f2, by rw [gi_pos z]; exact y2, fun a ha => (b2 a ha).trans (b1 a ha), fun n => ?_⟩
        rw [show n + (m1 + 1 + m2) = (n + m2 + 1) + m1 by omega, x1, hthen, gi_pos z, x2, show st + m1 + 1 + m2 = st + (m1 + 1 + m2) by omega]
      · obtain ⟨C2, m2, a2, f2, y2, b2, x2⟩ := e62 C1 M sp (st + m1 + 1) g1 hT1 (by omega) (by omega) (by omega)
        have hT2 : ∀ o, 296 ≤ o → C2 o = IC o := fun o ho => (f2 o (by omega)).trans (hT1 o ho)
        refine ⟨C2, m1 + 1 + m2 + 1, by omega, fC_tr f1 f2, by rw [gi_neg z]; exact y2, fun a ha => (b2 a ha).trans (b1 a ha), fun n => ?_⟩
        have h4 := w6else (n := n) (t := t) (w := w) (b := b) (s := s) (sp := sp + 1) (st := st + m1 + 1 + m2) (C := C2) (q := k) (law := law) (E := E) (o := l) hl (by rw [hT2 _ (by omega)]; exact hE) hE3 (by omega) (by omega) (by rw [hT2 _ (by omega)]; exact c3) (by rw [hT2 _ (by omega)]; exact c4)
        rw [show n + (m1 + 1 + m2 + 1) = (n + 1 + m2 + 1) + m1 by omega, x1, hthen, gi_neg z, x2, h4, show st + m1 + 1 + m2 + 1 = st + (m1 + 1 + m2 + 1) by omega]
    · intro C M J u1 u2 g hM hN h1 h2 hqQ
      rw [rc_at (by omega)] at c5
      obtain ⟨M1, J1, f1, t1, j1, k0, k1, x1⟩ := e71 C M J u1 u2 g hM hN (by omega) (by omega) (by omega)
      have g1 := sv_8 g f1
      have hM1 : M1 3 = IM 3 := (f1 3 (by omega)).trans hM
      obtain ⟨M2, J2, f2, t2, j2, l0, l1, x2⟩ := e72 C M1 J1 u1 (u2 + 1) g1 hM1 (fun v hv => by rw [f1 6 (by omega)]; exact hN v hv) (by omega) (by omega) (by omega)
      have g2 := sv_8 g1 f2
      have hM2 : M2 3 = IM 3 := (f2 3 (by omega)).trans hM1
      obtain ⟨M3, J3, f3, t3, j3, n0, n1, x3⟩ := e73 C M2 J2 (u1 + 1) (u2 + 1) g2 hM2 (fun v hv => by rw [f2 6 (by omega), f1 6 (by omega)]; exact hN v hv) (by omega) (by omega) (by omega)
      have hM3 : M3 3 = IM 3 := (f3 3 (by omega)).trans hM2
      have hm8 : M3 8 u2 = v1 := by rw [t3 u2 (by omega), t2 u2 (by omega)]; exact k1 rfl
      refine ⟨M3, gi (v1 = nI 0) (wJ J3 7 u1 (J3 7 (u1 + 1))) J3, fun o ho => (f3 o ho).trans ((f2 o ho).trans (f1 o ho)), fun a ha => by rw [t3 a (by omega), t2 a (by omega), t1 a ha], fun a ha => ?_, fun _ => ?_, fun e => absurd e (by decide), fun n => ?_⟩
      · by_cases z : v1 = nI 0
        · rw [gi_pos z, wJ_n (by omega), j3 a (by omega), j2 a (by omega), j1 a ha]
        · rw [gi_neg z, j3 a (by omega), j2 a (by omega), j1 a ha]
      · by_cases z : v1 = nI 0
        · rw [gi_pos z, gi_pos z, wJ_e]; exact n0 rfl
        · rw [gi_neg z, gi_neg z, j3 u1 (by omega)]; exact l0 rfl
      · rw [show n + (s' + 1 - p) = (n + 1 + (s' - r) + (r - q)) + (q - p) by omega, x1]
        show fX7_summedUp_38 (n + 1 + (s' - r) + (r - q)) _ _ (nI u1) (nI (u2 + 1)) _ _ _ = _
        rw [x2]
        show fX7_summedUp_38 (n + 1 + (s' - r)) _ _ (nI (u1 + 1)) (nI (u2 + 1)) _ _ _ = _
        rw [x3]
        exact u7sel (n := n) ht hc24 (by rw [hM3]; exact hQ) hQ3 (by omega) (by omega) (by omega) (by rw [hM3]; exact c5) hm8
end EV
