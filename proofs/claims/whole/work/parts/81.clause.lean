-- 81: PURE PART: a law's sum, numbers of a clause (out of wip/whole/pure by pure.py)
/-- the reference between sums: at token i, n codes -/
def QM (tk tv tp ep : Nat → Nat) (B : gI) (t i n : Nat) (M : gI) (J : gJ) : Prop := (M 0 7 = nI (ep i) ∧ M 0 8 = nI (tp i) ∧ tkR (tk i) (tv i) (M 0 9) (M 0 10) (J 0 11)) ∧ (M 4 = B 4 ∧ M 0 4 = B 0 4) ∧ M 0 12 = nI (681 * t) ∧ M 0 13 = nI n
/-- its token alone has changed, and texts -/
def TM (M M' : gI) : Prop := (∀ o, o ≠ 0 → o ≠ 3 → M' o = M o) ∧ ∀ k, k < 7 ∨ 10 < k → M' 0 k = M 0 k
theorem TM_rf {M : gI} : TM M M := ⟨fun _ _ _ => rfl, fun _ _ => rfl⟩
theorem TM_tr {A B C : gI} (h : TM A B) (g : TM B C) : TM A C := ⟨fun o a b => (g.1 o a b).trans (h.1 o a b), fun k a => (g.2 k a).trans (h.2 k a)⟩
/-- what a text may change: class, reference -/
def FC (t : Nat) (C C' : gI) : Prop := ∀ o, o ≠ 275 → (o < 296 + 8 * t ∨ 296 + 8 * t + 8 ≤ o) → C' o = C o
def FM (t : Nat) (M M' : gI) : Prop := (∀ o, o ≠ 0 → o ≠ 3 → o ≠ 5 → M' o = M o) ∧ (∀ k, k < 7 ∨ 19 < k → M' 0 k = M 0 k) ∧ ∀ k, k < 681 * t ∨ 681 * t + 681 ≤ k → M' 3 k = M 3 k
theorem FC_tr {t : Nat} {A B C : gI} (h : FC t A B) (g : FC t B C) : FC t A C := fun o a b => (g o a b).trans (h o a b)
theorem FM_tr {t : Nat} {A B C : gI} (h : FM t A B) (g : FM t B C) : FM t A C := ⟨fun o a b c => (g.1 o a b c).trans (h.1 o a b c), fun k a => (g.2.1 k a).trans (h.2.1 k a), fun k a => (g.2.2 k a).trans (h.2.2 k a)⟩
theorem FM_rf {t : Nat} {M : gI} : FM t M M := ⟨fun _ _ _ _ => rfl, fun _ _ => rfl, fun _ _ => rfl⟩
theorem FC_rf {t : Nat} {C : gI} : FC t C C := fun _ _ _ => rfl
theorem KC_FC {t n : Nat} {C C' : gI} (h : KC t n C C') : FC t C C' := fun o a b => h.1 o a (by omega) (by omega) (by omega)
theorem KM_FM {t n : Nat} {M M' : gI} (h : KM t n M M') : FM t M M' := ⟨h.1, fun k a => h.2.1 k (by omega), fun k a => h.2.2 k (by omega)⟩
theorem TM_FM {t : Nat} {M M' : gI} (h : TM M M') (g : ∀ k, k < 681 * t ∨ 681 * t + 681 ≤ k → M' 3 k = M 3 k) : FM t M M' := ⟨fun o a b _ => h.1 o a b, fun k a => h.2 k (by omega), g⟩
section CL
variable {tk tv tp ep : Nat → Nat} {B : gI} {t law K i cn n : Nat} {C M : gI} {J : gJ}
theorem qx7 (hN : NXT tk tv tp ep B K) (h : QM tk tv tp ep B t i n M J) (hi : i < K) (hk : ¬ tk i = 40) : ∃ M' J', fX7_nextToken M J = some (M', J') ∧ QM tk tv tp ep B t (i + 1) n M' J' ∧ TM M M' ∧ M' 3 = M 3 := by
  obtain ⟨⟨h1, h2, h3⟩, ⟨h4, h5⟩, h6, h7⟩ := h
  obtain ⟨M', J', e, a, b, c⟩ := hN i M J hi hk h4 h5 h1
  exact ⟨M', J', e, ⟨a, ⟨by rw [b 4 (by omega)]; exact h4, by rw [c 4 (by omega)]; exact h5⟩, by rw [c 12 (by omega)]; exact h6, by rw [c 13 (by omega)]; exact h7⟩, ⟨fun o ho _ => b o ho, c⟩, b 3 (by omega)⟩
/-- the sum of a law -/
theorem top_sum (hN : NXT tk tv tp ep B K) (hT : toksOK tk tv tp K) (h38 : ∀ j, j ≤ K → ¬ tk j = 38) (ht : t < 4) (hl : law < 2) (hK : K ≤ 300) (hE : tk K = 40) (pc : PC tk tv tp t law i cn C) (qm : QM tk tv tp ep B t i n M J) (hlw : M 0 14 = nI law) (hi : i ≤ K) (hc : cn ≤ i) (hn : n ≤ i) :
    (∃ C' f j Mf Jf, fX1_sum 0 C = some (nI 0, C') ∧ C' 275 7 = nI f ∧ C' 275 8 = nI (tp j) ∧ KC t cn C C' ∧ 0 < f ∧ f < 7 ∧ fX7_summed M J = some (nI f, Mf, Jf) ∧ Mf 0 8 = nI (tp j) ∧ KM t n M Mf) ∨
    ∃ C' i' cn' d n' M' J', fX1_sum 0 C = some (nI 1, C') ∧ i < i' ∧ i' ≤ K ∧ PC tk tv tp t law i' cn' C' ∧ KC t cn C C' ∧ d ≤ 43 ∧ cn < cn' ∧ cn' + i ≤ cn + i' ∧ n < n' ∧ n' + i ≤ n + i' ∧ fX7_summed M J = some (nI 0, M', J') ∧ QM tk tv tp ep B t i' n' M' J' ∧ KM t n M M' ∧ Cor (C' (296 + 8 * t + 4)) (C' (296 + 8 * t + 5)) (rC (M' 3) t) (rO (M' 3) t) 0 d cn cn' n n' := by
  obtain ⟨I, hI⟩ : ∃ I, I = wI (wI (wI M 0 16 (nI 0)) 0 17 (nI 0)) 0 18 (nI 0) := ⟨_, rfl⟩
  have pI : PM tk tv tp ep B t law i n 0 (fun _ => 0) 0 0 I J := by
    obtain ⟨⟨h1, h2, h3⟩, ⟨h4, h5⟩, h6, h7⟩ := qm
    rw [hI]
    refine ⟨?_, ?_, ?_, ?_, ?_, ?_, ?_, wI_eq, fun j hj => by omega⟩
    · simp (disch := omega) only [wI_ne]; exact ⟨h1, h2, h3⟩
    · simp (disch := omega) only [wI_ne, wI_o]; exact ⟨h4, h5⟩
    · simp (disch := omega) only [wI_ne]; exact h6
    · simp (disch := omega) only [wI_ne]; exact h7
    · simp (disch := omega) only [wI_ne]; exact hlw
    · simp (disch := omega) only [wI_ne]; exact wI_eq
    · simp (disch := omega) only [wI_ne]; exact wI_eq
  have kI : KM t n M I := by
    rw [hI]
    exact ⟨fun o a _ _ => by rw [wI_o a, wI_o a, wI_o a], fun k hk => by rw [wI_ne (by omega), wI_ne (by omega), wI_ne (by omega)], fun k _ => by rw [wI_o (by omega), wI_o (by omega), wI_o (by omega)]⟩
  have eS : fX7_summed M J = fnL FU I J := by
    rw [hI]
    rfl
  have haa : aaI (fun _ => 0) 0 = 1 → ¬ tk i = 18 := fun z => by
    unfold aaI at z
    rw [if_neg (show ¬ onw (fun _ => 0) 0 = 42 by show ¬ (0 : Nat) = 42; omega)] at z
    omega
  rcases sum_ok hN hT h38 ht hl hK hE i cn n 0 (fun _ => 0) C I J pc pI hi hc (by omega) (by omega) (fun j hj => by omega) (Or.inl rfl) haa with ⟨C', f, j, e, f7, j1, j2, f8, kc, f0, f1, hw⟩ | ⟨C', i', cn', d, n', M', J', e, a1, a2, pc', kc', a3, a4, a5, a6, a7, pm', km', cor', lk, w⟩
  · left
    obtain ⟨u, Mf, Jf, eF, rfl, q2, q3⟩ := hw FU (fun u Mf _ => u = nI f ∧ Mf 0 8 = nI (tp j) ∧ KM t n I Mf) (fun M1 M2 J a b q => ⟨q.1, a.trans q.2.1, ⟨fun o x y z => (b.1 o x y z).symm.trans (q.2.2.1 o x y z), fun k x => (b.2.1 k x).symm.trans (q.2.2.2.1 k x), fun k x => (b.2.2 k x).symm.trans (q.2.2.2.2 k x)⟩⟩) (by show K + 2 ≤ 5000 + i; omega) (fun Mf Jf x y => ⟨rfl, x, y⟩)
    exact ⟨C', f, j, Mf, Jf, e, f7, f8, kc, f0, f1, eS.trans eF, q2, KM_tr kI q3 (Nat.le_refl _)⟩
  · right
    have hb : bwI (tk i') (onw (fun _ => 0) 0) (cpd (fun _ => 0) 0) = 0 := bw_no lk.1 lk.2.1 lk.2.2.1 lk.2.2.2 (show ¬ (0 : Nat) = 42 by omega)
    have hp : pwI (tk i') (onw (fun _ => 0) 0) (cpd (fun _ => 0) 0) = 0 := by
      show pwI (tk i') 0 0 = 0
      unfold pwI
      rw [if_neg (by omega), if_neg (by omega), if_neg (by omega), if_neg (by omega)]
    have e1 := btw7 pm' (by omega) (fun j hj => by omega)
    rw [hb] at e1
    have o1 := onw7 pm' (by omega) (fun j hj => by omega)
    have p1 := prt7 pm' (by omega) (fun j hj => by omega)
    rw [hp] at p1
    have o1' : fX7_openNow M' = some (oI 0) := o1
    have p1' : fX7_partOf (oI 0) M' J' = some (oI 0) := p1
    have s1 : fX7_behindOne M' J' = some (0, M', J') := by
      unfold fX7_behindOne
      rw [e1, bdE, gi_pos (show oI 0 < 0 by decide), o1', bdE, p1', bdE, gi_neg (show ¬ (0 : Int32) ≤ oI 0 by decide)]
    have set1 : fX7_settle (nI 1) M' = some M' := stl_run (stl_stop pm' (by omega) (fun j hj => by omega) (by omega) (Or.inl rfl)) (by omega)
    obtain ⟨u, Mf, Jf, eF, rfl, rfl, rfl⟩ := w (FU - (i' - i)) (fun u Mf Jf => u = nI 0 ∧ Mf = M' ∧ Jf = J') (fun M1 M2 J a b q => absurd q.1 (by decide)) (by
      obtain ⟨m, hm⟩ : ∃ m, FU - (i' - i) = m + 1 := ⟨FU - (i' - i) - 1, by have : FU = 5000 := rfl; omega⟩
      rw [hm]
      refine ⟨nI 0, M', J', ?_, rfl, rfl, rfl⟩
      unfold fnL
      rw [turn1 pm', s1, bdE, prE, prE, gi_pos rfl, bdE, smL, prE, o1', bdE, gi_pos (show oI 0 < 0 by decide), show (1 : Int32) = nI 1 from rfl, set1]
      rfl)
    rw [show FU - (i' - i) + (i' - i) = FU by have : FU = 5000 := rfl; omega] at eF
    exact ⟨C', i', cn', d, n', _, _, e, a1, a2, pc', kc', by omega, a4, a5, a6, a7, eS.trans eF, ⟨pm'.1, pm'.2.1, pm'.2.2.1, pm'.2.2.2.1⟩, KM_tr kI km' (Nat.le_refl _), cor'⟩
/-- a number of a clause -/
theorem num_cl (hN : NXT tk tv tp ep B K) (hT : toksOK tk tv tp K) (ht : t < 4) (hK : K ≤ 300) (hE : tk K = 40) (pc : PC tk tv tp t law i cn C) (qm : QM tk tv tp ep B t i n M J) (hi : i ≤ K) {lo hi' y : Nat} (hl : lo ≤ 9999) (hh : hi' ≤ 9999) (hy : y < 2724) :
    (∃ C' f, fX1_number (nI lo) (nI hi') C = some (oI 0, C') ∧ C' 275 7 = nI f ∧ C' 275 8 = nI (tp i) ∧ KC t cn C C' ∧ 0 < f ∧ f < 7 ∧ fX7_figure (nI y) (nI lo) (nI hi') M J = some (nI f, M, J)) ∨
    ∃ v M' J', lo ≤ v ∧ v ≤ hi' ∧ i < K ∧ fX1_number (nI lo) (nI hi') C = some (nI v, wI C 275 4 (nI (i + 1))) ∧ fX7_figure (nI y) (nI lo) (nI hi') M J = some (nI 0, M', J') ∧ QM tk tv tp ep B t (i + 1) n M' J' ∧ TM M M' ∧ M' 3 = wI M 3 y (nI v) 3 := by
  have hi3 : i ≤ 300 := by omega
  obtain ⟨ek, ev, _⟩ := pc.2.2.2.2.1 i hi3
  have hv := (hT i hi).2.1
  have hk := (hT i hi).1
  by_cases c : tk i = 24
  · have e1 : M 0 9 = nI 1 := (ty_1 qm.1.2.2).mpr c
    have hk2 : C 276 i = nI 24 := by rw [ek, c]
    by_cases d : lo ≤ tv i ∧ tv i ≤ hi'
    · right
      have iK := ltK hE hi (by omega)
      have ey : M 0 10 = nI (tv i) := by
        rcases qm.1.2.2 with z | ⟨_, _, z⟩ | z | z | z
        · omega
        · rcases z with z | z
          · exact z.2
          · omega
        · omega
        · omega
        · omega
      have wi := within_p (a := tv i) (lo := lo) (hi := hi') (by omega) (by omega) (by omega) d.1 d.2
      have wi7 : fX7_isIn (nI (tv i)) (nI lo) (nI hi') = nI 1 := wi
      have q1 : QM tk tv tp ep B t i n (wI M 3 y (nI (tv i))) J := by
        obtain ⟨⟨h1, h2, h3⟩, ⟨h4, h5⟩, h6, h7⟩ := qm
        refine ⟨?_, ?_, ?_, ?_⟩
        · simp (disch := omega) only [wI_o]; exact ⟨h1, h2, h3⟩
        · simp (disch := omega) only [wI_o]; exact ⟨h4, h5⟩
        · simp (disch := omega) only [wI_o]; exact h6
        · simp (disch := omega) only [wI_o]; exact h7
      obtain ⟨M', J', e2, q2, t2, r2⟩ := qx7 hN q1 iK (by omega)
      refine ⟨tv i, M', J', d.1, d.2, iK, ?_, ?_, q2, ?_, r2⟩
      · unfold fX1_number
        simp (disch := (first | assumption | trivial | omega)) only [pc.1, gdN, clN, ev, hk2, lzE, lit, giTr, wi, eqN, giF, addN]
      · unfold fX7_figure
        rw [e1, gi_pos (show nI 1 = (1 : Int32) from rfl), ey, wi7, gi_neg (show ¬ nI 1 = (0 : Int32) from one_ne), gdN hy (by omega), clN (by omega), lzE, e2]
        rfl
      · exact TM_tr ⟨fun o _ b => wI_o b, fun k _ => by rw [wI_o (by omega)]⟩ t2
    · left
      obtain ⟨C', e, f7, f8, kc⟩ := fails6 pc ht hi3 2
      have wi := within_n (a := tv i) (lo := lo) (hi := hi') (by omega) (by omega) (by omega) d
      refine ⟨C', 2, ?_, f7, f8, kc, by omega, by omega, ?_⟩
      · unfold fX1_number
        simp (disch := (first | assumption | trivial | omega)) only [pc.1, gdN, clN, ev, hk2, lzE, lit, giTr, wi, e, bdE, prE]
        rfl
      · have wi7 : fX7_isIn (M 0 10) (nI lo) (nI hi') = nI 0 := by
          rcases qm.1.2.2 with z | ⟨_, _, z⟩ | z | z | z
          · omega
          · rcases z with z | z
            · rw [z.2]; exact wi
            · have h2 : nI hi' < M 0 10 := Int32.lt_of_le_of_lt ((leN (a := hi') (b := 9999) (by omega) (by omega)).mpr (by omega)) z.2
              unfold fX7_isIn
              by_cases g : M 0 10 < nI lo
              · rw [gi_pos g]; rfl
              · rw [gi_neg g, gi_pos h2]; rfl
          · omega
          · omega
          · omega
        unfold fX7_figure
        rw [e1, gi_pos (show nI 1 = (1 : Int32) from rfl), wi7, gi_pos (show nI 0 = (0 : Int32) from rfl)]
        rfl
  · left
    obtain ⟨C', e, f7, f8, kc⟩ := fails6 pc ht hi3 1
    have e1 : ¬ M 0 9 = 1 := fun z => c ((ty_1 qm.1.2.2).mp z)
    refine ⟨C', 1, ?_, f7, f8, kc, by omega, by omega, ?_⟩
    · unfold fX1_number
      simp (disch := (first | assumption | trivial | omega)) only [pc.1, gdN, clN, ek, lzE, lit, eqN, c, giFa, e, bdE, prE]
      rfl
    · unfold fX7_figure
      rw [gi_neg e1]
      rfl
/-- a clause more -/
theorem add6 (h : PC tk tv tp t law i cn C) (ht : t < 4) {m : Nat} (hm : C (296 + 8 * t) 7 = nI m) (hm2 : m < 24) (k a b : Int32) : ∃ C', fX3_add (296 + 8 * t) k a b C = some C' ∧ PC tk tv tp t law i cn C' ∧ C' (296 + 8 * t) 7 = nI (m + 1) ∧ (∀ c, c < m → C' (296 + 8 * t + 1) c = C (296 + 8 * t + 1) c ∧ C' (296 + 8 * t + 2) c = C (296 + 8 * t + 2) c ∧ C' (296 + 8 * t + 3) c = C (296 + 8 * t + 3) c) ∧ (C' (296 + 8 * t + 1) m = k ∧ C' (296 + 8 * t + 2) m = a ∧ C' (296 + 8 * t + 3) m = b) ∧ ∀ o, o ≠ 296 + 8 * t → o ≠ 296 + 8 * t + 1 → o ≠ 296 + 8 * t + 2 → o ≠ 296 + 8 * t + 3 → C' o = C o := by
  obtain ⟨h1, h2, h3, h4, h5, h7, h8⟩ := h
  refine ⟨wI (wI (wI (wI C (296 + 8 * t + 1) m k) (296 + 8 * t + 2) m a) (296 + 8 * t + 3) m b) (296 + 8 * t) 7 (nI (m + 1)), ?_, ⟨?_, ?_, ?_, ?_, fun j hj => ?_, ?_, ?_⟩, wI_eq, fun c hc => ⟨?_, ?_, ?_⟩, ⟨?_, ?_, ?_⟩, fun o o1 o2 o3 o4 => ?_⟩
  · unfold fX3_add
    rw [hm, gi_neg (show ¬ (24 : Int32) ≤ nI m from fun z => by have := (leN (a := 24) (b := m) (by omega) (by omega)).mp z; omega), gdN hm2 (by omega), clN (by omega), lzE]
    simp (disch := (first | assumption | trivial | omega)) only [wI_o, hm, gdN, clN, lzE, lit, addN]
  · simp (disch := omega) only [wI_o]; exact h1
  · simp (disch := omega) only [wI_o]; exact h2
  · simp (disch := omega) only [wI_o]; exact h3
  · rw [wI_ne (by omega), wI_o (by omega), wI_o (by omega), wI_o (by omega)]; exact h4
  · simp (disch := omega) only [wI_o]; exact h5 j hj
  · simp (disch := omega) only [wI_o]; exact h7
  · simp (disch := omega) only [wI_o]; exact h8
  · rw [wI_o (by omega), wI_o (by omega), wI_o (by omega), wI_ne (by omega)]
  · rw [wI_o (by omega), wI_o (by omega), wI_ne (by omega), wI_o (by omega)]
  · rw [wI_o (by omega), wI_ne (by omega), wI_o (by omega), wI_o (by omega)]
  · rw [wI_o (by omega), wI_o (by omega), wI_o (by omega), wI_eq]
  · rw [wI_o (by omega), wI_o (by omega), wI_eq]
  · rw [wI_o (by omega), wI_eq]
  · rw [wI_o o1, wI_o o4, wI_o o3, wI_o o2]
/-- how the reference ends a clause -/
noncomputable def endC (u27 : Int32) (I28 : gI) (J29 : gJ) : Option (Int32 × gI × gJ) := gi (u27 = 0) (lz ((I28 0 12)) (fun (u33 : Int32) => gd (vp_in u33 2724) (lz (wI I28 3 (u33).toNatClampNeg ((I28 3 (u33).toNatClampNeg) + (1 : Int32))) (fun (I37 : gI) => gi ((I37 0 9) = 59) (bd (fX7_nextToken I37 J29) (pr (fun (I39 : gI) (J40 : gJ) => some ((0 : Int32), I39, J40)))) (some ((1 : Int32), I37, J29)))))) (some (u27, I28, J29))
theorem end_f {f : Nat} (h0 : 0 < f) (h7 : f < 7) : endC (nI f) M J = some (nI f, M, J) := by
  unfold endC
  rw [gi_neg (show ¬ nI f = (0 : Int32) from fun z => by have := (nI_eq (a := f) (b := 0) (by omega) (by omega)).mp z; omega)]
theorem end_q (qm : QM tk tv tp ep B t i n M J) (ht : t < 4) {m : Nat} (hm : M 3 (681 * t) = nI m) : endC (nI 0) M J = gi (tk i = 37) (bd (fX7_nextToken (wI M 3 (681 * t) (nI (m + 1))) J) (pr (fun (I39 : gI) (J40 : gJ) => some ((0 : Int32), I39, J40)))) (some ((1 : Int32), wI M 3 (681 * t) (nI (m + 1)), J)) := by
  have s59 := ty_s qm.1.2.2 (j := 37) (by omega) (by omega)
  simp only [sgn] at s59
  have e12 : M 0 12 = nI (681 * t) := qm.2.2.1
  unfold endC
  rw [gi_pos (show nI 0 = (0 : Int32) from rfl), lzE, e12, gdN (by omega) (by omega), clN (by omega), hm, lzE, show nI m + (1 : Int32) = nI (m + 1) from addN m 1, wI_o (by omega), show (M 0 9 = (59 : Int32)) = (tk i = 37) from propext s59]
theorem end_p (hN : NXT tk tv tp ep B K) (qm : QM tk tv tp ep B t i n M J) (ht : t < 4) {m : Nat} (hm : M 3 (681 * t) = nI m) (hi : i < K) (h37 : tk i = 37) : ∃ M' J', endC (nI 0) M J = some (nI 0, M', J') ∧ QM tk tv tp ep B t (i + 1) n M' J' ∧ TM M M' ∧ M' 3 = wI M 3 (681 * t) (nI (m + 1)) 3 := by
  have q1 : QM tk tv tp ep B t i n (wI M 3 (681 * t) (nI (m + 1))) J := by
    obtain ⟨⟨h1, h2, h3⟩, ⟨h4, h5⟩, h6, h7⟩ := qm
    refine ⟨?_, ?_, ?_, ?_⟩
    · simp (disch := omega) only [wI_o]; exact ⟨h1, h2, h3⟩
    · simp (disch := omega) only [wI_o]; exact ⟨h4, h5⟩
    · simp (disch := omega) only [wI_o]; exact h6
    · simp (disch := omega) only [wI_o]; exact h7
  obtain ⟨M', J', e2, q2, t2, r2⟩ := qx7 hN q1 hi (by omega)
  refine ⟨M', J', ?_, q2, TM_tr ⟨fun o _ b => wI_o b, fun k _ => by rw [wI_o (by omega)]⟩ t2, r2⟩
  rw [end_q qm ht hm, gi_pos h37, e2]
  rfl
theorem end_n (qm : QM tk tv tp ep B t i n M J) (ht : t < 4) {m : Nat} (hm : M 3 (681 * t) = nI m) (h37 : ¬ tk i = 37) : ∃ M', endC (nI 0) M J = some (nI 1, M', J) ∧ M' 0 8 = nI (tp i) ∧ FM t M M' := by
  refine ⟨wI M 3 (681 * t) (nI (m + 1)), ?_, ?_, fun o _ b _ => wI_o b, fun k _ => by rw [wI_o (by omega)], fun k hk => by rw [wI_ne (by omega)]⟩
  · rw [end_q qm ht hm, gi_neg h37]
    rfl
  · rw [wI_o (by omega)]; exact qm.1.2.1
end CL
