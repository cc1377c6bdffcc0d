-- 77: PURE PART: one level of the class's reader from the next (out of wip/whole/pure by pure.py)
section PS
variable {tk tv tp ep : Nat → Nat} {B : gI} {t law K : Nat}
/-- as OK7, with one code more: the operator's own token lies ahead -/
def OKU (tk tv tp ep : Nat → Nat) (B : gI) (t law K dB i cn n ps : Nat) (pl : Nat → Nat) (x : Nat) (C M : gI) (J : gJ) (res : Option (Int32 × gI)) : Prop := ∃ C' i' cn' d n' M' J', res = some (nI 1, C') ∧ i < i' ∧ i' ≤ K ∧ PC tk tv tp t law i' cn' C' ∧ KC t cn C C' ∧ d ≤ dB ∧ cn < cn' ∧ cn' + i ≤ cn + i' + 1 ∧ n < n' ∧ n' + i ≤ n + i' + 1 ∧ PM tk tv tp ep B t law i' n' ps pl x 1 M' J' ∧ KM t n M M' ∧ Cor (C' (296 + 8 * t + 4)) (C' (296 + 8 * t + 5)) (rC (M' 3) t) (rO (M' 3) t) 0 d cn cn' n n' ∧ ∀ m Q, RQ t n Q → wp7 m M' J' Q → wpF (m + (i' - i)) M J Q
/-- a unary operator's ONE -/
def UNDER (tk tv tp ep : Nat → Nat) (B : gI) (t law K x : Nat) (rg : gR) : Prop := ∀ c u i cn n ps pl C M J, unP c u → PC tk tv tp t law i cn C → PM tk tv tp ep B t law i n (ps + 1) pl x 0 M J → pl ps = u → i ≤ K → cn + 1 ≤ i → n + (ps + 1) ≤ i → ps + 1 ≤ 6 * x + 5 → (∀ j, j < ps + 1 → pl j < 44) → 0 < x → FAILs tp t K i cn n C M J (rg 3 (nI c) (nI x) C) ∨ OKU tk tv tp ep B t law K (5 * (8 - x) + 1) i cn n ps pl (x - 1) C M J (rg 3 (nI c) (nI x) C)
theorem prod_step {x : Nat} (hx : x ≤ 8) (hN : NXT tk tv tp ep B K) (hT : toksOK tk tv tp K) (ht : t < 4) (hK : K ≤ 300) (hE : tk K = 40) {rg : gR} (h1 : ONE tk tv tp ep B t law K x rg) {rg' : gR} (hr : ∀ C, rg' 1 (nI x) 0 C = fX1_product_B rg (nI x) C) : PROD tk tv tp ep B t law K x rg' := by
  intro i cn n ps pl C M J pc pm hi hc hn hps hpl htop haa
  rw [hr]
  unfold fX1_product_B
  rcases h1 i cn n ps pl C M J pc pm hi hc hn (by omega) hpl haa with ⟨C2, f, j, e2, q⟩ | ⟨C2, i2, cn2, d2, n2, M2, J2, e2, a1, a2, pc2, kc2, a3, a4, a5, a6, a7, pm2, km2, cor2, w2⟩
  · left
    refine ⟨C2, f, j, ?_, q⟩
    rw [e2, bdE, prE, gi_pos (show nI 0 = (0 : Int32) from rfl)]
    rfl
  · have hpl100 : ∀ j, j < ps → pl j < 100 := fun j hj => by have := hpl j hj; omega
    have hw : PROG t i i2 n M J M2 J2 := fun m Q hQ hz => w2 m Q hQ ⟨M2, stl_run (stl_stop pm2 (by omega) hpl100 (by omega) (htop.imp id (fun z => by omega))) (by omega), hz⟩
    have hl := product_lp rg hN hT ht hK hE hx h1 (cn := cn) (n := n) (C := C) (M := M) (J := J) (i := i) (by omega) hpl htop 301 0 i2 cn2 d2 n2 C2 M2 J2 FU (by omega) (by show _ < 5000; omega) (by omega) a2 pc2 kc2 (by omega) a4 a5 a6 a7 hn hc pm2 km2 cor2 hw
    rw [e2, bdE, prE, gi_neg (show ¬ nI 1 = (0 : Int32) from one_ne)]
    exact hl
theorem sum_step {x : Nat} (hx : x ≤ 8) (hN : NXT tk tv tp ep B K) (hT : toksOK tk tv tp K) (ht : t < 4) (hK : K ≤ 300) (hE : tk K = 40) {rg : gR} (h1 : PROD tk tv tp ep B t law K x rg) {rg' : gR} (hr : ∀ C, rg' 0 (nI x) 0 C = fX1_sum_B rg (nI x) C) : SUM tk tv tp ep B t law K x rg' := by
  intro i cn n ps pl C M J pc pm hi hc hn hps hpl htop haa
  rw [hr]
  unfold fX1_sum_B
  rcases h1 i cn n ps pl C M J pc pm hi hc hn (by omega) hpl (htop.imp id (fun z => by omega)) haa with ⟨C2, f, j, e2, q⟩ | ⟨C2, i2, cn2, d2, n2, M2, J2, e2, a1, a2, pc2, kc2, a3, a4, a5, a6, a7, pm2, km2, cor2, lk2, w2⟩
  · left
    refine ⟨C2, f, j, ?_, q⟩
    rw [e2, bdE, prE, gi_pos (show nI 0 = (0 : Int32) from rfl)]
    rfl
  · have hl := sum_lp rg hN hT ht hK hE hx h1 (cn := cn) (n := n) (C := C) (M := M) (J := J) (i := i) (by omega) hpl htop 301 0 i2 cn2 d2 n2 C2 M2 J2 FU (by omega) (by show _ < 5000; omega) (by omega) a2 pc2 kc2 (by omega) a4 a5 a6 a7 hn hc pm2 km2 cor2 w2 lk2
    rw [e2, bdE, prE, gi_neg (show ¬ nI 1 = (0 : Int32) from one_ne)]
    exact hl
theorem under_step {x : Nat} (hx : x ≤ 8) (ht : t < 4) (hK : K ≤ 300) {rg : gR} (h1 : ONE tk tv tp ep B t law K x rg) {rg' : gR} (hr : ∀ c C, rg' 3 (nI c) (nI x) C = fX1_oneUnder_B rg (nI c) (nI x) C) : UNDER tk tv tp ep B t law K x rg' := by
  intro c u i cn n ps pl C M J hu pc pm hpu hi hc hn hps hpl hx0
  rw [hr]
  unfold fX1_oneUnder_B
  have hu3 : (u = 2 ∨ u = 4 ∨ u = 5) := by
    unfold unP at hu
    omega
  have hrk : rk (pl ps) = 7 := by
    rw [hpu]
    rcases hu3 with z | z | z <;> rw [z] <;> decide
  have haa : aaI pl (ps + 1) = 0 := by
    unfold aaI
    rw [Nat.add_sub_cancel, hrk, if_neg (show ¬ 40 ≤ pl ps by omega), if_neg (show ¬ (1 ≤ 7 ∧ 7 ≤ 3) by omega)]
    by_cases z : onw pl (ps + 1) = 42
    · rw [if_pos z]
    · rw [if_neg z]
  rcases h1 i cn n (ps + 1) pl C M J pc pm hi (by omega) hn hps hpl (fun z => by rw [haa] at z; exact absurd z (by decide)) with ⟨C2, f, j, e2, q⟩ | ⟨C2, i2, cn2, d2, n2, M2, J2, e2, a1, a2, pc2, kc2, a3, a4, a5, a6, a7, pm2, km2, cor2, w2⟩
  · left
    refine ⟨C2, f, j, ?_, q⟩
    rw [e2, bdE, prE, gi_pos (show nI 0 = (0 : Int32) from rfl)]
    rfl
  · right
    have e6 : C2 275 6 = nI (296 + 8 * t) := pc2.2.2.1
    obtain ⟨C3, e3, pc3, kc3, c3a, c3b⟩ := emit6 pc2 ht (by omega) c 0
    obtain ⟨M3, pm3, km3, c3, st3⟩ := pop_eq pm2 ht (by omega) (fun j hj => by have := hpl j hj; omega) (by omega) (by omega) (fun _ => hx0)
    rw [if_pos (Or.inl hrk)] at pm3
    rw [hpu] at c3
    refine ⟨C3, i2, cn2 + 1, d2, n2 + 1, M3, J2, ?_, a1, a2, pc3, KC_tr kc2 kc3 (by omega), a3, by omega, by omega, by omega, by omega, pm3, KM_tr km2 km3 (by omega), ?_, fun m Q hQ hz => ?_⟩
    · rw [e2, bdE, prE, gi_neg (show ¬ nI 1 = (0 : Int32) from one_ne), e6, gAn ht, clN (by omega), show (0 : Int32) = nI 0 from rfl, e3]
      rfl
    · refine Cor_un hu c3a c3 ?_
      exact (Cor_ag cor2).2.2 (fun a z1 z2 => kc3.2.2.2 a z2) (fun a z1 z2 => KM_rc km3 z2)
    · refine w2 m Q hQ ?_
      obtain ⟨I, eI, q⟩ := hz
      exact ⟨I, by rw [st3 7 (by omega) (by omega)]; exact eI, q⟩
end PS
