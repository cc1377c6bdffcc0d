-- 82: PURE PART: a clause, both readers alike (out of gen82.py and pure.py)
/-- a law so far: none, or one sum -/
def LAW (t cn n m : Nat) (b : Nat → Nat) (l : Nat) (C : gI) (tx : Nat → Int32) : Prop :=
  (b l = 0 ∧ C (296 + 8 * t + 6) l = nI 0 ∧ C (296 + 8 * t + 7) l = nI 0 ∧ ∀ c, c < m → ¬ tx (681 * t + (1 + 3 * c)) = nI l) ∨
  (b l = 1 ∧ ∃ c d i j p q, c < m ∧ tx (681 * t + (1 + 3 * c)) = nI l ∧ (∀ c', c' < c → ¬ tx (681 * t + (1 + 3 * c')) = nI l) ∧ d ≤ 64 ∧ i < j ∧ j ≤ cn ∧ q ≤ n ∧ C (296 + 8 * t + 6) l = nI i ∧ C (296 + 8 * t + 7) l = nI j ∧ tx (681 * t + (2 + 3 * c)) = nI p ∧ tx (681 * t + (3 + 3 * c)) = nI q ∧ Cor (C (296 + 8 * t + 4)) (C (296 + 8 * t + 5)) (rC tx t) (rO tx t) 0 d i j p q)
theorem rC_ag {t n p : Nat} {tx tx' : Nat → Int32} (et : ∀ k, 681 * t + 73 ≤ k → k < 681 * t + 73 + 2 * n → tx' k = tx k) (hp : p < n) : rC tx' t p = rC tx t p ∧ rO tx' t p = rO tx t p := by
  unfold rC rO
  by_cases c : p < 304
  · rw [if_pos c, if_pos c, if_pos c, if_pos c, et _ (by omega) (by omega), et _ (by omega) (by omega)]
    exact ⟨rfl, rfl⟩
  · rw [if_neg c, if_neg c, if_neg c, if_neg c]
    exact ⟨rfl, rfl⟩
theorem LAW_keep {t cn cn' n n' m m' l : Nat} {b b' : Nat → Nat} {C C' : gI} {tx tx' : Nat → Int32} (h : LAW t cn n m b l C tx) (hb : b' l = b l) (hc : cn ≤ cn') (hn : n ≤ n') (hm : m ≤ m') (e6 : C' (296 + 8 * t + 6) l = C (296 + 8 * t + 6) l) (e7 : C' (296 + 8 * t + 7) l = C (296 + 8 * t + 7) l) (ec : ∀ a, a < cn → C' (296 + 8 * t + 4) a = C (296 + 8 * t + 4) a ∧ C' (296 + 8 * t + 5) a = C (296 + 8 * t + 5) a) (et : ∀ k, 681 * t + 73 ≤ k → k < 681 * t + 73 + 2 * n → tx' k = tx k) (er : ∀ c, c < m → tx' (681 * t + (1 + 3 * c)) = tx (681 * t + (1 + 3 * c)) ∧ tx' (681 * t + (2 + 3 * c)) = tx (681 * t + (2 + 3 * c)) ∧ tx' (681 * t + (3 + 3 * c)) = tx (681 * t + (3 + 3 * c))) (ew : ∀ c, m ≤ c → c < m' → ¬ tx' (681 * t + (1 + 3 * c)) = nI l) : LAW t cn' n' m' b' l C' tx' := by
  rcases h with ⟨h1, h2, h3, h4⟩ | ⟨h1, c, d, i, j, p, q, g1, g2, g3, g4, g5, g6, g7, g8, g9, g10, g11, g12⟩
  · refine Or.inl ⟨hb.trans h1, e6.trans h2, e7.trans h3, fun c hc => ?_⟩
    by_cases z : c < m
    · rw [(er c z).1]; exact h4 c z
    · exact ew c (by omega) hc
  · refine Or.inr ⟨hb.trans h1, c, d, i, j, p, q, by omega, by rw [(er c g1).1]; exact g2, fun c' hc' => by rw [(er c' (by omega)).1]; exact g3 c' hc', g4, g5, by omega, by omega, e6.trans g8, e7.trans g9, by rw [(er c g1).2.1]; exact g10, by rw [(er c g1).2.2]; exact g11, ?_⟩
    exact (Cor_ag g12).2.2 (fun a _ z => ec a (by omega)) (fun a _ z => rC_ag et (by omega))
/-- both between clauses -/
def CST (tk tv tp ep : Nat → Nat) (B : gI) (t K law i cn n m : Nat) (b : Nat → Nat) (C M : gI) (J : gJ) : Prop :=
  PC tk tv tp t law i cn C ∧ QM tk tv tp ep B t i n M J ∧ (i ≤ K ∧ cn ≤ i ∧ n ≤ i ∧ m ≤ 24) ∧ (C (296 + 8 * t) 7 = nI m ∧ M 3 (681 * t) = nI m) ∧ (∀ c, c < m → rCl (C (296 + 8 * t + 1) c) (C (296 + 8 * t + 2) c) (C (296 + 8 * t + 3) c) (M 3 (681 * t + (1 + 3 * c))) (M 3 (681 * t + (2 + 3 * c))) (M 3 (681 * t + (3 + 3 * c)))) ∧ M 0 19 = nI (b 0 + 2 * b 1) ∧ ∀ l, l < 2 → LAW t cn n m b l C (M 3)
/-- what a clause comes to -/
def CRES (tk tv tp ep : Nat → Nat) (B : gI) (t K m : Nat) (C M : gI) (res6 : Option (Int32 × gI)) (res7 : Option (Int32 × gI × gJ)) : Prop :=
  (∃ C' f j M' J', res6 = some (nI 0, C') ∧ res7 = some (nI f, M', J') ∧ 0 < f ∧ f < 7 ∧ C' 275 7 = nI f ∧ C' 275 8 = nI (tp j) ∧ M' 0 8 = nI (tp j) ∧ FC t C C' ∧ FM t M M') ∨
  ∃ C' i' cn' n' b' law' M' J', res6 = some (nI 1, C') ∧ res7 = some (nI 0, M', J') ∧ CST tk tv tp ep B t K law' i' cn' n' (m + 1) b' C' M' J' ∧ FC t C C' ∧ FM t M M'
noncomputable def disp (u2 : Int32) (I28 : gI) : Option (Int32 × gI) :=
  gi (u2 = (0 : Int32))
 (bd (fX1_lawClause u2 I28) (pr (fun (u31 : Int32) (I32 : gI) => some (u31, I32))))
 (gi (u2 = (1 : Int32))
 (bd (fX1_lawClause u2 I28) (pr (fun (u36 : Int32) (I37 : gI) => some (u36, I37))))
 (gi (u2 = (2 : Int32))
 (bd (fX1_twoNumbers u2 (11 : Int32) (3 : Int32) (11 : Int32) I28) (pr (fun (u41 : Int32) (I42 : gI) => some (u41, I42))))
 (gi (u2 = (3 : Int32))
 (bd (fX1_oneNumber u2 (0 : Int32) (5 : Int32) I28) (pr (fun (u46 : Int32) (I47 : gI) => some (u46, I47))))
 (gi (u2 = (4 : Int32))
 (bd (fX1_twoNumbers u2 (4 : Int32) (5 : Int32) (9 : Int32) I28) (pr (fun (u51 : Int32) (I52 : gI) => some (u51, I52))))
 (gi (u2 = (5 : Int32))
 (bd (fX1_oneNumber u2 (0 : Int32) (5 : Int32) I28) (pr (fun (u56 : Int32) (I57 : gI) => some (u56, I57))))
 (gi (u2 = (6 : Int32))
 (bd (fX1_oneNumber u2 (0 : Int32) (5 : Int32) I28) (pr (fun (u61 : Int32) (I62 : gI) => some (u61, I62))))
 (gi (u2 = (7 : Int32))
 (bd (fX1_oneNumber u2 (0 : Int32) (11 : Int32) I28) (pr (fun (u66 : Int32) (I67 : gI) => some (u66, I67))))
 (gi (u2 = (8 : Int32))
 (bd (fX1_oneNumber u2 (0 : Int32) (5 : Int32) I28) (pr (fun (u71 : Int32) (I72 : gI) => some (u71, I72))))
 (gi (u2 = (9 : Int32))
 (bd (fX1_oneNumber u2 (1 : Int32) (60 : Int32) I28) (pr (fun (u76 : Int32) (I77 : gI) => some (u76, I77))))
 (bd (fX1_oneNumber u2 (0 : Int32) (5 : Int32) I28) (pr (fun (u80 : Int32) (I81 : gI) => some (u80, I81)))))))))))))
/-- what sort of clause a word begins, in the reference (one more; 0: none) -/
def srt (k : Nat) : Nat := if k = 0 then 1 else if k = 1 then 2 else if k = 2 then 3 else if k = 4 then 4 else if k = 6 then 5 else if k = 7 then 6 else if k = 8 then 7 else if k = 9 then 8 else 0
theorem has7b {b0 b1 s : Nat} (h0 : b0 ≤ 1) (h1 : b1 ≤ 1) (hs : s < 2) : fX7_has (nI (b0 + 2 * b1)) (nI s) = nI (if s = 0 then b0 else b1) := by
  have e0 : b0 = 0 ∨ b0 = 1 := by omega
  have e1 : b1 = 0 ∨ b1 = 1 := by omega
  have e2 : s = 0 ∨ s = 1 := by omega
  unfold fX7_has
  rw [shrN (by omega) (by omega), show (1 : Int32) = nI 1 from rfl, andN]
  rcases e0 with rfl | rfl <;> rcases e1 with rfl | rfl <;> rcases e2 with rfl | rfl <;> first | exact gi_pos (by decide) | exact gi_neg (by decide)
theorem set7b {b : Nat → Nat} {s : Nat} (h0 : b 0 ≤ 1) (h1 : b 1 ≤ 1) (hs : s < 2) (hz : b s = 0) : (nI (b 0 + 2 * b 1) ||| jshl 1 (nI s)) = nI ((if 0 = s then 1 else b 0) + 2 * (if 1 = s then 1 else b 1)) := by
  have e0 : b 0 = 0 ∨ b 0 = 1 := by omega
  have e1 : b 1 = 0 ∨ b 1 = 1 := by omega
  have e2 : s = 0 ∨ s = 1 := by omega
  rw [show (1 : Int32) = nI 1 from rfl, shlN (by omega) (by rcases e2 with z | z <;> rw [z] <;> decide), orN]
  rcases e2 with rfl | rfl
  · rw [hz]
    rcases e1 with e | e <;> rw [e] <;> rfl
  · rw [hz]
    rcases e0 with e | e <;> rw [e] <;> rfl
section CM
variable {tk tv tp ep : Nat → Nat} {B : gI} {t law K i cn n m : Nat} {b : Nat → Nat} {C M : gI} {J : gJ}
theorem srt7 (qm : QM tk tv tp ep B t i n M J) : fX7_sortOf M J = oI (srt (tk i)) := by
  unfold fX7_sortOf srt
  rw [wd_bids, wd_earns, wd_buyer, wd_sort, wd_sell, wd_give, wd_turn, wd_day]
  simp only [lzE]
  by_cases c0 : tk i = 0
  · rw [if_pos c0, isW_p qm.1.2.2 (by omega) c0, gi_neg (show ¬ nI 1 = (0 : Int32) from one_ne)]
    rfl
  · rw [if_neg c0, isW_n qm.1.2.2 (by omega) c0, gi_pos (show nI 0 = (0 : Int32) from rfl)]
    by_cases c1 : tk i = 1
    · rw [if_pos c1, isW_p qm.1.2.2 (by omega) c1, gi_neg (show ¬ nI 1 = (0 : Int32) from one_ne)]
      rfl
    · rw [if_neg c1, isW_n qm.1.2.2 (by omega) c1, gi_pos (show nI 0 = (0 : Int32) from rfl)]
      by_cases c2 : tk i = 2
      · rw [if_pos c2, isW_p qm.1.2.2 (by omega) c2, gi_neg (show ¬ nI 1 = (0 : Int32) from one_ne)]
        rfl
      · rw [if_neg c2, isW_n qm.1.2.2 (by omega) c2, gi_pos (show nI 0 = (0 : Int32) from rfl)]
        by_cases c4 : tk i = 4
        · rw [if_pos c4, isW_p qm.1.2.2 (by omega) c4, gi_neg (show ¬ nI 1 = (0 : Int32) from one_ne)]
          rfl
        · rw [if_neg c4, isW_n qm.1.2.2 (by omega) c4, gi_pos (show nI 0 = (0 : Int32) from rfl)]
          by_cases c6 : tk i = 6
          · rw [if_pos c6, isW_p qm.1.2.2 (by omega) c6, gi_neg (show ¬ nI 1 = (0 : Int32) from one_ne)]
            rfl
          · rw [if_neg c6, isW_n qm.1.2.2 (by omega) c6, gi_pos (show nI 0 = (0 : Int32) from rfl)]
            by_cases c7 : tk i = 7
            · rw [if_pos c7, isW_p qm.1.2.2 (by omega) c7, gi_neg (show ¬ nI 1 = (0 : Int32) from one_ne)]
              rfl
            · rw [if_neg c7, isW_n qm.1.2.2 (by omega) c7, gi_pos (show nI 0 = (0 : Int32) from rfl)]
              by_cases c8 : tk i = 8
              · rw [if_pos c8, isW_p qm.1.2.2 (by omega) c8, gi_neg (show ¬ nI 1 = (0 : Int32) from one_ne)]
                rfl
              · rw [if_neg c8, isW_n qm.1.2.2 (by omega) c8, gi_pos (show nI 0 = (0 : Int32) from rfl)]
                by_cases c9 : tk i = 9
                · rw [if_pos c9, isW_p qm.1.2.2 (by omega) c9, gi_neg (show ¬ nI 1 = (0 : Int32) from one_ne)]
                  rfl
                · rw [if_neg c9, isW_n qm.1.2.2 (by omega) c9, gi_pos (show nI 0 = (0 : Int32) from rfl)]
                  rfl
theorem body_eq {x : Int32} (s : Nat) (hs : s < 8) : fX7_body (nI s) x M J = if s = 2 then fX7_buyerClause x M J else if s = 3 then fX7_sortClause x M J else if s = 4 then fX7_figure (x + 1) 0 5 M J else if s = 5 then fX7_figure (x + 1) 0 11 M J else if s = 6 then fX7_figure (x + 1) 0 5 M J else if s = 7 then fX7_figure (x + 1) 1 60 M J else fX7_lawClause x M J := by
  have idp : ∀ y : Option (Int32 × gI × gJ), bd y (pr (fun (u84 : Int32) => pr (fun (I85 : gI) (J86 : gJ) => some (u84, I85, J86)))) = y := by
    intro y
    cases y with
    | none => rfl
    | some z => rfl
  unfold fX7_body
  simp only [idp]
  have : s = 0 ∨ s = 1 ∨ s = 2 ∨ s = 3 ∨ s = 4 ∨ s = 5 ∨ s = 6 ∨ s = 7 := by omega
  rcases this with rfl | rfl | rfl | rfl | rfl | rfl | rfl | rfl
  · exact (Eq.trans (gi_neg (by decide)) (Eq.trans (gi_neg (by decide)) (Eq.trans (gi_neg (by decide)) (Eq.trans (gi_neg (by decide)) (Eq.trans (gi_neg (by decide)) (Eq.trans (gi_neg (by decide)) rfl))))))
  · exact (Eq.trans (gi_neg (by decide)) (Eq.trans (gi_neg (by decide)) (Eq.trans (gi_neg (by decide)) (Eq.trans (gi_neg (by decide)) (Eq.trans (gi_neg (by decide)) (Eq.trans (gi_neg (by decide)) rfl))))))
  · exact (Eq.trans (gi_pos rfl) rfl)
  · exact (Eq.trans (gi_neg (by decide)) (Eq.trans (gi_pos rfl) rfl))
  · exact (Eq.trans (gi_neg (by decide)) (Eq.trans (gi_neg (by decide)) (Eq.trans (gi_pos rfl) rfl)))
  · exact (Eq.trans (gi_neg (by decide)) (Eq.trans (gi_neg (by decide)) (Eq.trans (gi_neg (by decide)) (Eq.trans (gi_pos rfl) rfl))))
  · exact (Eq.trans (gi_neg (by decide)) (Eq.trans (gi_neg (by decide)) (Eq.trans (gi_neg (by decide)) (Eq.trans (gi_neg (by decide)) (Eq.trans (gi_pos rfl) rfl)))))
  · exact (Eq.trans (gi_neg (by decide)) (Eq.trans (gi_neg (by decide)) (Eq.trans (gi_neg (by decide)) (Eq.trans (gi_neg (by decide)) (Eq.trans (gi_neg (by decide)) (Eq.trans (gi_pos rfl) rfl))))))
theorem disp_eq {k : Nat} (hk : k < 10) (h3 : ¬ k = 3) (h5 : ¬ k = 5) : disp (nI k) C = if k = 0 then fX1_lawClause (nI 0) C else if k = 1 then fX1_lawClause (nI 1) C else if k = 2 then fX1_twoNumbers (nI 2) 11 3 11 C else if k = 4 then fX1_twoNumbers (nI 4) 4 5 9 C else if k = 6 then fX1_oneNumber (nI 6) 0 5 C else if k = 7 then fX1_oneNumber (nI 7) 0 11 C else if k = 8 then fX1_oneNumber (nI 8) 0 5 C else fX1_oneNumber (nI 9) 1 60 C := by
  have idp : ∀ y : Option (Int32 × gI), bd y (pr (fun (u84 : Int32) (I85 : gI) => some (u84, I85))) = y := by
    intro y
    cases y with
    | none => rfl
    | some z => rfl
  unfold disp
  simp only [idp]
  have : k = 0 ∨ k = 1 ∨ k = 2 ∨ k = 4 ∨ k = 6 ∨ k = 7 ∨ k = 8 ∨ k = 9 := by omega
  rcases this with rfl | rfl | rfl | rfl | rfl | rfl | rfl | rfl
  · exact (Eq.trans (gi_pos rfl) rfl)
  · exact (Eq.trans (gi_neg (by decide)) (Eq.trans (gi_pos rfl) rfl))
  · exact (Eq.trans (gi_neg (by decide)) (Eq.trans (gi_neg (by decide)) (Eq.trans (gi_pos rfl) rfl)))
  · exact (Eq.trans (gi_neg (by decide)) (Eq.trans (gi_neg (by decide)) (Eq.trans (gi_neg (by decide)) (Eq.trans (gi_neg (by decide)) (Eq.trans (gi_pos rfl) rfl)))))
  · exact (Eq.trans (gi_neg (by decide)) (Eq.trans (gi_neg (by decide)) (Eq.trans (gi_neg (by decide)) (Eq.trans (gi_neg (by decide)) (Eq.trans (gi_neg (by decide)) (Eq.trans (gi_neg (by decide)) (Eq.trans (gi_pos rfl) rfl)))))))
  · exact (Eq.trans (gi_neg (by decide)) (Eq.trans (gi_neg (by decide)) (Eq.trans (gi_neg (by decide)) (Eq.trans (gi_neg (by decide)) (Eq.trans (gi_neg (by decide)) (Eq.trans (gi_neg (by decide)) (Eq.trans (gi_neg (by decide)) (Eq.trans (gi_pos rfl) rfl))))))))
  · exact (Eq.trans (gi_neg (by decide)) (Eq.trans (gi_neg (by decide)) (Eq.trans (gi_neg (by decide)) (Eq.trans (gi_neg (by decide)) (Eq.trans (gi_neg (by decide)) (Eq.trans (gi_neg (by decide)) (Eq.trans (gi_neg (by decide)) (Eq.trans (gi_neg (by decide)) (Eq.trans (gi_pos rfl) rfl)))))))))
  · exact (Eq.trans (gi_neg (by decide)) (Eq.trans (gi_neg (by decide)) (Eq.trans (gi_neg (by decide)) (Eq.trans (gi_neg (by decide)) (Eq.trans (gi_neg (by decide)) (Eq.trans (gi_neg (by decide)) (Eq.trans (gi_neg (by decide)) (Eq.trans (gi_neg (by decide)) (Eq.trans (gi_neg (by decide)) (Eq.trans (gi_pos rfl) rfl))))))))))
/-- the class: a clause's head -/
theorem head6 (pc : PC tk tv tp t law i cn C) (ht : t < 4) (hi : i ≤ 300) (hm : C (296 + 8 * t) 7 = nI m) {k : Nat} (hk : tk i = k) (h10 : k < 10) (h3 : ¬ k = 3) (h5 : ¬ k = 5) {lw : Nat} (hlw : lw = if k = 1 then 1 else 0) : ∃ r6, r6 = gi (nI m < 24) (disp (nI k) (wI (wI C 275 5 (nI lw)) 275 4 (nI (i + 1)))) (bd (fX1_fails 6 (wI C 275 5 (nI lw))) (pr (fun (u84 : Int32) (I85 : gI) => some (u84, I85)))) ∧ fX1_clause C = gi (1 < nI k) r6 (bd (fX3_rules (296 + 8 * t) (nI lw) (wI C 275 5 (nI lw))) (fun (u90 : Int32) => gi (u90 = 0) r6 (bd (fX1_fails 4 (wI C 275 5 (nI lw))) (pr (fun (u94 : Int32) (I95 : gI) => some (u94, I95)))))) := by
  refine ⟨_, rfl, ?_⟩
  have ek := (pc.2.2.2.2.1 i hi).1
  rw [hk] at ek
  have e4 : (wI C 275 5 (nI lw)) 275 4 = nI i := by rw [wI_ne (by omega)]; exact pc.1
  have e6 : (wI C 275 5 (nI lw)) 275 6 = nI (296 + 8 * t) := by rw [wI_ne (by omega)]; exact pc.2.2.1
  unfold fX1_clause
  rw [pc.1, gdN (by omega) (by omega), clN (by omega), ek, lzE, pc.2.2.1, gAn ht, clN (by omega), hm, lzE, lzE, gi_neg (show ¬ nI k < 0 from nI_pos (by omega)), gi_neg (show ¬ (9 : Int32) < nI k from fun z => by have := (ltN (a := 9) (b := k) (by omega) (by omega)).mp z; omega), gi_neg (show ¬ nI k = (3 : Int32) from fun z => h3 ((nI_eq (by omega) (by omega)).mp (show nI k = nI 3 from z))), gi_neg (show ¬ nI k = (5 : Int32) from fun z => h5 ((nI_eq (by omega) (by omega)).mp (show nI k = nI 5 from z))), lzE]
  have go : ∀ X : gI, X = wI C 275 5 (nI lw) → lz X (fun (I22 : gI) => lz (gi (nI m < 24) (lz (wI I22 275 4 ((I22 275 4) + (1 : Int32))) (fun (I28 : gI) => disp (nI k) I28)) (bd (fX1_fails (6 : Int32) I22) (pr (fun (u84 : Int32) (I85 : gI) => some (u84, I85))))) (fun j24 => gi (1 < nI k) j24 (gd (gAt LC (I22 275 6).toNatClampNeg 0 3) (bd (fX3_rules ((I22 275 6).toNatClampNeg) (I22 275 5) I22) (fun (u90 : Int32) => gi (u90 = 0) j24 (bd (fX1_fails (4 : Int32) I22) (pr (fun (u94 : Int32) (I95 : gI) => some (u94, I95))))))))) = gi (1 < nI k) (gi (nI m < 24) (disp (nI k) (wI (wI C 275 5 (nI lw)) 275 4 (nI (i + 1)))) (bd (fX1_fails 6 (wI C 275 5 (nI lw))) (pr (fun (u84 : Int32) (I85 : gI) => some (u84, I85))))) (bd (fX3_rules (296 + 8 * t) (nI lw) (wI C 275 5 (nI lw))) (fun (u90 : Int32) => gi (u90 = 0) (gi (nI m < 24) (disp (nI k) (wI (wI C 275 5 (nI lw)) 275 4 (nI (i + 1)))) (bd (fX1_fails 6 (wI C 275 5 (nI lw))) (pr (fun (u84 : Int32) (I85 : gI) => some (u84, I85))))) (bd (fX1_fails 4 (wI C 275 5 (nI lw))) (pr (fun (u94 : Int32) (I95 : gI) => some (u94, I95)))))) := by
    intro X hX
    subst hX
    rw [lzE, e4, show nI i + (1 : Int32) = nI (i + 1) from addN i 1, lzE, lzE, e6, gAn ht, clN (by omega), wI_eq]
  by_cases c : k = 1
  · rw [if_pos c] at hlw
    rw [gi_pos (show nI k = (1 : Int32) by rw [c]; rfl)]
    exact go _ (by rw [hlw]; rfl)
  · rw [if_neg c] at hlw
    rw [gi_neg (show ¬ nI k = (1 : Int32) from fun z => c ((nI_eq (by omega) (by omega)).mp (show nI k = nI 1 from z)))]
    exact go _ (by rw [hlw]; rfl)
theorem rules6 {lw : Nat} (hl : lw < 2) (h : LAW t cn n m b lw C (M 3)) (hb : cn ≤ 300) : fX3_rules (296 + 8 * t) (nI lw) (wI C 275 5 (nI lw)) = some (nI (b lw)) := by
  unfold fX3_rules
  rw [gdN (by omega) (by omega), clN (by omega), wI_o (by omega), wI_o (by omega)]
  rcases h with ⟨h1, h2, h3, _⟩ | ⟨h1, c, d, i, j, p, q, g1, g2, g3, g4, g5, g6, g7, g8, g9, g10, g11, g12⟩
  · rw [h2, h3, h1, gi_pos (show nI 0 ≤ nI 0 by decide)]
    rfl
  · rw [g8, g9, h1, gi_neg (fun z => by have := (leN (a := j) (b := i) (by omega) (by omega)).mp z; omega)]
    rfl
/-- the class: no clause begins here -/
theorem bad6 (pc : PC tk tv tp t law i cn C) (ht : t < 4) (hi : i ≤ 300) (hk40 : tk i ≤ 40) (hm : C (296 + 8 * t) 7 = nI m) (hk : srt (tk i) = 0) : ∃ C', fX1_clause C = some (nI 0, C') ∧ C' 275 7 = nI 1 ∧ C' 275 8 = nI (tp i) ∧ KC t cn C C' := by
  obtain ⟨C', e, q⟩ := fails6 pc ht hi 1
  refine ⟨C', ?_, q⟩
  have ek := (pc.2.2.2.2.1 i hi).1
  have hk2 : 9 < tk i ∨ tk i = 3 ∨ tk i = 5 := by
    unfold srt at hk
    apply Decidable.byContradiction
    intro z
    have : tk i = 0 ∨ tk i = 1 ∨ tk i = 2 ∨ tk i = 4 ∨ tk i = 6 ∨ tk i = 7 ∨ tk i = 8 ∨ tk i = 9 := by omega
    rcases this with w | w | w | w | w | w | w | w <;> rw [w] at hk <;> simp at hk
  have e' : bd (fX1_fails (1 : Int32) C) (pr (fun (u10 : Int32) (I11 : gI) => some (u10, I11))) = some (nI 0, C') := by
    rw [show fX1_fails (1 : Int32) C = _ from e]
    rfl
  unfold fX1_clause
  rw [pc.1, gdN (by omega) (by omega), clN (by omega), ek, lzE, pc.2.2.1, gAn ht, clN (by omega), hm, lzE, lzE, gi_neg (show ¬ nI (tk i) < 0 from nI_pos (by omega))]
  by_cases c1 : 9 < tk i
  · rw [gi_pos (show (9 : Int32) < nI (tk i) from (ltN (a := 9) (b := tk i) (by omega) (by omega)).mpr c1)]
    exact e'
  · rw [gi_neg (show ¬ (9 : Int32) < nI (tk i) from fun z => c1 ((ltN (a := 9) (b := tk i) (by omega) (by omega)).mp z))]
    by_cases c2 : tk i = 3
    · rw [gi_pos (show nI (tk i) = (3 : Int32) by rw [c2]; rfl)]
      exact e'
    · rw [gi_neg (show ¬ nI (tk i) = (3 : Int32) from fun z => c2 ((nI_eq (by omega) (by omega)).mp (show nI (tk i) = nI 3 from z)))]
      rw [gi_pos (show nI (tk i) = (5 : Int32) by rw [show tk i = 5 by omega]; rfl)]
      exact e'
/-- the reference: a clause's head -/
theorem head7 (hN : NXT tk tv tp ep B K) (qm : QM tk tv tp ep B t i n M J) (ht : t < 4) (hi : i < K) (hk : ¬ tk i = 40) {s : Nat} (hs : srt (tk i) = s + 1) (hs8 : s < 8) (hm : M 3 (681 * t) = nI m) (hm24 : m < 24) (hb : M 0 19 = nI (b 0 + 2 * b 1)) (h0 : b 0 ≤ 1) (h1 : b 1 ≤ 1) (hno : s < 2 → b s = 0) : ∃ M3 J3, fX7_clause M J = bd (fX7_body (nI s) (nI (681 * t + (1 + 3 * m))) M3 J3) (pr (fun (u27 : Int32) => pr (fun (I28 : gI) (J29 : gJ) => endC u27 I28 J29))) ∧ QM tk tv tp ep B t (i + 1) n M3 J3 ∧ (∀ o, o ≠ 0 → o ≠ 3 → M3 o = M o) ∧ (∀ k, k < 7 ∨ 19 < k → M3 0 k = M 0 k) ∧ M3 3 = wI M 3 (681 * t + (1 + 3 * m)) (nI s) 3 ∧ M3 0 14 = nI s ∧ M3 0 19 = nI ((if 0 = s then 1 else b 0) + 2 * (if 1 = s then 1 else b 1)) := by
  have es : fX7_sortOf M J = nI s := by rw [srt7 qm, hs, oI_s]
  have e12 : M 0 12 = nI (681 * t) := qm.2.2.1
  have n24 : ¬ nI m = (24 : Int32) := fun z => by have := (nI_eq (by omega) (by omega)).mp (show nI m = nI 24 from z); omega
  -- once
  obtain ⟨A, hA, a1, a2, a3⟩ : ∃ A, fX7_clause M J = lz (wI A 0 14 (nI s)) (fun (I16 : gI) => bd (fX7_nextToken I16 J) (pr (fun (I18 : gI) (J19 : gJ) => lz ((((I18 0 12) + (1 : Int32)) + ((3 : Int32) * nI m))) (fun (u22 : Int32) => gd (vp_in u22 2724) (lz (wI I18 3 (u22).toNatClampNeg (nI s)) (fun (I26 : gI) => bd (fX7_body (nI s) u22 I26 J19) (pr (fun (u27 : Int32) => pr (fun (I28 : gI) (J29 : gJ) => endC u27 I28 J29))))))))) ∧ (∀ o, o ≠ 0 → A o = M o) ∧ (∀ k, k ≠ 19 → A 0 k = M 0 k) ∧ A 0 19 = nI ((if 0 = s then 1 else b 0) + 2 * (if 1 = s then 1 else b 1)) := by
    unfold fX7_clause
    rw [es, lzE, gi_pos (show (0 : Int32) ≤ nI s from (leN (a := 0) (b := s) (by omega) (by omega)).mpr (Nat.zero_le _)), lzE, e12, gdN (by omega) (by omega), clN (by omega), hm, lzE, gi_neg n24, lzE]
    by_cases c : s < 2
    · have q1 : ¬ (1 : Int32) < nI s := fun z => by have := (ltN (a := 1) (b := s) (by omega) (by omega)).mp z; omega
      have hz := hno c
      have ez : (if s = 0 then b 0 else b 1) = 0 := by
        have : s = 0 ∨ s = 1 := by omega
        rcases this with z | z
        · subst z; rw [if_pos rfl]; exact hz
        · subst z; rw [if_neg (by omega)]; exact hz
      refine ⟨wI M 0 19 (nI ((if 0 = s then 1 else b 0) + 2 * (if 1 = s then 1 else b 1))), ?_, fun o ho => wI_o ho, fun k hk => wI_ne (by omega), wI_eq⟩
      rw [gi_neg q1, hb, has7b h0 h1 c, ez, gi_pos (show nI 0 = (0 : Int32) from rfl), gi_neg q1, lzE, set7b h0 h1 c hz]
      rfl
    · have q1 : (1 : Int32) < nI s := (ltN (a := 1) (b := s) (by omega) (by omega)).mpr (by omega)
      refine ⟨M, ?_, fun _ _ => rfl, fun _ _ => rfl, ?_⟩
      · rw [gi_pos q1, gi_pos q1]
        rfl
      · rw [if_neg (by omega), if_neg (by omega)]; exact hb
  have q1 : QM tk tv tp ep B t i n (wI A 0 14 (nI s)) J := by
    obtain ⟨⟨h1, h2, h3⟩, ⟨h4, h5⟩, h6, h7⟩ := qm
    refine ⟨?_, ?_, ?_, ?_⟩
    · simp (disch := omega) only [wI_ne, a2]; exact ⟨h1, h2, h3⟩
    · rw [wI_o (by omega), wI_ne (by omega), a1 4 (by omega), a2 4 (by omega)]; exact ⟨h4, h5⟩
    · rw [wI_ne (by omega), a2 12 (by omega)]; exact h6
    · rw [wI_ne (by omega), a2 13 (by omega)]; exact h7
  obtain ⟨A2, J2, e2, q2, t2, r2⟩ := qx7 hN q1 hi hk
  have hx : 681 * t + (1 + 3 * m) < 2724 := by omega
  refine ⟨wI A2 3 (681 * t + (1 + 3 * m)) (nI s), J2, ?_, ?_, fun o o0 o3 => ?_, fun k hk => ?_, ?_, ?_, ?_⟩
  · rw [hA, lzE, e2, bdE, prE, q2.2.2.1, show nI (681 * t) + (1 : Int32) + ((3 : Int32) * nI m) = nI (681 * t + (1 + 3 * m)) by rw [show (3 : Int32) = nI 3 from rfl, show (1 : Int32) = nI 1 from rfl, mulN, addN, addN, Nat.add_assoc], lzE, gdN hx (by omega), clN (by omega), lzE]
  · obtain ⟨⟨h1, h2, h3⟩, ⟨h4, h5⟩, h6, h7⟩ := q2
    refine ⟨?_, ?_, ?_, ?_⟩
    · simp (disch := omega) only [wI_o]; exact ⟨h1, h2, h3⟩
    · simp (disch := omega) only [wI_o]; exact ⟨h4, h5⟩
    · simp (disch := omega) only [wI_o]; exact h6
    · simp (disch := omega) only [wI_o]; exact h7
  · rw [wI_o o3, t2.1 o o0 o3, wI_o o0, a1 o o0]
  · rw [wI_o (by omega), t2.2 k (by omega), wI_ne (by omega), a2 k (by omega)]
  · have r3 : A2 3 = M 3 := by rw [r2, wI_o (by omega), a1 3 (by omega)]
    funext j
    show (if 3 = 3 ∧ j = 681 * t + (1 + 3 * m) then nI s else A2 3 j) = if 3 = 3 ∧ j = 681 * t + (1 + 3 * m) then nI s else M 3 j
    rw [r3]
  · rw [wI_o (by omega), t2.2 14 (by omega), wI_eq]
  · rw [wI_o (by omega), t2.2 19 (by omega), wI_ne (by omega)]; exact a3
theorem head7_1 (qm : QM tk tv tp ep B t i n M J) (hs : srt (tk i) = 0) : fX7_clause M J = some (nI 1, M, J) := by
  unfold fX7_clause
  rw [srt7 qm, hs, lzE, gi_neg (show ¬ (0 : Int32) ≤ oI 0 by decide)]
  rfl
theorem head7_4 (qm : QM tk tv tp ep B t i n M J) {s : Nat} (hs : srt (tk i) = s + 1) (hs2 : s < 2) (hb : M 0 19 = nI (b 0 + 2 * b 1)) (h0 : b 0 ≤ 1) (h1 : b 1 ≤ 1) (hz : b s = 1) : fX7_clause M J = some (nI 4, M, J) := by
  have q1 : ¬ (1 : Int32) < nI s := fun z => by have := (ltN (a := 1) (b := s) (by omega) (by omega)).mp z; omega
  have ez : (if s = 0 then b 0 else b 1) = 1 := by
    have : s = 0 ∨ s = 1 := by omega
    rcases this with z | z
    · subst z; rw [if_pos rfl]; exact hz
    · subst z; rw [if_neg (by omega)]; exact hz
  unfold fX7_clause
  rw [srt7 qm, hs, oI_s, lzE, gi_pos (show (0 : Int32) ≤ nI s from (leN (a := 0) (b := s) (by omega) (by omega)).mpr (Nat.zero_le _)), lzE, gi_neg q1, hb, has7b h0 h1 hs2, ez, gi_neg (show ¬ nI 1 = (0 : Int32) from one_ne)]
  rfl
theorem head7_6 (qm : QM tk tv tp ep B t i n M J) (ht : t < 4) {s : Nat} (hs : srt (tk i) = s + 1) (hs8 : s < 8) (hm : M 3 (681 * t) = nI 24) (hb : M 0 19 = nI (b 0 + 2 * b 1)) (h0 : b 0 ≤ 1) (h1 : b 1 ≤ 1) (hno : s < 2 → b s = 0) : fX7_clause M J = some (nI 6, M, J) := by
  have e12 : M 0 12 = nI (681 * t) := qm.2.2.1
  have fin : gd (vp_in (nI (681 * t)) 2724) (lz ((M 3 ((nI (681 * t))).toNatClampNeg)) (fun (u9 : Int32) => gi (u9 = 24) (some ((6 : Int32), M, J)) (lz (fun (I12 : gI) => lz (wI I12 0 14 (nI s)) (fun (I16 : gI) => bd (fX7_nextToken I16 J) (pr (fun (I18 : gI) (J19 : gJ) => lz ((((I18 0 12) + (1 : Int32)) + ((3 : Int32) * u9))) (fun (u22 : Int32) => gd (vp_in u22 2724) (lz (wI I18 3 (u22).toNatClampNeg (nI s)) (fun (I26 : gI) => bd (fX7_body (nI s) u22 I26 J19) (pr (fun (u27 : Int32) => pr (fun (I28 : gI) (J29 : gJ) => endC u27 I28 J29)))))))))) (fun j13 => gi (1 < nI s) (j13 M) (lz (wI M 0 19 ((M 0 19) ||| (jshl (1 : Int32) (nI s)))) (fun (I44 : gI) => j13 I44)))))) = some (nI 6, M, J) := by
    rw [gdN (by omega) (by omega), clN (by omega), hm, lzE, gi_pos (show nI 24 = (24 : Int32) from rfl)]
    rfl
  unfold fX7_clause
  rw [srt7 qm, hs, oI_s, lzE, gi_pos (show (0 : Int32) ≤ nI s from (leN (a := 0) (b := s) (by omega) (by omega)).mpr (Nat.zero_le _)), lzE, e12]
  by_cases c : s < 2
  · have q1 : ¬ (1 : Int32) < nI s := fun z => by have := (ltN (a := 1) (b := s) (by omega) (by omega)).mp z; omega
    have hz := hno c
    have ez : (if s = 0 then b 0 else b 1) = 0 := by
      have : s = 0 ∨ s = 1 := by omega
      rcases this with z | z
      · subst z; rw [if_pos rfl]; exact hz
      · subst z; rw [if_neg (by omega)]; exact hz
    rw [gi_neg q1, show fX7_has (M 0 19) (nI s) = nI 0 by rw [hb, has7b h0 h1 c, ez], gi_pos (show nI 0 = (0 : Int32) from rfl)]
    exact fin
  · have q1 : (1 : Int32) < nI s := (ltN (a := 1) (b := s) (by omega) (by omega)).mpr (by omega)
    rw [gi_pos q1]
    exact fin
end CM
