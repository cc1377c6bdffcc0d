-- 70: PURE PART: the reference's tokens, its state while it reads a sum (out of wip/whole/pure by gen70.py and pure.py)
def wdn (k : Nat) : Nat := match k with
  | 0 => 1651074163
  | 1 => 435426586227
  | 2 => 422877685106
  | 3 => 29807
  | 4 => 1936683636
  | 5 => 25209
  | 6 => 1936026732
  | 7 => 1734964837
  | 8 => 1953854062
  | 9 => 6578553
  | 10 => 512970880104
  | 11 => 483006772069
  | 12 => 26982
  | 13 => 1952998766
  | 14 => 1701606245
  | 15 => 6647396
  | 16 => 28530
  | 17 => 6385252
  | 18 => 7237492
  | 19 => 1819242087
  | 20 => 7305070
  | 21 => 1718773093
  | 22 => 512735736947
  | 23 => 6840691
  | _ => 0
def sgn (k : Nat) : Nat := match k with
  | 25 => 4
  | 26 => 5
  | 27 => 60
  | 28 => 62
  | 29 => 61
  | 30 => 35
  | 31 => 43
  | 32 => 45
  | 33 => 42
  | 34 => 47
  | 35 => 40
  | 36 => 41
  | 37 => 59
  | _ => 0
theorem wd_bids : fX7_w4 98 105 100 115 = lN (wdn 0) := by decide
theorem wd_earns : fX7_w5 101 97 114 110 115 = lN (wdn 1) := by decide
theorem wd_buyer : fX7_w5 98 117 121 101 114 = lN (wdn 2) := by decide
theorem wd_to : fX7_w2 116 111 = lN (wdn 3) := by decide
theorem wd_sort : fX7_w4 115 111 114 116 = lN (wdn 4) := by decide
theorem wd_by : fX7_w2 98 121 = lN (wdn 5) := by decide
theorem wd_sell : fX7_w4 115 101 108 108 = lN (wdn 6) := by decide
theorem wd_give : fX7_w4 103 105 118 101 = lN (wdn 7) := by decide
theorem wd_turn : fX7_w4 116 117 114 110 = lN (wdn 8) := by decide
theorem wd_day : fX7_w3 100 97 121 = lN (wdn 9) := by decide
theorem wd_worth : fX7_w5 119 111 114 116 104 = lN (wdn 10) := by decide
theorem wd_purse : fX7_w5 112 117 114 115 101 = lN (wdn 11) := by decide
theorem wd_if : fX7_w2 105 102 = lN (wdn 12) := by decide
theorem wd_then : fX7_w4 116 104 101 110 = lN (wdn 13) := by decide
theorem wd_else : fX7_w4 101 108 115 101 = lN (wdn 14) := by decide
theorem wd_end : fX7_w3 101 110 100 = lN (wdn 15) := by decide
theorem wd_or : fX7_w2 111 114 = lN (wdn 16) := by decide
theorem wd_and : fX7_w3 97 110 100 = lN (wdn 17) := by decide
theorem wd_not : fX7_w3 110 111 116 = lN (wdn 18) := by decide
theorem wd_long : fX7_w4 108 111 110 103 = lN (wdn 19) := by decide
theorem wd_own : fX7_w3 111 119 110 = lN (wdn 20) := by decide
theorem wd_free : fX7_w4 102 114 101 101 = lN (wdn 21) := by decide
theorem wd_wants : fX7_w5 119 97 110 116 115 = lN (wdn 22) := by decide
theorem wd_has : fX7_w3 104 97 115 = lN (wdn 23) := by decide
theorem wdn_ne : ∀ j, j < 24 → ∀ k, k < 24 → wdn j = wdn k → j = k := by decide
theorem wdn_lt : ∀ j, j < 24 → wdn j < 1099511627776 ∧ 0 < wdn j := by decide
theorem sgn_ne : ∀ j, j < 38 → 24 < j → ∀ k, k < 38 → 24 < k → sgn j = sgn k → j = k := by decide
theorem sgn_lt : ∀ j, j < 38 → 24 < j → 3 < sgn j ∧ sgn j < 63 ∧ ¬ sgn j = 58 := by decide
/-- a token of the reference: kind k (the class's), value v -/
def tkR (k v : Nat) (x y : Int32) (z : Int64) : Prop :=
  (k = 40 ∧ x = nI 0) ∨ (k = 24 ∧ x = nI 1 ∧ ((v < 10000 ∧ y = nI v) ∨ (v = 10000 ∧ nI 9999 < y))) ∨ (k < 24 ∧ x = nI 2 ∧ z = lN (wdn k)) ∨ (k = 39 ∧ ((x = nI 2 ∧ ∀ j, j < 24 → z ≠ lN (wdn j)) ∨ x = nI 3 ∨ x = nI 58)) ∨ (24 < k ∧ k < 38 ∧ x = nI (sgn k))
section TK
variable {k v : Nat} {M : gI} {J : gJ}
theorem isW_p (h : tkR k v (M 0 9) (M 0 10) (J 0 11)) {j : Nat} (hj : j < 24) (e : k = j) : fX7_isWord (lN (wdn j)) M J = nI 1 := by
  subst e
  rcases h with ⟨h, _⟩ | ⟨h, _⟩ | ⟨_, h1, h2⟩ | ⟨h, _⟩ | ⟨h, _⟩
  · omega
  · omega
  · unfold fX7_isWord
    rw [h1, h2]
    rw [gi_pos (show nI 2 = (2 : Int32) from rfl), gi_pos ((lg_cmp_eq _ _).mpr rfl)]
    rfl
  · omega
  · omega
theorem isW_n (h : tkR k v (M 0 9) (M 0 10) (J 0 11)) {j : Nat} (hj : j < 24) (e : ¬ k = j) : fX7_isWord (lN (wdn j)) M J = nI 0 := by
  unfold fX7_isWord
  rcases h with ⟨_, h1⟩ | ⟨_, h1, _⟩ | ⟨h0, h1, h2⟩ | ⟨_, h1⟩ | ⟨a, b, h1⟩
  · rw [h1, gi_neg (show ¬ nI 0 = (2 : Int32) by decide)]
    rfl
  · rw [h1, gi_neg (show ¬ nI 1 = (2 : Int32) by decide)]
    rfl
  · have b1 := wdn_lt k h0
    have b2 := wdn_lt j hj
    rw [h1, h2, gi_pos (show nI 2 = (2 : Int32) from rfl), gi_neg]
    · rfl
    · intro q
      have := (pk_lEQ (a := wdn k) (b := wdn j) (by omega) (by omega)).mp ((lg_cmp_eq _ _).mp q)
      exact e (wdn_ne k h0 j hj this)
  · rcases h1 with ⟨h1, h2⟩ | h1 | h1
    · rw [h1, gi_pos (show nI 2 = (2 : Int32) from rfl), gi_neg (fun q => h2 j hj ((lg_cmp_eq _ _).mp q))]
      rfl
    · rw [h1, gi_neg (show ¬ nI 3 = (2 : Int32) by decide)]
      rfl
    · rw [h1, gi_neg (show ¬ nI 58 = (2 : Int32) by decide)]
      rfl
  · have := sgn_lt k b a
    rw [h1, gi_neg]
    · rfl
    · intro q
      have := (nI_eq (by omega) (by omega)).mp (show nI (sgn k) = nI 2 from q)
      omega
/-- signs -/
theorem ty_s (h : tkR k v (M 0 9) (M 0 10) (J 0 11)) {j : Nat} (h1 : 24 < j) (h2 : j < 38) : (M 0 9 = nI (sgn j)) ↔ k = j := by
  have b := sgn_lt j h2 h1
  rcases h with ⟨h0, e⟩ | ⟨h0, e, _⟩ | ⟨h0, e, _⟩ | ⟨h0, e⟩ | ⟨a1, a2, e⟩
  · rw [e, nI_eq (by omega) (by omega)]
    omega
  · rw [e, nI_eq (by omega) (by omega)]
    omega
  · rw [e, nI_eq (by omega) (by omega)]
    omega
  · rcases e with ⟨e, _⟩ | e | e
    · rw [e, nI_eq (by omega) (by omega)]
      omega
    · rw [e, nI_eq (by omega) (by omega)]
      omega
    · rw [e, nI_eq (by omega) (by omega)]
      omega
  · have c := sgn_lt k a2 a1
    rw [e, nI_eq (by omega) (by omega)]
    exact ⟨fun q => sgn_ne k a2 a1 j h2 h1 q, fun q => by rw [q]⟩
theorem ty_1 (h : tkR k v (M 0 9) (M 0 10) (J 0 11)) : (M 0 9 = nI 1) ↔ k = 24 := by
  rcases h with ⟨h0, e⟩ | ⟨h0, e, _⟩ | ⟨h0, e, _⟩ | ⟨h0, e⟩ | ⟨a1, a2, e⟩
  · rw [e, nI_eq (by omega) (by omega)]
    omega
  · rw [e, nI_eq (by omega) (by omega)]
    omega
  · rw [e, nI_eq (by omega) (by omega)]
    omega
  · rcases e with ⟨e, _⟩ | e | e
    · rw [e, nI_eq (by omega) (by omega)]
      omega
    · rw [e, nI_eq (by omega) (by omega)]
      omega
    · rw [e, nI_eq (by omega) (by omega)]
      omega
  · have c := sgn_lt k a2 a1
    rw [e, nI_eq (by omega) (by omega)]
    omega
/-- which name, one more; 0: none -/
def nmI (k : Nat) : Nat := match k with
  | 9 => 1
  | 2 => 2
  | 4 => 3
  | 19 => 4
  | 20 => 5
  | 21 => 6
  | 22 => 7
  | 23 => 8
  | _ => 0
theorem lgw {z : Int64} {x : Nat} : (lg_cmp z (lN x) = 0) ↔ z = lN x := lg_cmp_eq _ _
theorem nameOf_w (h0 : k < 24) (e : M 0 9 = nI 2) (z : J 0 11 = lN (wdn k)) : fX7_nameOf M J = oI (nmI k) := by
  have key : ∀ j, j < 24 → ((lg_cmp (lN (wdn k)) (lN (wdn j)) = nI 0) = (k = j)) := by
    intro j hj
    have b1 := wdn_lt k h0
    have b2 := wdn_lt j hj
    apply propext
    rw [show (lg_cmp (lN (wdn k)) (lN (wdn j)) = nI 0) ↔ _ from lg_cmp_eq _ _, pk_lEQ (by omega) (by omega)]
    exact ⟨fun q => wdn_ne k h0 j hj q, fun q => by rw [q]⟩
  unfold fX7_nameOf
  rw [e, z, wd_day, wd_buyer, wd_sort, wd_long, wd_own, wd_free, wd_wants, wd_has, gi_pos (show nI 2 = (2 : Int32) from rfl)]
  have hk : k = 0 ∨ k = 1 ∨ k = 2 ∨ k = 3 ∨ k = 4 ∨ k = 5 ∨ k = 6 ∨ k = 7 ∨ k = 8 ∨ k = 9 ∨ k = 10 ∨ k = 11 ∨ k = 12 ∨ k = 13 ∨ k = 14 ∨ k = 15 ∨ k = 16 ∨ k = 17 ∨ k = 18 ∨ k = 19 ∨ k = 20 ∨ k = 21 ∨ k = 22 ∨ k = 23 := by omega
  have k9 := key 9 (by omega)
  have k2 := key 2 (by omega)
  have k4 := key 4 (by omega)
  have k19 := key 19 (by omega)
  have k20 := key 20 (by omega)
  have k21 := key 21 (by omega)
  have k22 := key 22 (by omega)
  have k23 := key 23 (by omega)
  simp only [lzE, lit, k9, k2, k4, k19, k20, k21, k22, k23]
  rcases hk with rfl | rfl | rfl | rfl | rfl | rfl | rfl | rfl | rfl | rfl | rfl | rfl | rfl | rfl | rfl | rfl | rfl | rfl | rfl | rfl | rfl | rfl | rfl | rfl <;> simp (disch := (first | assumption | trivial | omega)) only [giT, giF, giTr, giFa, nmI, oI_s] <;> rfl
theorem nameOf_7 (h : tkR k v (M 0 9) (M 0 10) (J 0 11)) : fX7_nameOf M J = oI (nmI k) := by
  rcases h with ⟨rfl, h1⟩ | ⟨rfl, h1, _⟩ | ⟨h0, h1, h2⟩ | ⟨rfl, h1⟩ | ⟨a, b, h1⟩
  · unfold fX7_nameOf
    rw [h1, gi_neg (show ¬ nI 0 = (2 : Int32) by decide)]
    rfl
  · unfold fX7_nameOf
    rw [h1, gi_neg (show ¬ nI 1 = (2 : Int32) by decide)]
    rfl
  · exact nameOf_w h0 h1 h2
  · rcases h1 with ⟨h1, h2⟩ | h1 | h1
    · have key : ∀ j, j < 24 → ((lg_cmp (J 0 11) (lN (wdn j)) = nI 0) = False) := by
        intro j hj
        apply propext
        exact ⟨fun q => h2 j hj ((lg_cmp_eq _ _).mp q), fun q => q.elim⟩
      unfold fX7_nameOf
      rw [h1, wd_day, wd_buyer, wd_sort, wd_long, wd_own, wd_free, wd_wants, wd_has, gi_pos (show nI 2 = (2 : Int32) from rfl)]
      have k9 := key 9 (by omega)
      have k2 := key 2 (by omega)
      have k4 := key 4 (by omega)
      have k19 := key 19 (by omega)
      have k20 := key 20 (by omega)
      have k21 := key 21 (by omega)
      have k22 := key 22 (by omega)
      have k23 := key 23 (by omega)
      simp only [lzE, lit, k9, k2, k4, k19, k20, k21, k22, k23, giFa]
      rfl
    · unfold fX7_nameOf
      rw [h1, gi_neg (show ¬ nI 3 = (2 : Int32) by decide)]
      rfl
    · unfold fX7_nameOf
      rw [h1, gi_neg (show ¬ nI 58 = (2 : Int32) by decide)]
      rfl
  · have c := sgn_lt k b a
    unfold fX7_nameOf
    rw [h1, gi_neg]
    · have hk : k = 25 ∨ k = 26 ∨ k = 27 ∨ k = 28 ∨ k = 29 ∨ k = 30 ∨ k = 31 ∨ k = 32 ∨ k = 33 ∨ k = 34 ∨ k = 35 ∨ k = 36 ∨ k = 37 := by omega
      rcases hk with rfl | rfl | rfl | rfl | rfl | rfl | rfl | rfl | rfl | rfl | rfl | rfl | rfl <;> rfl
    · intro q
      have := (nI_eq (by omega) (by omega)).mp (show nI (sgn k) = nI 2 from q)
      omega
end TK
