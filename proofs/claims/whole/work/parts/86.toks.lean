-- 86: PURE PART: the reference's tokens against the class's (out of gen86.py and pure.py)
section RT
variable {bt : Nat → Nat} {L : Nat}
theorem byte7 (hL : L ≤ 300) {M : gI} (hM : RYm bt L M) {c : Nat} (hc : c < 2147483648) : fX7_byteAt (nI c) M = some (if c < L then nI (bt c) else oI 0) := by
  unfold fX7_byteAt
  rw [hM.1]
  by_cases d : c < L
  · rw [if_pos d, gi_neg (show ¬ nI L ≤ nI c from fun z => by have := (leN (a := L) (b := c) (by omega) (by omega)).mp z; omega), gdN (by omega) (by omega), clN (by omega), hM.2 c d]
  · rw [if_neg d, gi_pos ((leN (a := L) (b := c) (by omega) (by omega)).mpr (by omega))]
    rfl
theorem RYm_ag {M M' : gI} (h : RYm bt L M) (h4 : M' 4 = M 4) (h0 : M' 0 4 = M 0 4) : RYm bt L M' := ⟨by rw [h0]; exact h.1, fun j hj => by rw [h4]; exact h.2 j hj⟩
theorem rs7 (hL : L ≤ 300) (hb : ∀ j, bt j < 256) : ∀ m c M, L - c < m → c ≤ L → RYm bt L M → M 0 7 = nI c → ∃ M', fX7_nextToken_0 m M = some M' ∧ M' 0 7 = nI (endE (fun j => isSp (bt j)) L c) ∧ (∀ o, o ≠ 0 → M' o = M o) ∧ ∀ k, k ≠ 7 → M' 0 k = M 0 k := by
  intro m
  induction m with
  | zero => intro c M hm; omega
  | succ m ih =>
    intro c M hm hc hM h7
    have hbc := hb c
    rw [sX7_nextToken_0, fX7_nextToken_0b, h7, byte7 hL hM (by omega), bdE, lzE]
    by_cases d : c < L
    · rw [if_pos d]
      by_cases h : isSp (bt c) = true
      · have h2 := isSp_t.mp h
        obtain ⟨M', e1, e2, e3, e4⟩ := ih (c + 1) (wI M 0 7 (nI (c + 1))) (by omega) (by omega) (RYm_ag hM (wI_o (by omega)) (wI_ne (by omega))) wI_eq
        refine ⟨M', ?_, ?_, fun o ho => (e3 o ho).trans (wI_o ho), fun k hk => (e4 k hk).trans (wI_ne (by omega))⟩
        · rw [lzE, show nI c + (1 : Int32) = nI (c + 1) from addN c 1]
          by_cases z : bt c = 32
          · rw [gi_pos (show nI (bt c) = (32 : Int32) by rw [z]; rfl)]
            exact e1
          · rw [gi_neg (show ¬ nI (bt c) = (32 : Int32) from fun y => z ((nI_eq (by omega) (by omega)).mp (show nI (bt c) = nI 32 from y))), bdE, gi_pos (show nI (bt c) = (10 : Int32) by rw [show bt c = 10 by omega]; rfl)]
            exact e1
        · rw [e2, endE_go (f := fun j => isSp (bt j)) d h]
      · have h2 : ¬ (bt c = 32 ∨ bt c = 10) := fun z => h (isSp_t.mpr z)
        rw [gi_neg (show ¬ nI (bt c) = (32 : Int32) from fun y => h2 (Or.inl ((nI_eq (by omega) (by omega)).mp (show nI (bt c) = nI 32 from y)))), bdE, gi_neg (show ¬ nI (bt c) = (10 : Int32) from fun y => h2 (Or.inr ((nI_eq (by omega) (by omega)).mp (show nI (bt c) = nI 10 from y))))]
        exact ⟨M, rfl, by rw [endE_st (f := fun j => isSp (bt j)) (bo_f h)]; exact h7, fun _ _ => rfl, fun _ _ => rfl⟩
    · rw [if_neg d, gi_neg (show ¬ oI 0 = (32 : Int32) by decide), bdE, gi_neg (show ¬ oI 0 = (10 : Int32) by decide)]
      exact ⟨M, rfl, by rw [endE_ge (by omega)]; exact h7, fun _ _ => rfl, fun _ _ => rfl⟩
theorem shrL {z : Nat} (h : z < 4611686018427387904) : jlshr (lN z) 48 = lN (z / 281474976710656) := by
  unfold jlshr
  rw [pf_shr (d := 48) (by decide) h]
theorem shlL {z b : Nat} (h : z < 281474976710656) (hb : b < 256) : (jlshl (lN z) 8 ||| (nI b).toInt64) = lN (z * 256 + b) := by
  unfold jlshl
  rw [show (8 : Int32) = nI 8 from rfl, wb_shl z (k := 8) (by omega), i2l (by omega)]
  exact g_or (k := 8) (p := 256) (by decide) hb (by omega)
theorem rw7 (hL : L ≤ 300) (hb : ∀ j, bt j < 256) : ∀ m c z M (J : gJ), L - c < m → c ≤ L → RYm bt L M → M 0 7 = nI c → J 0 11 = lN z → z < 2305843009213693952 → ∃ M' J', fX7_nextToken_168 m M J = some (M', J') ∧ M' 0 7 = nI (endE (fun j => isLe (bt j)) L c) ∧ J' 0 11 = lN (wrdV bt (L - c) c z) ∧ (∀ o, o ≠ 0 → M' o = M o) ∧ ∀ k, k ≠ 7 → M' 0 k = M 0 k := by
  intro m
  induction m with
  | zero => intro c z M J hm; omega
  | succ m ih =>
    intro c z M J hm hc hM h7 hJ hz
    have hbc := hb c
    rw [sX7_nextToken_168, fX7_nextToken_168b, h7, byte7 hL hM (by omega), bdE]
    by_cases d : c < L
    · rw [if_pos d, let7 hbc, n01, show L - c = (L - (c + 1)) + 1 by omega]
      show ∃ (M' : gI) (J' : gJ), _ ∧ _ ∧ J' 0 11 = lN (if isLe (bt c) = true then wrdV bt (L - (c + 1)) (c + 1) (wstp z (bt c)) else z) ∧ _
      by_cases h : isLe (bt c) = true
      · rw [gi_neg (show ¬ isLe (bt c) = false by rw [h]; decide), if_pos h, lzE, hJ, shrL (by omega), show nI c + (1 : Int32) = nI (c + 1) from addN c 1]
        have hw : wstp z (bt c) < 2305843009213693952 := by
          unfold wstp
          by_cases q : z / 281474976710656 = 0
          · rw [if_pos q]; omega
          · rw [if_neg q]; omega
        obtain ⟨M', J', e1, e2, e3, e4, e5⟩ := ih (c + 1) (wstp z (bt c)) (wI M 0 7 (nI (c + 1))) (wJ J 0 11 (lN (wstp z (bt c)))) (by omega) (by omega) (RYm_ag hM (wI_o (by omega)) (wI_ne (by omega))) wI_eq wJ_self hw
        refine ⟨M', J', ?_, ?_, e3, fun o ho => (e4 o ho).trans (wI_o ho), fun k hk => (e5 k hk).trans (wI_ne (by omega))⟩
        · by_cases q : z / 281474976710656 = 0
          · rw [q, gi_pos (show lg_cmp (lN 0) 0 = 0 by decide), bdE, shlL (by omega) hbc]
            have ew : wstp z (bt c) = z * 256 + bt c := if_pos q
            rw [ew] at e1
            exact e1
          · rw [gi_neg (show ¬ lg_cmp (lN (z / 281474976710656)) 0 = 0 from fun y => q ((pk_lEQ (a := z / 281474976710656) (b := 0) (by omega) (by omega)).mp ((lg_cmp_eq _ _).mp y)))]
            have ew : wstp z (bt c) = 1152921504606846976 := if_neg q
            rw [ew] at e1
            exact e1
        · rw [e2, endE_go (f := fun j => isLe (bt j)) d h]
      · rw [gi_pos (bo_f h), if_neg h]
        exact ⟨M, J, rfl, by rw [endE_st (f := fun j => isLe (bt j)) (bo_f h)]; exact h7, hJ, fun _ _ => rfl, fun _ _ => rfl⟩
    · rw [if_neg d, let7n, gi_pos (show nI 0 = (0 : Int32) from rfl)]
      refine ⟨M, J, rfl, by rw [endE_ge (by omega)]; exact h7, ?_, fun _ _ => rfl, fun _ _ => rfl⟩
      rw [show L - c = 0 by omega]
      exact hJ
/-- a number, held by the class at 10000 -/
def RELn (a r : Nat) : Prop := (a < 10000 ∧ r = a) ∨ (a = 10000 ∧ 10000 ≤ r ∧ r ≤ 999999)
theorem rn7 (hL : L ≤ 300) (hb : ∀ j, bt j < 256) : ∀ m c a r M, L - c < m → c ≤ L → RYm bt L M → M 0 7 = nI c → M 0 10 = nI r → RELn a r → ∃ M' r', fX7_nextToken_85 m M = some M' ∧ M' 0 7 = nI (endE (fun j => isDi (bt j)) L c) ∧ M' 0 10 = nI r' ∧ RELn (numV bt (L - c) c a) r' ∧ (∀ o, o ≠ 0 → M' o = M o) ∧ ∀ k, k ≠ 7 → k ≠ 10 → M' 0 k = M 0 k := by
  intro m
  induction m with
  | zero => intro c a r M hm; omega
  | succ m ih =>
    intro c a r M hm hc hM h7 h10 hr
    have hbc := hb c
    have hr6 : r ≤ 999999 := by unfold RELn at hr; omega
    rw [sX7_nextToken_85, fX7_nextToken_85b, h7, byte7 hL hM (by omega), bdE]
    by_cases d : c < L
    · rw [if_pos d, dig7 hbc, n01, show L - c = (L - (c + 1)) + 1 by omega]
      show ∃ (M' : gI) (r' : Nat), _ ∧ _ ∧ _ ∧ RELn (if isDi (bt c) = true then numV bt (L - (c + 1)) (c + 1) (min 10000 (a * 10 + (bt c - 48))) else a) r' ∧ _
      by_cases h : isDi (bt c) = true
      · have hd := isDi_t.mp h
        rw [gi_neg (show ¬ isDi (bt c) = false by rw [h]; decide), if_pos h, h10]
        -- one figure more
        obtain ⟨r2, hr2, er⟩ : ∃ r2, RELn (min 10000 (a * 10 + (bt c - 48))) r2 ∧ ∀ K : Int32 → Option gI, lz K (fun j96 => gi (nI r ≤ (99999 : Int32)) (bd (some (nI (bt c))) (fun (u104 : Int32) => j96 ((((10 : Int32) * nI r) + u104) - (48 : Int32)))) (j96 (nI r))) = K (nI r2) := by
          by_cases q : r ≤ 99999
          · refine ⟨10 * r + bt c - 48, ?_, fun K => ?_⟩
            · unfold RELn at hr ⊢
              rcases hr with ⟨x, y⟩ | ⟨x, y, z⟩
              · subst y
                by_cases w : r * 10 + (bt c - 48) < 10000
                · left; rw [Nat.min_eq_right (by omega)]; omega
                · right; rw [Nat.min_eq_left (by omega)]; omega
              · right; rw [Nat.min_eq_left (by omega)]; omega
            · rw [lzE, gi_pos (show nI r ≤ (99999 : Int32) from (leN (a := r) (b := 99999) (by omega) (by omega)).mpr q), bdE, show (10 : Int32) = nI 10 from rfl, show (48 : Int32) = nI 48 from rfl, mulN, addN, subN (by omega)]
          · refine ⟨r, ?_, fun K => ?_⟩
            · unfold RELn at hr ⊢
              right; rw [Nat.min_eq_left (by omega)]; omega
            · rw [lzE, gi_neg (show ¬ nI r ≤ (99999 : Int32) from fun z => q ((leN (a := r) (b := 99999) (by omega) (by omega)).mp z))]
        rw [er]
        rw [lzE, wI_ne (show ¬ ((0 : Nat) = 0 ∧ 7 = 10) by omega), h7, show nI c + (1 : Int32) = nI (c + 1) from addN c 1, lzE]
        obtain ⟨M', r', e1, e2, e3, e4, e5, e6⟩ := ih (c + 1) _ r2 (wI (wI M 0 10 (nI r2)) 0 7 (nI (c + 1))) (by omega) (by omega) (RYm_ag hM (by rw [wI_o (by omega), wI_o (by omega)]) (by rw [wI_ne (by omega), wI_ne (by omega)])) wI_eq (by rw [wI_ne (by omega), wI_eq]) hr2
        exact ⟨M', r', e1, by rw [e2, endE_go (f := fun j => isDi (bt j)) d h], e3, e4, fun o ho => (e5 o ho).trans (by rw [wI_o ho, wI_o ho]), fun k hk hk2 => (e6 k hk hk2).trans (by rw [wI_ne (by omega), wI_ne (by omega)])⟩
      · rw [gi_pos (bo_f h), if_neg h]
        exact ⟨M, r, rfl, by rw [endE_st (f := fun j => isDi (bt j)) (bo_f h)]; exact h7, h10, hr, fun _ _ => rfl, fun _ _ _ => rfl⟩
    · rw [if_neg d, dig7n, gi_pos (show nI 0 = (0 : Int32) from rfl)]
      refine ⟨M, r, rfl, by rw [endE_ge (by omega)]; exact h7, h10, ?_, fun _ _ => rfl, fun _ _ _ => rfl⟩
      rw [show L - c = 0 by omega]
      exact hr
/-- the reference's next token is the class's at that place -/
theorem tok7 (hL : L ≤ 300) (hb : ∀ j, bt j < 256) {M : gI} {J : gJ} (hM : RYm bt L M) {c p k v e : Nat} (hc : c ≤ L) (h7 : M 0 7 = nI c) (hp : p = endE (fun j => isSp (bt j)) L c) (ht : (p < L ∧ TOKr bt L p k v e) ∨ (p = L ∧ k = 40 ∧ e = L)) : ∃ M' J', fX7_nextToken M J = some (M', J') ∧ (M' 0 7 = nI e ∧ M' 0 8 = nI p ∧ tkR k v (M' 0 9) (M' 0 10) (J' 0 11)) ∧ (∀ o, o ≠ 0 → M' o = M o) ∧ ∀ k, k < 7 ∨ 10 < k → M' 0 k = M 0 k := by
  obtain ⟨A, a1, a2, a3, a4⟩ := rs7 hL hb FU c M (by show _ < 5000; omega) hc hM h7
  rw [← hp] at a2
  have pL : p ≤ L := by rw [hp]; exact (endE_le hc).2.1
  have hbp := hb p
  obtain ⟨A2, hA2⟩ : ∃ A2, A2 = wI A 0 8 (nI p) := ⟨_, rfl⟩
  have z7 : A2 0 7 = nI p := by rw [hA2, wI_ne (by omega)]; exact a2
  have z8 : A2 0 8 = nI p := by rw [hA2]; exact wI_eq
  have zo : ∀ o, o ≠ 0 → A2 o = M o := fun o ho => by rw [hA2, wI_o ho]; exact a3 o ho
  have z0 : ∀ k, k < 7 ∨ 10 < k → A2 0 k = M 0 k := fun k hk => by rw [hA2, wI_ne (by omega)]; exact a4 k (by omega)
  have hM2 : RYm bt L A2 := RYm_ag hM (zo 4 (by omega)) (z0 4 (by omega))
  unfold fX7_nextToken
  rw [a1, bdE, a2, lzE, ← hA2, z7, byte7 hL hM2 (by omega), bdE]
  rcases ht with ⟨pl, ht⟩ | ⟨pl, rfl, rfl⟩
  · rw [if_pos pl, gi_pos (show (0 : Int32) ≤ nI (bt p) from (leN (a := 0) (b := bt p) (by omega) (by omega)).mpr (Nat.zero_le _)), dig7 hbp, n01, let7 hbp, n01]
    rcases ht with ⟨hl, rfl, rfl, hw⟩ | ⟨hl, hd, rfl, rfl, rfl⟩ | ⟨hl, hd, rfl, q, hq, hk, rfl⟩
    · have hl2 := isLe_t.mp hl
      have nd : isDi (bt p) = false := bo_f (fun z => by have := isDi_t.mp z; omega)
      rw [gi_pos nd, gi_neg (show ¬ isLe (bt p) = false by rw [hl]; decide), lzE, lzE]
      obtain ⟨M', J', e1, e2, e3, e4, e5⟩ := rw7 hL hb FU p 0 (wI A2 0 9 2) (wJ J 0 11 (lN 0)) (by show _ < 5000; omega) pL (RYm_ag hM2 (wI_o (by omega)) (wI_ne (by omega))) (by rw [wI_ne (by omega)]; exact z7) wJ_self (by omega)
      rw [show fX7_nextToken_168 FU (wI A2 0 9 2) (wJ J 0 11 0) = _ from e1, bdE, prE]
      have eb := endE_le (f := fun j => isLe (bt j)) (L := L) (c := p) pL
      have eg : p < endE (fun j => isLe (bt j)) L p := by
        rw [endE_go (f := fun j => isLe (bt j)) pl hl]
        have := endE_le (f := fun j => isLe (bt j)) (L := L) (c := p + 1) (by omega)
        omega
      have ws := wrd_seq (bt := bt) (L := L) (p := p) (L - p + 1) p (by omega) (Nat.le_refl _)
      rw [Nat.sub_self] at ws
      have ws' : wrdV bt (L - p) p 0 = wseq bt p (endE (fun j => isLe (bt j)) L p - p) := ws
      rw [ws'] at e3
      have wlt := wseq_lt (bt := bt) (p := p) (fun j => hb (p + j)) (endE (fun j => isLe (bt j)) L p - p)
      have wo := word_ok (bt := bt) (p := p) (by omega) (fun j => hb (p + j)) (fun j hj => by have := isLe_t.mp (eb.2.2.1 (p + j) (by omega) (by omega)); omega) hw
      have e9 : M' 0 9 = nI 2 := by rw [e5 9 (by omega)]; exact wI_eq
      refine ⟨M', J', rfl, ⟨e2, ?_, ?_⟩, fun o ho => (e4 o ho).trans ((wI_o ho).trans (zo o ho)), fun k hk => (e5 k (by omega)).trans ((wI_ne (by omega)).trans (z0 k hk))⟩
      · rw [e5 8 (by omega), wI_ne (by omega)]; exact z8
      · rcases wo with ⟨w1, w2⟩ | ⟨w1, w2⟩
        · exact Or.inr (Or.inr (Or.inl ⟨w1, e9, by rw [e3, w2]⟩))
        · refine Or.inr (Or.inr (Or.inr (Or.inl ⟨w1, Or.inl ⟨e9, fun j hj => ?_⟩⟩)))
          rw [e3]
          intro y
          have := wdn_lt j hj
          exact w2 j hj ((pk_lEQ (by omega) (by omega)).mp y)
    · rw [gi_neg (show ¬ isDi (bt p) = false by rw [hd]; decide), lzE, lzE]
      obtain ⟨M', r', e1, e2, e3, e4, e5, e6⟩ := rn7 hL hb FU p 0 0 (wI (wI A2 0 9 1) 0 10 (nI 0)) (by show _ < 5000; omega) pL (RYm_ag hM2 (by rw [wI_o (by omega), wI_o (by omega)]) (by rw [wI_ne (by omega), wI_ne (by omega)])) (by rw [wI_ne (by omega), wI_ne (by omega)]; exact z7) wI_eq (Or.inl ⟨by omega, rfl⟩)
      rw [show fX7_nextToken_85 FU (wI (wI A2 0 9 1) 0 10 0) = _ from e1, bdE]
      have e9 : M' 0 9 = nI 1 := by rw [e6 9 (by omega) (by omega), wI_ne (by omega)]; exact wI_eq
      refine ⟨M', J, rfl, ⟨e2, ?_, Or.inr (Or.inl ⟨rfl, e9, ?_⟩)⟩, fun o ho => (e5 o ho).trans (by rw [wI_o ho, wI_o ho]; exact zo o ho), fun k hk => (e6 k (by omega) (by omega)).trans (by rw [wI_ne (by omega), wI_ne (by omega)]; exact z0 k hk)⟩
      · rw [e6 8 (by omega) (by omega), wI_ne (by omega), wI_ne (by omega)]; exact z8
      · rcases e4 with ⟨x, y⟩ | ⟨x, y, z⟩
        · exact Or.inl ⟨x, by rw [e3, y]⟩
        · refine Or.inr ⟨x, ?_⟩
          rw [e3]
          exact (ltN (a := 9999) (b := r') (by omega) (by omega)).mpr (by omega)
    · have q2 : q < 2 := by omega
      rw [gi_pos hd, gi_pos hl]
      -- the token's number, and how far it goes
      have k25 := sgk_25 hbp q2
      rw [← hk] at k25
      have so := sgn_ok hbp q2
      rw [← hk] at so
      have fin : ∀ M' : gI, M' 0 9 = nI (sg7 (bt p) q) → tkR k 0 (M' 0 9) (M' 0 10) (J 0 11) := by
        intro M' h9
        rw [h9]
        rcases so with ⟨x, y, z⟩ | ⟨x, z⟩
        · exact Or.inr (Or.inr (Or.inr (Or.inr ⟨x, y, by rw [z]⟩)))
        · refine Or.inr (Or.inr (Or.inr (Or.inl ⟨x, ?_⟩)))
          rcases z with z | z
          · exact Or.inr (Or.inl (by rw [z]))
          · exact Or.inr (Or.inr (by rw [z]))
      -- first the sign alone
      obtain ⟨x0, hx0, ex0⟩ : ∃ x0, (x0 = if fX7_isSign (nI (bt p)) = 0 then 3 else nI (bt p)) ∧ ∀ K : Int32 → Option (gI × gJ), lz K (fun j31 => gi (fX7_isSign (nI (bt p)) = 0) (j31 3) (j31 (nI (bt p)))) = K x0 := by
        by_cases y : fX7_isSign (nI (bt p)) = 0
        · exact ⟨3, by rw [if_pos y], fun K => gi_pos y⟩
        · exact ⟨nI (bt p), by rw [if_neg y], fun K => gi_neg y⟩
      rw [ex0]
      obtain ⟨A3, hA3⟩ : ∃ A3, A3 = wI (wI A2 0 9 x0) 0 7 (nI (p + 1)) := ⟨_, rfl⟩
      have y7 : A3 0 7 = nI (p + 1) := by rw [hA3]; exact wI_eq
      have y8 : A3 0 8 = nI p := by rw [hA3, wI_ne (by omega), wI_ne (by omega)]; exact z8
      have y9 : A3 0 9 = x0 := by rw [hA3, wI_ne (by omega)]; exact wI_eq
      have yo : ∀ o, o ≠ 0 → A3 o = M o := fun o ho => by rw [hA3, wI_o ho, wI_o ho]; exact zo o ho
      have y0 : ∀ k, k < 7 ∨ 10 < k → A3 0 k = M 0 k := fun k hk => by rw [hA3, wI_ne (by omega), wI_ne (by omega)]; exact z0 k hk
      have hM3 : RYm bt L A3 := RYm_ag hM (yo 4 (by omega)) (y0 4 (by omega))
      rw [lzE, wI_ne (show ¬ ((0 : Nat) = 0 ∧ 7 = 9) by omega), z7, show nI p + (1 : Int32) = nI (p + 1) from addN p 1, ← hA3, lzE, lzE, y7, byte7 hL hM3 (by omega), bdE]
      by_cases c6 : bt p = 60 ∨ bt p = 62
      · have jn : ∀ X : Option (gI × gJ), gi (nI (bt p) = 60) X (gi (nI (bt p) = 62) X (some (A3, J))) = X := by
          intro X
          rcases c6 with y | y
          · rw [gi_pos (by rw [y]; rfl)]
          · rw [gi_neg (show ¬ nI (bt p) = (60 : Int32) by rw [y]; decide), gi_pos (by rw [y]; rfl)]
        rw [jn]
        rcases hq with ⟨rfl, g1, g2⟩ | ⟨rfl, g1⟩
        · rw [if_pos g1, gi_pos (show nI (bt (p + 1)) = (61 : Int32) by rw [g2]; rfl), if_pos (k25.mpr ⟨c6, rfl⟩)]
          obtain ⟨x1, hx1, ex1⟩ : ∃ x1, x1 = nI (sg7 (bt p) 1) ∧ ∀ K : Int32 → Option (gI × gJ), lz K (fun j46 => gi (nI (bt p) = 60) (j46 4) (j46 5)) = K x1 := by
            rcases c6 with y | y
            · refine ⟨4, ?_, fun K => gi_pos (by rw [y]; rfl)⟩
              rw [y]; unfold sg7; rw [gi_pos rfl, gi_pos rfl]; rfl
            · refine ⟨5, ?_, fun K => gi_neg (by rw [y]; decide)⟩
              rw [y]; unfold sg7; rw [gi_neg (by decide), gi_pos rfl, gi_pos rfl]; rfl
          rw [ex1]
          rw [lzE, wI_ne (show ¬ ((0 : Nat) = 0 ∧ 7 = 9) by omega), y7, show nI (p + 1) + (1 : Int32) = nI (p + 2) from addN (p + 1) 1, lzE]
          refine ⟨wI (wI A3 0 9 x1) 0 7 (nI (p + 2)), J, rfl, ⟨wI_eq, ?_, fin _ ?_⟩, fun o ho => by rw [wI_o ho, wI_o ho]; exact yo o ho, fun k hk => by rw [wI_ne (by omega), wI_ne (by omega)]; exact y0 k hk⟩
          · rw [wI_ne (by omega), wI_ne (by omega)]; exact y8
          · rw [wI_ne (by omega), wI_eq, hx1]
        · have n61 : ¬ (if p + 1 < L then nI (bt (p + 1)) else oI 0) = (61 : Int32) := by
            by_cases y : p + 1 < L
            · rw [if_pos y]
              intro w
              exact g1 ⟨y, (nI_eq (by have := hb (p + 1); omega) (by omega)).mp (show nI (bt (p + 1)) = nI 61 from w)⟩
            · rw [if_neg y]
              decide
          rw [gi_neg n61, if_neg (fun w => by have := k25.mp w; omega)]
          refine ⟨A3, J, rfl, ⟨y7, y8, fin _ ?_⟩, yo, y0⟩
          rw [y9, hx0]
          rcases c6 with y | y
          · rw [y]
            have s : fX7_isSign (nI 60) = nI 1 := by unfold fX7_isSign; simp (disch := omega) only [lit, eqN, Nat.reduceEqDiff, giFa, giTr]
            rw [s, if_neg (show ¬ nI 1 = (0 : Int32) from one_ne)]
            unfold sg7; rw [gi_pos rfl, gi_neg (by decide)]
          · rw [y]
            have s : fX7_isSign (nI 62) = nI 1 := by unfold fX7_isSign; simp (disch := omega) only [lit, eqN, Nat.reduceEqDiff, giFa, giTr]
            rw [s, if_neg (show ¬ nI 1 = (0 : Int32) from one_ne)]
            unfold sg7; rw [gi_neg (by decide), gi_pos rfl, gi_neg (by decide)]
      · have c60 : ¬ bt p = 60 := fun y => c6 (Or.inl y)
        have c62 : ¬ bt p = 62 := fun y => c6 (Or.inr y)
        rw [gi_neg (show ¬ nI (bt p) = (60 : Int32) from fun y => c60 ((nI_eq (by omega) (by omega)).mp (show nI (bt p) = nI 60 from y))), gi_neg (show ¬ nI (bt p) = (62 : Int32) from fun y => c62 ((nI_eq (by omega) (by omega)).mp (show nI (bt p) = nI 62 from y))), if_neg (fun w => c6 (k25.mp w).1)]
        refine ⟨A3, J, rfl, ⟨y7, y8, fin _ ?_⟩, yo, y0⟩
        rw [y9, hx0]
        unfold sg7
        rw [gi_neg c60, gi_neg c62]
        by_cases y : fX7_isSign (nI (bt p)) = 0
        · rw [if_pos y, gi_pos y]; rfl
        · rw [if_neg y, gi_neg y]
  · rw [if_neg (by omega), gi_neg (show ¬ (0 : Int32) ≤ oI 0 by decide), lzE]
    refine ⟨wI A2 0 9 0, J, rfl, ⟨?_, ?_, Or.inl ⟨rfl, wI_eq⟩⟩, fun o ho => by rw [wI_o ho]; exact zo o ho, fun k hk => by rw [wI_ne (by omega)]; exact z0 k hk⟩
    · rw [wI_ne (by omega), ← pl]; exact z7
    · rw [wI_ne (by omega)]; exact z8
/-- a number of 32 bits as it stands -/
def tI (x : Int32) : Nat := x.toBitVec.toNat
theorem tI_n (x : Int32) : x = nI (tI x) := Int32.toBitVec_inj.mp (by show _ = BitVec.ofNat 32 _; unfold tI; simp)
theorem tI_v {k : Nat} (h : k < 4294967296) : tI (nI k) = k := Nat.mod_eq_of_lt h
/-- the class's tokens, and the reference that reads them one by one -/
theorem toks (hL : L ≤ 300) (hb : ∀ j, bt j < 256) {B C : gI} (hB : RYm bt L B) {K : Nat} (hK : K ≤ L) (hs : SPL bt L C 0 0 K) (h1 : C 276 K = nI 40) (h2 : C 277 K = nI 0) (h3 : C 278 K = nI L) : ∃ tk tv tp ep : Nat → Nat, (∀ j, C 276 j = nI (tk j) ∧ C 277 j = nI (tv j) ∧ C 278 j = nI (tp j)) ∧ toksOK tk tv tp K ∧ (∀ j, j ≤ K → ¬ tk j = 38) ∧ tk K = 40 ∧ NXT tk tv tp ep B K ∧ ∀ M J, M 4 = B 4 → M 0 4 = B 0 4 → M 0 7 = nI 0 → ∃ M' J', fX7_nextToken M J = some (M', J') ∧ (M' 0 7 = nI (ep 0) ∧ M' 0 8 = nI (tp 0) ∧ tkR (tk 0) (tv 0) (M' 0 9) (M' 0 10) (J' 0 11)) ∧ (∀ o, o ≠ 0 → M' o = M o) ∧ ∀ k, k < 7 ∨ 10 < k → M' 0 k = M 0 k := by
  obtain ⟨cu, c1, c2, c3, c4⟩ := hs
  have kK : tI (C 276 K) = 40 := by rw [h1]; exact tI_v (by omega)
  have pK : tI (C 278 K) = L := by rw [h3]; exact tI_v (by omega)
  have vK : tI (C 277 K) = 0 := by rw [h2]; exact tI_v (by omega)
  have tj : ∀ j, j < K → tI (C 276 j) < 40 ∧ ¬ tI (C 276 j) = 38 ∧ tI (C 277 j) ≤ 10000 ∧ tI (C 278 j) < L ∧ tI (C 278 j) = endE (fun j => isSp (bt j)) L (cu j) ∧ TOKr bt L (tI (C 278 j)) (tI (C 276 j)) (tI (C 277 j)) (cu (j + 1)) := by
    intro j hj
    obtain ⟨p, k, v, g1, g2, g3, g4, g5, g6, g7, g8, g9⟩ := c2 j (Nat.zero_le _) hj
    rw [g3, g4, g5, tI_v (by omega), tI_v (by omega), tI_v (by omega)]
    exact ⟨g6, g7, g8, g2, g1, g9⟩
  -- one token, from behind the one ahead
  have one : ∀ j M J, j ≤ K → M 4 = B 4 → M 0 4 = B 0 4 → M 0 7 = nI (cu j) → ∃ M' J', fX7_nextToken M J = some (M', J') ∧ (M' 0 7 = nI (if j < K then cu (j + 1) else L) ∧ M' 0 8 = nI (tI (C 278 j)) ∧ tkR (tI (C 276 j)) (tI (C 277 j)) (M' 0 9) (M' 0 10) (J' 0 11)) ∧ (∀ o, o ≠ 0 → M' o = M o) ∧ ∀ k, k < 7 ∨ 10 < k → M' 0 k = M 0 k := by
    intro j M J hj m4 m04 m7
    have hM : RYm bt L M := RYm_ag hB m4 m04
    have cj := c4 j (Nat.zero_le _) hj
    by_cases d : j < K
    · obtain ⟨g1, g2, g3, g4, g5, g6⟩ := tj j d
      rw [if_pos d]
      exact tok7 hL hb hM cj m7 g5 (Or.inl ⟨g4, g6⟩)
    · have : j = K := by omega
      subst this
      rw [if_neg d, kK, vK, pK]
      exact tok7 hL hb hM cj m7 c3.symm (Or.inr ⟨rfl, rfl, rfl⟩)
  refine ⟨fun j => tI (C 276 j), fun j => tI (C 277 j), fun j => tI (C 278 j), fun j => if j < K then cu (j + 1) else L, fun j => ⟨tI_n _, tI_n _, tI_n _⟩, fun j hj => ?_, fun j hj => ?_, kK, fun i M J hi _ m4 m04 m7 => ?_, fun M J m4 m04 m7 => one 0 M J (by omega) m4 m04 (by rw [c1]; exact m7)⟩
  · dsimp only
    by_cases d : j < K
    · have := tj j d
      omega
    · have : j = K := by omega
      subst this
      rw [kK, vK, pK]; omega
  · dsimp only
    by_cases d : j < K
    · exact (tj j d).2.1
    · have : j = K := by omega
      subst this
      rw [kK]; omega
  · dsimp only at m7 ⊢
    rw [if_pos hi] at m7
    exact one (i + 1) M J (by omega) m4 m04 m7
end RT
