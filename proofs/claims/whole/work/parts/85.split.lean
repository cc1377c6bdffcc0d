-- 85: PURE PART: the tape cut into tokens, class and reference (out of gen85.py and pure.py)
def BYc (bt : Nat → Nat) (L : Nat) (C : gI) : Prop := ∀ j, j < L → C 274 j = nI (bt j)
def RYm (bt : Nat → Nat) (L : Nat) (M : gI) : Prop := M 0 4 = nI L ∧ ∀ j, j < L → M 4 j = nI (bt j)
theorem sgk_25 {c q : Nat} (hc : c < 256) (hq : q < 2) : (sgk c q = 25 ∨ sgk c q = 26) ↔ ((c = 60 ∨ c = 62) ∧ q = 1) := by
  have hq2 : q = 1 ∨ q = 0 := by omega
  by_cases c60 : c = 60
  · subst c60
    rcases hq2 with rfl | rfl
    · have e1 : sgk 60 1 = 25 := by unfold sgk; simp only [Nat.reduceEqDiff, giFa, giTr, Nat.one_ne_zero]
      rw [e1]; decide
    · have e1 : sgk 60 0 = 27 := by unfold sgk; simp only [Nat.reduceEqDiff, giFa, giTr]
      rw [e1]; decide
  by_cases c62 : c = 62
  · subst c62
    rcases hq2 with rfl | rfl
    · have e1 : sgk 62 1 = 26 := by unfold sgk; simp only [Nat.reduceEqDiff, giFa, giTr, Nat.one_ne_zero]
      rw [e1]; decide
    · have e1 : sgk 62 0 = 28 := by unfold sgk; simp only [Nat.reduceEqDiff, giFa, giTr]
      rw [e1]; decide
  by_cases c35 : c = 35
  · subst c35
    have e1 : sgk 35 q = 30 := by unfold sgk; simp only [Nat.reduceEqDiff, giFa, giTr]
    rw [e1]
    omega
  by_cases c40 : c = 40
  · subst c40
    have e1 : sgk 40 q = 35 := by unfold sgk; simp only [Nat.reduceEqDiff, giFa, giTr]
    rw [e1]
    omega
  by_cases c41 : c = 41
  · subst c41
    have e1 : sgk 41 q = 36 := by unfold sgk; simp only [Nat.reduceEqDiff, giFa, giTr]
    rw [e1]
    omega
  by_cases c42 : c = 42
  · subst c42
    have e1 : sgk 42 q = 33 := by unfold sgk; simp only [Nat.reduceEqDiff, giFa, giTr]
    rw [e1]
    omega
  by_cases c43 : c = 43
  · subst c43
    have e1 : sgk 43 q = 31 := by unfold sgk; simp only [Nat.reduceEqDiff, giFa, giTr]
    rw [e1]
    omega
  by_cases c45 : c = 45
  · subst c45
    have e1 : sgk 45 q = 32 := by unfold sgk; simp only [Nat.reduceEqDiff, giFa, giTr]
    rw [e1]
    omega
  by_cases c47 : c = 47
  · subst c47
    have e1 : sgk 47 q = 34 := by unfold sgk; simp only [Nat.reduceEqDiff, giFa, giTr]
    rw [e1]
    omega
  by_cases c59 : c = 59
  · subst c59
    have e1 : sgk 59 q = 37 := by unfold sgk; simp only [Nat.reduceEqDiff, giFa, giTr]
    rw [e1]
    omega
  by_cases c61 : c = 61
  · subst c61
    have e1 : sgk 61 q = 29 := by unfold sgk; simp only [Nat.reduceEqDiff, giFa, giTr]
    rw [e1]
    omega
  have e1 : sgk c q = 39 := by unfold sgk; simp (disch := omega) only [giF, gi_same]
  rw [e1]
  omega
section SP
variable {bt : Nat → Nat} {L : Nat}
theorem n01 {b : Bool} : (nI (if b = true then 1 else 0) = (0 : Int32)) = (b = false) := by
  cases b with
  | true => exact propext ⟨fun z => absurd z (by decide), fun z => absurd z (by decide)⟩
  | false => exact propext ⟨fun _ => rfl, fun _ => rfl⟩
theorem sw6 (hL : L ≤ 300) (hb : ∀ j, bt j < 256) {C : gI} (hC : BYc bt L C) {u : Int32} : ∀ m c, L - c < m → c ≤ L → fX1_splitWord_3 m u (nI L) (nI c) C = some (nI (endE (fun j => isLe (bt j)) L c)) := by
  intro m
  induction m with
  | zero => intro c hm; omega
  | succ m ih =>
    intro c hm hc
    rw [sX1_splitWord_3, fX1_splitWord_3b]
    by_cases d : c < L
    · rw [gi_neg (show ¬ nI L ≤ nI c from fun z => by have := (leN (a := L) (b := c) (by omega) (by omega)).mp z; omega), gdN (by omega) (by omega), clN (by omega), hC c d, let6 (hb c), n01]
      by_cases h : isLe (bt c) = true
      · rw [gi_neg (show ¬ isLe (bt c) = false by rw [h]; decide), lzE, show nI c + (1 : Int32) = nI (c + 1) from addN c 1, endE_go (f := fun j => isLe (bt j)) d h]
        exact ih (c + 1) (by omega) (by omega)
      · rw [gi_pos (bo_f h), endE_st (f := fun j => isLe (bt j)) (bo_f h)]
    · rw [gi_pos ((leN (a := L) (b := c) (by omega) (by omega)).mpr (by omega)), endE_ge (by omega)]
theorem sn6 (hL : L ≤ 300) (hb : ∀ j, bt j < 256) {C : gI} (hC : BYc bt L C) {u : Int32} : ∀ m c a, L - c < m → c ≤ L → a ≤ 10000 → fX1_splitNumber_6 m u (nI L) (nI a) (nI c) C = some (nI (numV bt (L - c) c a), nI (endE (fun j => isDi (bt j)) L c)) := by
  intro m
  induction m with
  | zero => intro c a hm; omega
  | succ m ih =>
    intro c a hm hc ha
    rw [sX1_splitNumber_6, fX1_splitNumber_6b]
    by_cases d : c < L
    · rw [gi_neg (show ¬ nI L ≤ nI c from fun z => by have := (leN (a := L) (b := c) (by omega) (by omega)).mp z; omega), gdN (by omega) (by omega), clN (by omega), hC c d, dig6 (hb c), n01, show L - c = (L - (c + 1)) + 1 by omega]
      show _ = some (nI (if isDi (bt c) = true then numV bt (L - (c + 1)) (c + 1) (min 10000 (a * 10 + (bt c - 48))) else a), _)
      by_cases h : isDi (bt c) = true
      · have hd := isDi_t.mp h
        rw [gi_neg (show ¬ isDi (bt c) = false by rw [h]; decide), if_pos h, lzE, lzE, show nI c + (1 : Int32) = nI (c + 1) from addN c 1, endE_go (f := fun j => isDi (bt j)) d h, show jmin 10000 ((nI a * 10) + (nI (bt c) - 48)) = nI (min 10000 (a * 10 + (bt c - 48))) by rw [show (48 : Int32) = nI 48 from rfl, show (10 : Int32) = nI 10 from rfl, show (10000 : Int32) = nI 10000 from rfl, subN hd.1, mulN, addN, min7 (by omega) (by omega)]]
        exact ih (c + 1) _ (by omega) (by omega) (Nat.min_le_left _ _)
      · rw [gi_pos (bo_f h), if_neg h, endE_st (f := fun j => isDi (bt j)) (bo_f h)]
    · rw [gi_pos ((leN (a := L) (b := c) (by omega) (by omega)).mpr (by omega)), endE_ge (by omega), show L - c = 0 by omega]
      rfl
theorem ow25 (hL : L ≤ 300) {C : gI} (hC : BYc bt L C) (hb : ∀ j, bt j < 256) {p len w : Nat} (hp : p + len ≤ L) (hw : w < 24) : ∀ m i, 5 - i < m → i ≤ 5 → ∃ s, fX4_ofWord_25 m (nI p) (nI len) (nI w) (nI 1) (nI i) C = some (nI s) ∧ ((s = 1 ∧ ∀ j, i ≤ j → j < 5 → padW bt p len j = tww w j) ∨ (s = 0 ∧ ∃ j, i ≤ j ∧ j < 5 ∧ ¬ padW bt p len j = tww w j)) := by
  intro m
  induction m with
  | zero => intro i hm; omega
  | succ m ih =>
    intro i hm hi
    rw [sX4_ofWord_25, fX4_ofWord_25b]
    by_cases d : i < 5
    · have hpad : padW bt p len i < 256 := by
        unfold padW
        by_cases c : i < len
        · rw [if_pos c]; exact hb _
        · rw [if_neg c]; omega
      have htw := tww_lt w hw i d
      rw [gi_neg (show ¬ (5 : Int32) ≤ nI i from fun z => by have := (leN (a := 5) (b := i) (by omega) (by omega)).mp z; omega), gi_neg (show ¬ nI 1 = (0 : Int32) from one_ne)]
      have go : ∀ K : Int32 → Option Int32, lz K (fun j18 => gi (nI len ≤ nI i) (j18 32) (gd (vp_in (nI p + nI i) 300) (j18 (C 274 ((nI p + nI i)).toNatClampNeg)))) = K (nI (padW bt p len i)) := by
        intro K
        rw [lzE]
        unfold padW
        by_cases c : i < len
        · rw [if_pos c, gi_neg (show ¬ nI len ≤ nI i from fun z => by have := (leN (a := len) (b := i) (by omega) (by omega)).mp z; omega), addN, gdN (by omega) (by omega), clN (by omega), hC _ (by omega)]
        · rw [if_neg c, gi_pos ((leN (a := len) (b := i) (by omega) (by omega)).mpr (by omega))]
          rfl
      rw [go]
      rw [show (nI w * (5 : Int32)) + nI i = nI (5 * w + i) by rw [show (5 : Int32) = nI 5 from rfl, mulN, addN, Nat.mul_comm], chA (by omega), bdE, lzE, show nI i + (1 : Int32) = nI (i + 1) from addN i 1]
      show ∃ s, gi (nI (padW bt p len i) = nI (tww w i)) _ _ = some (nI s) ∧ _
      by_cases e : padW bt p len i = tww w i
      · rw [gi_pos (by rw [e])]
        dsimp only
        rw [lzE]
        obtain ⟨s, s1, s2⟩ := ih (i + 1) (by omega) (by omega)
        refine ⟨s, s1, ?_⟩
        rcases s2 with ⟨a, b⟩ | ⟨a, j, b, c, f⟩
        · refine Or.inl ⟨a, fun j h1 h2 => ?_⟩
          by_cases z : j = i
          · rw [z]; exact e
          · exact b j (by omega) h2
        · exact Or.inr ⟨a, j, by omega, c, f⟩
      · rw [gi_neg (fun z => e ((nI_eq (by omega) (by omega)).mp z))]
        dsimp only
        rw [lzE]
        refine ⟨0, ?_, Or.inr ⟨rfl, i, Nat.le_refl _, d, e⟩⟩
        obtain ⟨m, rfl⟩ : ∃ a, m = a + 1 := ⟨m - 1, by omega⟩
        rw [sX4_ofWord_25, fX4_ofWord_25b]
        by_cases z : (5 : Int32) ≤ nI (i + 1)
        · rw [gi_pos z]; rfl
        · rw [gi_neg z, gi_pos (show (0 : Int32) = 0 from rfl)]; rfl
    · rw [gi_pos (show (5 : Int32) ≤ nI i from (leN (a := 5) (b := i) (by omega) (by omega)).mpr (by omega))]
      exact ⟨1, rfl, Or.inl ⟨rfl, fun j h1 h2 => by omega⟩⟩
theorem ow7 (hL : L ≤ 300) {C : gI} (hC : BYc bt L C) (hb : ∀ j, bt j < 256) {p len : Nat} (hp : p + len ≤ L) : ∀ m w, 24 - w < m → w ≤ 24 → (∃ k, w ≤ k ∧ k < 24 ∧ len ≤ 5 ∧ (∀ i, i < 5 → padW bt p len i = tww k i) ∧ fX4_ofWord_7 m (nI p) (nI len) (nI w) C = some (Sum.inl (nI k))) ∨ (fX4_ofWord_7 m (nI p) (nI len) (nI w) C = some (Sum.inr ()) ∧ (5 < len ∨ ∀ j, w ≤ j → j < 24 → ∃ i, i < 5 ∧ ¬ padW bt p len i = tww j i)) := by
  intro m
  induction m with
  | zero => intro w hm; omega
  | succ m ih =>
    intro w hm hw
    rw [sX4_ofWord_7, fX4_ofWord_7b]
    by_cases d : w < 24
    · rw [gi_neg (show ¬ (24 : Int32) ≤ nI w from fun z => by have := (leN (a := 24) (b := w) (by omega) (by omega)).mp z; omega)]
      by_cases c : 5 < len
      · rw [gi_pos (show (5 : Int32) < nI len from (ltN (a := 5) (b := len) (by omega) (by omega)).mpr c)]
        exact Or.inr ⟨rfl, Or.inl c⟩
      · rw [gi_neg (show ¬ (5 : Int32) < nI len from fun z => c ((ltN (a := 5) (b := len) (by omega) (by omega)).mp z))]
        obtain ⟨s, s1, s2⟩ := ow25 hL hC hb hp d FU 0 (by show _ < 5000; omega) (by omega)
        rw [show fX4_ofWord_25 FU (nI p) (nI len) (nI w) 1 0 C = some (nI s) from s1, bdE]
        rcases s2 with ⟨a, b⟩ | ⟨a, j, b1, b2, b3⟩
        · rw [a, gi_neg (show ¬ nI 1 = (0 : Int32) from one_ne)]
          exact Or.inl ⟨w, Nat.le_refl _, d, by omega, fun i hi => b i (by omega) hi, rfl⟩
        · rw [a, gi_pos (show nI 0 = (0 : Int32) from rfl), lzE, show nI w + (1 : Int32) = nI (w + 1) from addN w 1]
          rcases ih (w + 1) (by omega) (by omega) with ⟨k, k1, k2, k3, k4, k5⟩ | ⟨k1, k2⟩
          · exact Or.inl ⟨k, by omega, k2, k3, k4, k5⟩
          · refine Or.inr ⟨k1, k2.imp id (fun z j' h1 h2 => ?_)⟩
            by_cases y : j' = w
            · rw [y]; exact ⟨j, b2, b3⟩
            · exact z j' (by omega) h2
    · rw [gi_pos (show (24 : Int32) ≤ nI w from (leN (a := 24) (b := w) (by omega) (by omega)).mpr (by omega))]
      exact Or.inr ⟨rfl, Or.inr (fun j h1 h2 => by omega)⟩
theorem ofW6 (hL : L ≤ 300) {C : gI} (hC : BYc bt L C) (hb : ∀ j, bt j < 256) {p e : Nat} (hp : p ≤ e) (he : e ≤ L) : ∃ k, fX4_ofWord (nI p) (nI e) C = some (nI k) ∧ k < 40 ∧ ¬ k = 38 ∧ WRDm bt p (e - p) k := by
  unfold fX4_ofWord
  rw [lzE, subN hp]
  rcases ow7 hL hC hb (p := p) (len := e - p) (by omega) FU 0 (by show _ < 5000; omega) (by omega) with ⟨k, k1, k2, k3, k4, k5⟩ | ⟨k1, k2⟩
  · rw [show fX4_ofWord_7 FU (nI p) (nI (e - p)) 0 C = _ from k5]
    exact ⟨k, rfl, by omega, by omega, Or.inl ⟨k2, k3, k4⟩⟩
  · rw [show fX4_ofWord_7 FU (nI p) (nI (e - p)) 0 C = _ from k1]
    exact ⟨39, rfl, by omega, by omega, Or.inr ⟨rfl, k2.imp id (fun z j h => z j (by omega) h)⟩⟩
/-- the token at p: kind, value, end -/
def TOKr (bt : Nat → Nat) (L p k v e : Nat) : Prop :=
  (isLe (bt p) = true ∧ e = endE (fun j => isLe (bt j)) L p ∧ v = 0 ∧ WRDm bt p (e - p) k) ∨
  (isLe (bt p) = false ∧ isDi (bt p) = true ∧ e = endE (fun j => isDi (bt j)) L p ∧ k = 24 ∧ v = numV bt (L - p) p 0) ∨
  (isLe (bt p) = false ∧ isDi (bt p) = false ∧ v = 0 ∧ ∃ q, ((q = 1 ∧ p + 1 < L ∧ bt (p + 1) = 61) ∨ (q = 0 ∧ ¬ (p + 1 < L ∧ bt (p + 1) = 61))) ∧ k = sgk (bt p) q ∧ e = p + (if k = 25 ∨ k = 26 then 2 else 1))
/-- a token is put down -/
theorem put6 {C : gI} {i : Nat} (h : C 275 3 = nI i) (hi : i < 301) (k v p : Int32) : ∃ C', fX1_put k v p C = some C' ∧ C' 275 3 = nI (i + 1) ∧ C' 276 i = k ∧ C' 277 i = v ∧ C' 278 i = p ∧ (∀ j, j ≠ i → C' 276 j = C 276 j ∧ C' 277 j = C 277 j ∧ C' 278 j = C 278 j) ∧ (∀ o, o ≠ 275 → o ≠ 276 → o ≠ 277 → o ≠ 278 → C' o = C o) ∧ ∀ j, j ≠ 3 → C' 275 j = C 275 j := by
  refine ⟨wI (wI (wI (wI C 276 i k) 277 i v) 278 i p) 275 3 (nI (i + 1)), ?_, wI_eq, ?_, ?_, ?_, fun j hj => ⟨?_, ?_, ?_⟩, fun o o1 o2 o3 o4 => ?_, fun j hj => ?_⟩
  · unfold fX1_put
    rw [h, gi_neg (show ¬ (300 : Int32) < nI i from fun z => by have := (ltN (a := 300) (b := i) (by omega) (by omega)).mp z; omega), gdN hi (by omega), clN (by omega), lzE]
    simp (disch := (first | assumption | trivial | omega)) only [wI_o, h, gdN, clN, lzE, lit, addN]
  · rw [wI_o (by omega), wI_o (by omega), wI_o (by omega), wI_eq]
  · rw [wI_o (by omega), wI_o (by omega), wI_eq]
  · rw [wI_o (by omega), wI_eq]
  · rw [wI_o (by omega), wI_o (by omega), wI_o (by omega), wI_ne (by omega)]
  · rw [wI_o (by omega), wI_o (by omega), wI_ne (by omega), wI_o (by omega)]
  · rw [wI_o (by omega), wI_ne (by omega), wI_o (by omega), wI_o (by omega)]
  · rw [wI_o o1, wI_o o4, wI_o o3, wI_o o2]
  · rw [wI_ne (by omega), wI_o (by omega), wI_o (by omega), wI_o (by omega)]
/-- the tokens from the i-th on, the i-th not ahead of a -/
def SPL (bt : Nat → Nat) (L : Nat) (C' : gI) (i a K : Nat) : Prop := ∃ cu : Nat → Nat, cu i = a ∧ (∀ j, i ≤ j → j < K → ∃ p k v, p = endE (fun j => isSp (bt j)) L (cu j) ∧ p < L ∧ C' 276 j = nI k ∧ C' 277 j = nI v ∧ C' 278 j = nI p ∧ k < 40 ∧ ¬ k = 38 ∧ v ≤ 10000 ∧ TOKr bt L p k v (cu (j + 1))) ∧ endE (fun j => isSp (bt j)) L (cu K) = L ∧ ∀ j, i ≤ j → j ≤ K → cu j ≤ L
theorem numV_le : ∀ g c a, a ≤ 10000 → numV bt g c a ≤ 10000 := by
  intro g
  induction g with
  | zero => intro c a ha; exact ha
  | succ g ih =>
    intro c a ha
    show (if isDi (bt c) = true then numV bt g (c + 1) (min 10000 (a * 10 + (bt c - 48))) else a) ≤ 10000
    by_cases h : isDi (bt c) = true
    · rw [if_pos h]; exact ih _ _ (Nat.min_le_left _ _)
    · rw [if_neg h]; exact ha
theorem spl_tok {C1 C' : gI} {i a K k v e : Nat} (ha : a < L) (hs : isSp (bt a) = false) (hk : C1 276 i = nI k) (hv : C1 277 i = nI v) (hp : C1 278 i = nI a) (k40 : k < 40) (k38 : ¬ k = 38) (v4 : v ≤ 10000) (tok : TOKr bt L a k v e) (hC : ∀ j, j < i + 1 → C' 276 j = C1 276 j ∧ C' 277 j = C1 277 j ∧ C' 278 j = C1 278 j) (hi : i + 1 ≤ K) (h : SPL bt L C' (i + 1) e K) : SPL bt L C' i a K := by
  obtain ⟨cu, c1, c2, c3, c4⟩ := h
  refine ⟨fun j => if j = i then a else cu j, if_pos rfl, fun j h1 h2 => ?_, ?_, fun j h1 h2 => ?_⟩
  · dsimp only
    by_cases z : j = i
    · subst z
      obtain ⟨q1, q2, q3⟩ := hC j (by omega)
      refine ⟨a, k, v, ?_, ha, q1.trans hk, q2.trans hv, q3.trans hp, k40, k38, v4, ?_⟩
      · rw [if_pos rfl, endE_st (f := fun j => isSp (bt j)) hs]
      · rw [if_neg (by omega), c1]; exact tok
    · rw [if_neg z, if_neg (by omega)]
      exact c2 j (by omega) h2
  · dsimp only
    rw [if_neg (by omega)]; exact c3
  · dsimp only
    by_cases z : j = i
    · rw [if_pos z]; omega
    · rw [if_neg z]; exact c4 j (by omega) h2
theorem spl6 (hL : L ≤ 300) (hb : ∀ j, bt j < 256) : ∀ m a u i C, L - a < m → a ≤ L → u ≤ a → i ≤ a → BYc bt L C → C 275 3 = nI i → ∃ C' K, fX1_split_10 m (nI L) (nI a) (nI u) C = some C' ∧ i ≤ K ∧ K ≤ L ∧ C' 275 3 = nI K ∧ (∀ j, j < i → C' 276 j = C 276 j ∧ C' 277 j = C 277 j ∧ C' 278 j = C 278 j) ∧ (∀ o, o ≠ 275 → o ≠ 276 → o ≠ 277 → o ≠ 278 → C' o = C o) ∧ (∀ k, k ≠ 3 → C' 275 k = C 275 k) ∧ SPL bt L C' i a K := by
  intro m
  induction m with
  | zero => intro a u i C hm; omega
  | succ m ih =>
    intro a u i C hm ha hu hi hC h3
    rw [sX1_split_10, fX1_split_10b]
    by_cases d : a < L
    · rw [gi_neg (show ¬ (300 : Int32) ≤ nI u from fun z => by have := (leN (a := 300) (b := u) (by omega) (by omega)).mp z; omega), gi_neg (show ¬ nI L ≤ nI a from fun z => by have := (leN (a := L) (b := a) (by omega) (by omega)).mp z; omega), gdN (by omega) (by omega), clN (by omega), hC a d, lzE, lzE, show nI u + (1 : Int32) = nI (u + 1) from addN u 1, let6 (hb a), n01, dig6 (hb a), n01]
      -- a token put down, and on
      have tokd : ∀ k v e, a < e → e ≤ L → isSp (bt a) = false → k < 40 → ¬ k = 38 → v ≤ 10000 → TOKr bt L a k v e → ∃ C1, fX1_put (nI k) (nI v) (nI a) C = some C1 ∧ ∃ C' K, fX1_split_10 m (nI L) (nI e) (nI (u + 1)) C1 = some C' ∧ i ≤ K ∧ K ≤ L ∧ C' 275 3 = nI K ∧ (∀ j, j < i → C' 276 j = C 276 j ∧ C' 277 j = C 277 j ∧ C' 278 j = C 278 j) ∧ (∀ o, o ≠ 275 → o ≠ 276 → o ≠ 277 → o ≠ 278 → C' o = C o) ∧ (∀ k, k ≠ 3 → C' 275 k = C 275 k) ∧ SPL bt L C' i a K := by
        intro k v e h1 h2 hs hk h38 hv tok
        obtain ⟨C1, p1, p2, p3, p4, p5, p6, p7, p8⟩ := put6 h3 (by omega) (nI k) (nI v) (nI a)
        obtain ⟨C', K, r1, r2, r3, r4, r5, r6, r7, r8⟩ := ih e (u + 1) (i + 1) C1 (by omega) h2 (by omega) (by omega) (fun j hj => by rw [p7 _ (by omega) (by omega) (by omega) (by omega)]; exact hC j hj) p2
        refine ⟨C1, p1, C', K, r1, by omega, r3, r4, fun j hj => ?_, fun o o1 o2 o3 o4 => (r6 o o1 o2 o3 o4).trans (p7 o o1 o2 o3 o4), fun k hk => (r7 k hk).trans (p8 k hk), spl_tok d hs p3 p4 p5 hk h38 hv tok r5 r2 r8⟩
        obtain ⟨q1, q2, q3⟩ := r5 j (by omega)
        obtain ⟨s1, s2, s3⟩ := p6 j (by omega)
        exact ⟨q1.trans s1, q2.trans s2, q3.trans s3⟩
      by_cases hl : isLe (bt a) = true
      · have hl2 := isLe_t.mp hl
        rw [gi_neg (show ¬ isLe (bt a) = false by rw [hl]; decide)]
        have eb := endE_le (f := fun j => isLe (bt j)) (L := L) (c := a) ha
        have eg : a < endE (fun j => isLe (bt j)) L a := by
          rw [endE_go (f := fun j => isLe (bt j)) d hl]
          have := endE_le (f := fun j => isLe (bt j)) (L := L) (c := a + 1) (by omega)
          omega
        obtain ⟨k, k1, k2, k3, k4⟩ := ofW6 hL hC hb (p := a) (e := endE (fun j => isLe (bt j)) L a) eb.1 eb.2.1
        obtain ⟨C1, p1, C', K, r⟩ := tokd k 0 _ eg eb.2.1 (bo_f (fun z => by have := isSp_t.mp z; omega)) k2 k3 (by omega) (Or.inl ⟨hl, rfl, rfl, k4⟩)
        refine ⟨C', K, ?_, r.2⟩
        unfold fX1_splitWord
        rw [sw6 hL hb hC FU a (by show _ < 5000; omega) ha, bdE, k1, bdE, show fX1_put (nI k) 0 (nI a) C = some C1 from p1, bdE, bdE, prE]
        exact r.1
      · rw [gi_pos (bo_f hl)]
        by_cases hd : isDi (bt a) = true
        · have hd2 := isDi_t.mp hd
          rw [gi_neg (show ¬ isDi (bt a) = false by rw [hd]; decide)]
          have eb := endE_le (f := fun j => isDi (bt j)) (L := L) (c := a) ha
          have eg : a < endE (fun j => isDi (bt j)) L a := by
            rw [endE_go (f := fun j => isDi (bt j)) d hd]
            have := endE_le (f := fun j => isDi (bt j)) (L := L) (c := a + 1) (by omega)
            omega
          obtain ⟨C1, p1, C', K, r⟩ := tokd 24 (numV bt (L - a) a 0) _ eg eb.2.1 (bo_f (fun z => by have := isSp_t.mp z; omega)) (by omega) (by omega) (numV_le _ _ _ (by omega)) (Or.inr (Or.inl ⟨bo_f hl, hd, rfl, rfl, rfl⟩))
          refine ⟨C', K, ?_, r.2⟩
          unfold fX1_splitNumber
          rw [show fX1_splitNumber_6 FU (nI a) (nI L) 0 (nI a) C = _ from sn6 hL hb hC FU a 0 (by show _ < 5000; omega) ha (by omega), bdE, prE, show fX1_put 24 (nI (numV bt (L - a) a 0)) (nI a) C = some C1 from p1, bdE, bdE, prE]
          exact r.1
        · rw [gi_pos (bo_f hd), lzE, show nI a + (1 : Int32) = nI (a + 1) from addN a 1]
          by_cases hs : isSp (bt a) = true
          · have hs2 := isSp_t.mp hs
            obtain ⟨C', K, r1, r2, r3, r4, r5, r6, r7, r8⟩ := ih (a + 1) (u + 1) i C (by omega) (by omega) (by omega) (by omega) hC h3
            refine ⟨C', K, ?_, r2, r3, r4, r5, r6, r7, ?_⟩
            · by_cases c32 : bt a = 32
              · rw [gi_pos (show nI (bt a) = (32 : Int32) by rw [c32]; rfl), lzE]
                exact r1
              · rw [gi_neg (show ¬ nI (bt a) = (32 : Int32) from fun z => c32 ((nI_eq (by have := hb a; omega) (by omega)).mp (show nI (bt a) = nI 32 from z))), gi_pos (show nI (bt a) = (10 : Int32) by rw [show bt a = 10 by omega]; rfl), lzE]
                exact r1
            · obtain ⟨cu, c1, c2, c3, c4⟩ := r8
              have es : endE (fun j => isSp (bt j)) L a = endE (fun j => isSp (bt j)) L (a + 1) := endE_go (f := fun j => isSp (bt j)) d hs
              have key : ∀ j, endE (fun j => isSp (bt j)) L (if j = i then a else cu j) = endE (fun j => isSp (bt j)) L (cu j) := fun j => by
                by_cases z : j = i
                · rw [if_pos z, z, c1, es]
                · rw [if_neg z]
              refine ⟨fun j => if j = i then a else cu j, if_pos rfl, fun j h1 h2 => ?_, ?_, fun j h1 h2 => ?_⟩
              · obtain ⟨p, k, v, g1, g2, g3, g4, g5, g6, g7, g8, g9⟩ := c2 j h1 h2
                refine ⟨p, k, v, by rw [key]; exact g1, g2, g3, g4, g5, g6, g7, g8, ?_⟩
                dsimp only
                rw [if_neg (by omega)]; exact g9
              · show endE _ L (if K = i then a else cu K) = L
                rw [key]; exact c3
              · dsimp only
                by_cases z : j = i
                · rw [if_pos z]; exact ha
                · rw [if_neg z]; exact c4 j h1 h2
          · have hs2 : ¬ (bt a = 32 ∨ bt a = 10) := fun z => hs (isSp_t.mpr z)
            have hba := hb a
            rw [gi_neg (show ¬ nI (bt a) = (32 : Int32) from fun z => hs2 (Or.inl ((nI_eq (by omega) (by omega)).mp (show nI (bt a) = nI 32 from z)))), gi_neg (show ¬ nI (bt a) = (10 : Int32) from fun z => hs2 (Or.inr ((nI_eq (by omega) (by omega)).mp (show nI (bt a) = nI 10 from z)))), lzE]
            -- a sign
            have fin : ∀ q, q < 2 → ((q = 1 ∧ a + 1 < L ∧ bt (a + 1) = 61) ∨ (q = 0 ∧ ¬ (a + 1 < L ∧ bt (a + 1) = 61))) → ∃ C' K, lz (fX4_ofSign (nI (bt a)) (nI q)) (fun (u35 : Int32) => bd (fX1_put u35 (0 : Int32) (nI a) C) (fun (I37 : gI) => lz (fun (u40 : Int32) => lz ((nI a + u40)) (fun (u44 : Int32) => fX1_split_10 m (nI L) u44 (nI (u + 1)) I37)) (fun j41 => lz (j41 (2 : Int32)) (fun j46 => gi (u35 = 25) (j46) (gi (u35 = 26) (j46) (j41 (1 : Int32))))))) = some C' ∧ i ≤ K ∧ K ≤ L ∧ C' 275 3 = nI K ∧ (∀ j, j < i → C' 276 j = C 276 j ∧ C' 277 j = C 277 j ∧ C' 278 j = C 278 j) ∧ (∀ o, o ≠ 275 → o ≠ 276 → o ≠ 277 → o ≠ 278 → C' o = C o) ∧ (∀ k, k ≠ 3 → C' 275 k = C 275 k) ∧ SPL bt L C' i a K := by
              intro q hq hqq
              have kb : sgk (bt a) q < 40 ∧ ¬ sgk (bt a) q = 38 := by
                rcases sgn_ok hba hq with ⟨z1, z2, _⟩ | ⟨z, _⟩ <;> omega
              have k25 := sgk_25 hba hq
              have ele : a + (if sgk (bt a) q = 25 ∨ sgk (bt a) q = 26 then 2 else 1) ≤ L := by
                by_cases z : sgk (bt a) q = 25 ∨ sgk (bt a) q = 26
                · rw [if_pos z]
                  have := k25.mp z
                  omega
                · rw [if_neg z]; omega
              have egt : a < a + (if sgk (bt a) q = 25 ∨ sgk (bt a) q = 26 then 2 else 1) := by
                by_cases z : sgk (bt a) q = 25 ∨ sgk (bt a) q = 26
                · rw [if_pos z]; omega
                · rw [if_neg z]; omega
              obtain ⟨C1, p1, C', K, r⟩ := tokd (sgk (bt a) q) 0 _ egt ele (bo_f hs) kb.1 kb.2 (by omega) (Or.inr (Or.inr ⟨bo_f hl, bo_f hd, rfl, q, hqq, rfl, rfl⟩))
              refine ⟨C', K, ?_, r.2⟩
              rw [sign6 hba hq, lzE, show fX1_put (nI (sgk (bt a) q)) 0 (nI a) C = some C1 from p1, bdE, lzE, lzE]
              have r1 := r.1
              by_cases z25 : sgk (bt a) q = 25
              · rw [gi_pos (show nI (sgk (bt a) q) = (25 : Int32) by rw [z25]; rfl)]
                dsimp only
                rw [lzE, show nI a + (2 : Int32) = nI (a + 2) from addN a 2]
                rw [if_pos (Or.inl z25)] at r1
                exact r1
              · rw [gi_neg (show ¬ nI (sgk (bt a) q) = (25 : Int32) from fun z => z25 ((nI_eq (by omega) (by omega)).mp (show nI (sgk (bt a) q) = nI 25 from z)))]
                by_cases z26 : sgk (bt a) q = 26
                · rw [gi_pos (show nI (sgk (bt a) q) = (26 : Int32) by rw [z26]; rfl)]
                  dsimp only
                  rw [lzE, show nI a + (2 : Int32) = nI (a + 2) from addN a 2]
                  rw [if_pos (Or.inr z26)] at r1
                  exact r1
                · rw [gi_neg (show ¬ nI (sgk (bt a) q) = (26 : Int32) from fun z => z26 ((nI_eq (by omega) (by omega)).mp (show nI (sgk (bt a) q) = nI 26 from z)))]
                  dsimp only
                  rw [lzE, show nI a + (1 : Int32) = nI (a + 1) from addN a 1]
                  rw [if_neg (by omega)] at r1
                  exact r1
            rw [lzE]
            by_cases c1 : a + 1 < L
            · rw [gi_neg (show ¬ nI L ≤ nI (a + 1) from fun z => by have := (leN (a := L) (b := a + 1) (by omega) (by omega)).mp z; omega), gdN (by omega) (by omega), clN (by omega), hC _ c1]
              by_cases c61 : bt (a + 1) = 61
              · rw [gi_pos (show nI (bt (a + 1)) = (61 : Int32) by rw [c61]; rfl)]
                exact fin 1 (by omega) (Or.inl ⟨rfl, c1, c61⟩)
              · rw [gi_neg (show ¬ nI (bt (a + 1)) = (61 : Int32) from fun z => c61 ((nI_eq (by have := hb (a + 1); omega) (by omega)).mp (show nI (bt (a + 1)) = nI 61 from z)))]
                exact fin 0 (by omega) (Or.inr ⟨rfl, fun z => c61 z.2⟩)
            · rw [gi_pos ((leN (a := L) (b := a + 1) (by omega) (by omega)).mpr (by omega))]
              exact fin 0 (by omega) (Or.inr ⟨rfl, fun z => c1 z.1⟩)
    · have haL : a = L := by omega
      refine ⟨C, i, ?_, Nat.le_refl _, by omega, h3, fun _ _ => ⟨rfl, rfl, rfl⟩, fun _ _ _ _ _ => rfl, fun _ _ => rfl, fun _ => a, rfl, fun j h1 h2 => by omega, (endE_ge (show L ≤ a by omega)).trans haL, fun j _ _ => ha⟩
      by_cases z : (300 : Int32) ≤ nI u
      · rw [gi_pos z]
      · rw [gi_neg z, gi_pos ((leN (a := L) (b := a) (by omega) (by omega)).mpr (by omega))]
/-- the whole tape -/
theorem split6 (hL : L ≤ 300) (hb : ∀ j, bt j < 256) {C : gI} (hC : BYc bt L C) : ∃ C' K, fX1_split (nI L) C = some C' ∧ K ≤ L ∧ (∀ o, o ≠ 275 → o ≠ 276 → o ≠ 277 → o ≠ 278 → C' o = C o) ∧ (∀ k, k ≠ 3 → C' 275 k = C 275 k) ∧ SPL bt L C' 0 0 K ∧ C' 276 K = nI 40 ∧ C' 277 K = nI 0 ∧ C' 278 K = nI L := by
  obtain ⟨C1, K, r1, r2, r3, r4, r5, r6, r7, r8⟩ := spl6 hL hb FU 0 0 0 (wI C 275 3 (nI 0)) (by show _ < 5000; omega) (by omega) (by omega) (by omega) (fun j hj => by rw [wI_o (by omega)]; exact hC j hj) wI_eq
  obtain ⟨C2, p1, p2, p3, p4, p5, p6, p7, p8⟩ := put6 r4 (by omega) (nI 40) (nI 0) (nI L)
  refine ⟨C2, K, ?_, r3, fun o o1 o2 o3 o4 => ?_, fun k hk => ?_, ?_, p3, p4, p5⟩
  · unfold fX1_split
    rw [lzE, show fX1_split_10 FU (nI L) 0 0 (wI C 275 3 0) = some C1 from r1, bdE, show fX1_put 40 0 (nI L) C1 = some C2 from p1, bdE]
  · rw [p7 o o1 o2 o3 o4, r6 o o1 o2 o3 o4, wI_o o1]
  · rw [p8 k hk, r7 k hk, wI_ne (by omega)]
  · obtain ⟨cu, c1, c2, c3, c4⟩ := r8
    refine ⟨cu, c1, fun j h1 h2 => ?_, c3, c4⟩
    obtain ⟨p, k, v, g1, g2, g3, g4, g5, g6⟩ := c2 j h1 h2
    obtain ⟨q1, q2, q3⟩ := p6 j (by omega)
    exact ⟨p, k, v, g1, g2, q1.trans g3, q2.trans g4, q3.trans g5, g6⟩
end SP
