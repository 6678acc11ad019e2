/-! what SORTS leaves of one EXPR on both sides, for BUILD: r is its SORT, A d a: declaration d is visible and is the reference's place a -/
def RFA (D : Nat) (A : Nat → Nat → Prop) (S T : zS) (d j k r z a : Nat) : Prop := d < D ∧ k ≤ 4 ∧ r ≤ 1 ∧ z ≤ 64 ∧ a < 12000 ∧ A d a ∧ S.1 11 d = nI k ∧ S.1 12 d = nI r ∧ S.1 13 d = nI z ∧ (¬ (k = 2 ∨ k = 4) → S.1 14 d = nI a) ∧ T.1 102 j = nI (k + 1) ∧ T.1 103 j = nI a ∧ T.1 104 j = nI z ∧ T.1 105 j = nI r
def aNum (w : Nat) (S T : zS) (r i i' j j' : Nat) : Prop := ∃ v : Nat, v < 2 ^ 32 ∧ r = 0 ∧ i' = i + 1 ∧ j' = j + 2 ∧ S.1 4 i = 22 ∧ S.1 5 i = nI v ∧ T.1 78 j = 1 ∧ T.1 78 (j + 1) = 2 ∧ T.2 82 (j + 1) = lN (v % 2 ^ w)
def aTru (S T : zS) (r i i' j j' : Nat) : Prop := r = 1 ∧ i' = i + 1 ∧ j' = j + 2 ∧ S.1 4 i = 23 ∧ T.1 78 j = 1 ∧ ((S.1 5 i = -1 ∧ T.1 78 (j + 1) = 3) ∨ (S.1 5 i = -2 ∧ T.1 78 (j + 1) = 4))
def aNam (D : Nat) (A : Nat → Nat → Prop) (S T : zS) (r i i' j j' : Nat) : Prop := ∃ d k a, RFA D A S T d (j + 1) k r 0 a ∧ ¬ k = 4 ∧ i' = i + 1 ∧ j' = j + 2 ∧ S.1 4 i = 24 ∧ S.1 5 i = nI d ∧ T.1 78 j = 1 ∧ T.1 78 (j + 1) = 5
/-- every FACTOR from j to j' is PUBLIC by itself -/
def PB (T : zS) (j j' : Nat) : Prop := ∀ x, j ≤ x → x < j' → ¬ T.1 78 x = 7 ∧ ¬ T.1 78 x = 9 ∧ (T.1 78 x = 5 → T.1 102 x = 3)
def aElt (D : Nat) (A : Nat → Nat → Prop) (S T : zS) (G : Nat → Nat → Nat → Nat → Nat → Prop) (r i i' j j' : Nat) : Prop := ∃ d k z a pb q i1 j1, RFA D A S T d j1 k r z a ∧ 0 < z ∧ pb ≤ 1 ∧ G 0 (i + 1) i1 (j + 2) j1 ∧ i' = i1 + 2 ∧ j' = j1 + 1 ∧ S.1 4 i = 25 ∧ S.1 5 i = nI d ∧ S.1 7 i = nI (2 * pb) ∧ S.1 4 i1 = 26 ∧ S.1 5 i1 = nI i ∧ S.1 6 i1 = nI q ∧ S.1 4 (i1 + 1) = 27 ∧ S.1 5 (i1 + 1) = nI i ∧ T.1 78 j = 1 ∧ T.1 78 (j + 1) = 6 ∧ T.1 78 j1 = 7 ∧ T.1 106 j1 = nI q ∧ T.1 107 j1 = nI pb ∧ (pb = 1 → PB T (j + 2) j1)
def aA (S T : zS) (G : Nat → Nat → Nat → Nat → Nat → Prop) (d : Nat) : Nat → Nat → Nat → Nat → Nat → Prop
  | 0, i, i', j, j' => i' = i ∧ j' = j
  | m + 1, i, i', j, j' => ∃ i1 j1 r i2 j2, aA S T G d m i i1 j j1 ∧ r ≤ 1 ∧ G r i1 i2 j1 j2 ∧ i' = i2 + 1 ∧ j' = j2 + 1 ∧ S.1 12 (d + 1 + m) = nI r ∧ S.1 4 i2 = 29 ∧ T.1 78 j2 = 16
def aCal (D : Nat) (A : Nat → Nat → Prop) (S T : zS) (G : Nat → Nat → Nat → Nat → Nat → Prop) (r i i' j j' : Nat) : Prop := ∃ d z a m i1 j1, RFA D A S T d j1 4 r z a ∧ aA S T G d m (i + 1) i1 (j + 2) j1 ∧ d + m < D ∧ S.1 15 d = nI m ∧ i' = i1 + 1 ∧ j' = j1 + 1 ∧ S.1 4 i = 28 ∧ S.1 5 i = nI d ∧ S.1 4 i1 = 30 ∧ S.1 5 i1 = nI i ∧ T.1 78 j = 1 ∧ T.1 78 (j + 1) = 8 ∧ T.1 78 j1 = 9 ∧ S.1 7 i = nI m
def aInt (S T : zS) (G : Nat → Nat → Nat → Nat → Nat → Prop) (r i i' j j' : Nat) : Prop := ∃ i1 j1, G 1 (i + 1) i1 (j + 1) j1 ∧ r = 0 ∧ i' = i1 + 1 ∧ j' = j1 + 1 ∧ S.1 4 i = 21 ∧ S.1 4 i1 = 31 ∧ T.1 78 j = 1 ∧ T.1 78 j1 = 10
def aBit (S T : zS) (G : Nat → Nat → Nat → Nat → Nat → Prop) (r i i' j j' : Nat) : Prop := ∃ q i1 j1 i2 j2, G 0 (i + 1) i1 (j + 1) j1 ∧ G 0 (i1 + 1) i2 (j1 + 1) j2 ∧ r = 1 ∧ i' = i2 + 1 ∧ j' = j2 + 1 ∧ S.1 4 i = 21 ∧ S.1 4 i1 = 32 ∧ S.1 4 i2 = 33 ∧ S.1 6 i2 = nI q ∧ T.1 78 j = 1 ∧ T.1 78 j1 = 16 ∧ T.1 78 j2 = 11 ∧ T.1 106 j2 = nI q ∧ PB T (j1 + 1) j2
def aUna (S T : zS) (G : Nat → Nat → Nat → Nat → Nat → Prop) (r i i' j j' : Nat) : Prop := ∃ i1 j1, G r i i1 j j1 ∧ i' = i1 + 1 ∧ j' = j1 + 1 ∧ T.1 78 j1 = 12 ∧ ((S.1 4 i1 = 34 ∧ T.1 79 j1 = 45 ∧ r = 0) ∨ (S.1 4 i1 = 35 ∧ T.1 79 j1 = 126 ∧ r = 0) ∨ (S.1 4 i1 = 36 ∧ T.1 79 j1 = 33 ∧ r = 1))
def aBin (S T : zS) (G : Nat → Nat → Nat → Nat → Nat → Prop) (r i i' j j' : Nat) : Prop := ∃ q i1 j1 i2 j2 o r1, G r1 i i1 j j1 ∧ G r1 i1 i2 j1 j2 ∧ 1 ≤ o ∧ o ≤ 18 ∧ r1 ≤ 1 ∧ (o ≤ 2 → r1 = 1) ∧ (8 ≤ o → r1 = 0) ∧ (r = if 6 ≤ o ∧ o ≤ 11 then 1 else r1) ∧ i' = i2 + 1 ∧ j' = j2 + 1 ∧ S.1 4 i2 = nI (37 + o) ∧ S.1 5 i2 = nI r1 ∧ S.1 7 i2 = nI q ∧ T.1 78 j2 = 13 ∧ T.1 79 j2 = nI o ∧ T.1 80 j2 = nI r1 ∧ (o = 12 ∨ o = 13 → T.1 106 j2 = nI q ∧ PB T j1 j2)
def aSel (S T : zS) (G : Nat → Nat → Nat → Nat → Nat → Prop) (r i i' j j' : Nat) : Prop := ∃ i1 j1 i2 j2 i3 j3, G 1 i i1 j j1 ∧ G r i1 i2 j1 j2 ∧ G r i2 i3 j2 j3 ∧ i' = i3 + 1 ∧ j' = j3 + 1 ∧ S.1 4 i3 = 37 ∧ S.1 5 i3 = nI r ∧ T.1 78 j3 = 14 ∧ T.1 80 j3 = nI r
def aBra (S T : zS) (G : Nat → Nat → Nat → Nat → Nat → Prop) (r i i' j j' : Nat) : Prop := ∃ j1, G r (i + 1) i' (j + 1) j1 ∧ j' = j1 + 1 ∧ S.1 4 i = 21 ∧ T.1 78 j = 1 ∧ T.1 78 j1 = 15
def aE (w D : Nat) (A : Nat → Nat → Prop) (S T : zS) : Nat → Nat → Nat → Nat → Nat → Nat → Prop
  | 0, _, _, _, _, _ => False
  | n + 1, r, i, i', j, j' => aNum w S T r i i' j j' ∨ aTru S T r i i' j j' ∨ aNam D A S T r i i' j j' ∨ aElt D A S T (aE w D A S T n) r i i' j j' ∨ aCal D A S T (aE w D A S T n) r i i' j j' ∨ aInt S T (aE w D A S T n) r i i' j j' ∨ aBit S T (aE w D A S T n) r i i' j j' ∨ aUna S T (aE w D A S T n) r i i' j j' ∨ aBin S T (aE w D A S T n) r i i' j j' ∨ aSel S T (aE w D A S T n) r i i' j j' ∨ aBra S T (aE w D A S T n) r i i' j j'
def aX (w D : Nat) (A : Nat → Nat → Prop) (r : Nat) (S T : zS) (i i' j j' : Nat) : Prop := ∃ n, aE w D A S T n r i i' j j'
def anS (S S' : zS) (i i' : Nat) : Prop := ∀ c k, ((4 ≤ c ∧ c ≤ 7) ∧ i ≤ k ∧ k < i') ∨ (11 ≤ c ∧ c ≤ 15) → S'.1 c k = S.1 c k
def anT (T T' : zS) (j j' : Nat) : Prop := (∀ c k, ((78 ≤ c ∧ c ≤ 80) ∨ (102 ≤ c ∧ c ≤ 107)) ∧ j ≤ k ∧ k < j' → T'.1 c k = T.1 c k) ∧ ∀ k, T'.2 82 k = T.2 82 k
section AN
variable {w D D' : Nat} {A A' : Nat → Nat → Prop} {S T S' T' : zS}
theorem anS_sub {i i' i1 i2 : Nat} (h : anS S S' i i') (a1 : i ≤ i1) (a2 : i2 ≤ i') : anS S S' i1 i2 := fun c k q => h c k (by omega)
theorem anT_sub {j j' j1 j2 : Nat} (h : anT T T' j j') (a1 : j ≤ j1) (a2 : j2 ≤ j') : anT T T' j1 j2 := ⟨fun c k q => h.1 c k (by omega), h.2⟩
theorem PB_k {j j' j1 j2 : Nat} (h : PB T j1 j2) (ht : anT T T' j j') (a1 : j ≤ j1) (a2 : j2 ≤ j') : PB T' j1 j2 := fun x q1 q2 => by
  rw [ht.1 78 x (by omega), ht.1 102 x (by omega)]
  exact h x q1 q2
theorem PB_cat {j j1 j2 : Nat} (h1 : PB T j j1) (h2 : PB T j1 j2) : PB T j j2 := fun x q1 q2 => by
  by_cases z : x < j1
  · exact h1 x q1 z
  · exact h2 x (by omega) q2
theorem PB_1 {j k : Nat} (h : T.1 78 j = nI k) (hk : k < 100) (h5 : ¬ k = 5 ∧ ¬ k = 7 ∧ ¬ k = 9) : PB T j (j + 1) := fun x q1 q2 => by
  have e : x = j := by omega
  rw [e, h]
  exact ⟨fun q => h5.2.1 ((nI_eq (b := 7) (by omega) (by omega)).mp q), fun q => h5.2.2 ((nI_eq (b := 9) (by omega) (by omega)).mp q), fun q => absurd ((nI_eq (b := 5) (by omega) (by omega)).mp q) h5.1⟩
theorem RFA_k {d i i' j j' jj k r z a : Nat} (hD : D ≤ D') (hA : ∀ d a, A d a → A' d a) (h : RFA D A S T d jj k r z a) (hs : anS S S' i i') (ht : anT T T' j j') (a1 : j ≤ jj) (a2 : jj < j') : RFA D' A' S' T' d jj k r z a := by
  obtain ⟨h1, h2, h3, h4, h5, h6, h7, h8, h9, h10, h11, h12, h13, h14⟩ := h
  exact ⟨by omega, h2, h3, h4, h5, hA _ _ h6, (hs 11 d (by omega)).trans h7, (hs 12 d (by omega)).trans h8, (hs 13 d (by omega)).trans h9, fun q => (hs 14 d (by omega)).trans (h10 q), (ht.1 102 jj (by omega)).trans h11, (ht.1 103 jj (by omega)).trans h12, (ht.1 104 jj (by omega)).trans h13, (ht.1 105 jj (by omega)).trans h14⟩
theorem aA_bnd {G : Nat → Nat → Nat → Nat → Nat → Prop} (hG : ∀ p i i' j j', G p i i' j j' → i < i' ∧ j < j') {d : Nat} : ∀ m i i' j j', aA S T G d m i i' j j' → i ≤ i' ∧ j ≤ j'
  | 0, i, i', j, j', h => ⟨Nat.le_of_eq h.1.symm, Nat.le_of_eq h.2.symm⟩
  | m + 1, i, i', j, j', h => by
    obtain ⟨i1, j1, r, i2, j2, h1, -, h2, e1, e2, -⟩ := h
    have a1 := aA_bnd hG m _ _ _ _ h1
    have a2 := hG _ _ _ _ _ h2
    omega
theorem aE_bnd : ∀ n r i i' j j', aE w D A S T n r i i' j j' → i < i' ∧ j < j'
  | 0, _, _, _, _, _, h => h.elim
  | n + 1, p, i, i', j, j', h => by
    have ih := aE_bnd n
    rcases h with h | h | h | h | h | h | h | h | h | h | h
    · obtain ⟨v, -, -, e1, e2, -⟩ := h; omega
    · obtain ⟨-, e1, e2, -⟩ := h; omega
    · obtain ⟨d, k, a, -, -, e1, e2, -⟩ := h; omega
    · obtain ⟨d, k, z, a, pb, q, i1, j1, -, -, -, h1, e1, e2, -⟩ := h
      have := ih _ _ _ _ _ h1
      omega
    · obtain ⟨d, z, a, m, i1, j1, -, h1, -, -, e1, e2, -⟩ := h
      have := aA_bnd ih _ _ _ _ _ h1
      omega
    · obtain ⟨i1, j1, h1, -, e1, e2, -⟩ := h
      have := ih _ _ _ _ _ h1
      omega
    · obtain ⟨q, i1, j1, i2, j2, h1, h2, -, e1, e2, -⟩ := h
      have := ih _ _ _ _ _ h1
      have := ih _ _ _ _ _ h2
      omega
    · obtain ⟨i1, j1, h1, e1, e2, -⟩ := h
      have := ih _ _ _ _ _ h1
      omega
    · obtain ⟨q, i1, j1, i2, j2, o, r1, h1, h2, -, -, -, -, -, -, e1, e2, -⟩ := h
      have := ih _ _ _ _ _ h1
      have := ih _ _ _ _ _ h2
      omega
    · obtain ⟨i1, j1, i2, j2, i3, j3, h1, h2, h3, e1, e2, -⟩ := h
      have := ih _ _ _ _ _ h1
      have := ih _ _ _ _ _ h2
      have := ih _ _ _ _ _ h3
      omega
    · obtain ⟨j1, h1, e1, -⟩ := h
      have := ih _ _ _ _ _ h1
      omega
theorem aA_cong {G G' : Nat → Nat → Nat → Nat → Nat → Prop} (hB : ∀ p i i' j j', G p i i' j j' → i < i' ∧ j < j') (hG : ∀ p i i' j j', G p i i' j j' → anS S S' i i' → anT T T' j j' → G' p i i' j j') {d : Nat} : ∀ m i i' j j', aA S T G d m i i' j j' → anS S S' i i' → anT T T' j j' → aA S' T' G' d m i i' j j'
  | 0, i, i', j, j', h, _, _ => h
  | m + 1, i, i', j, j', h, cs, ct => by
    obtain ⟨i1, j1, r, i2, j2, h1, hr, h2, e1, e2, f1, f2, f3⟩ := h
    have a1 := aA_bnd hB _ _ _ _ _ h1
    have a2 := hB _ _ _ _ _ h2
    exact ⟨i1, j1, r, i2, j2, aA_cong hB hG m _ _ _ _ h1 (anS_sub cs (by omega) (by omega)) (anT_sub ct (by omega) (by omega)), hr, hG _ _ _ _ _ h2 (anS_sub cs (by omega) (by omega)) (anT_sub ct (by omega) (by omega)), e1, e2, (cs 12 _ (by omega)).trans f1, (cs 4 i2 (by omega)).trans f2, (ct.1 78 j2 (by omega)).trans f3⟩
theorem aE_cong (hD : D ≤ D') (hA : ∀ d a, A d a → A' d a) : ∀ n n' r i i' j j', n ≤ n' → aE w D A S T n r i i' j j' → anS S S' i i' → anT T T' j j' → aE w D' A' S' T' n' r i i' j j'
  | 0, _, _, _, _, _, _, _, h, _, _ => h.elim
  | n + 1, 0, _, _, _, _, _, hn, _, _, _ => absurd hn (by omega)
  | n + 1, n' + 1, r, i, i', j, j', hn, h, cs, ct => by
    have ih := fun p i i' j j' => aE_cong hD hA n n' p i i' j j' (by omega)
    have bd := aE_bnd (w := w) (D := D) (A := A) (S := S) (T := T) n
    rcases h with h | h | h | h | h | h | h | h | h | h | h
    · obtain ⟨v, hv, e0, e1, e2, f1, f2, f3, f4, f5⟩ := h
      exact Or.inl ⟨v, hv, e0, e1, e2, (cs 4 i (by omega)).trans f1, (cs 5 i (by omega)).trans f2, (ct.1 78 j (by omega)).trans f3, (ct.1 78 (j + 1) (by omega)).trans f4, (ct.2 _).trans f5⟩
    · obtain ⟨e0, e1, e2, f1, f2, f3⟩ := h
      refine Or.inr (Or.inl ⟨e0, e1, e2, (cs 4 i (by omega)).trans f1, (ct.1 78 j (by omega)).trans f2, ?_⟩)
      rw [cs 5 i (by omega), ct.1 78 (j + 1) (by omega)]
      exact f3
    · obtain ⟨d, k, a, h1, h2, e1, e2, f1, f2, f3, f4⟩ := h
      exact Or.inr (Or.inr (Or.inl ⟨d, k, a, RFA_k hD hA h1 cs ct (by omega) (by omega), h2, e1, e2, (cs 4 i (by omega)).trans f1, (cs 5 i (by omega)).trans f2, (ct.1 78 j (by omega)).trans f3, (ct.1 78 (j + 1) (by omega)).trans f4⟩))
    · obtain ⟨d, k, z, a, pb, q, i1, j1, h1, hz, hp, g, e1, e2, f1, f2, f3, f4, f5, f6, f7, f8, f9, f10, f11, f12, f13⟩ := h
      have a1 := bd _ _ _ _ _ g
      exact Or.inr (Or.inr (Or.inr (Or.inl ⟨d, k, z, a, pb, q, i1, j1, RFA_k hD hA h1 cs ct (by omega) (by omega), hz, hp, ih _ _ _ _ _ g (anS_sub cs (by omega) (by omega)) (anT_sub ct (by omega) (by omega)), e1, e2, (cs 4 i (by omega)).trans f1, (cs 5 i (by omega)).trans f2, (cs 7 i (by omega)).trans f3, (cs 4 i1 (by omega)).trans f4, (cs 5 i1 (by omega)).trans f5, (cs 6 i1 (by omega)).trans f6, (cs 4 (i1 + 1) (by omega)).trans f7, (cs 5 (i1 + 1) (by omega)).trans f8, (ct.1 78 j (by omega)).trans f9, (ct.1 78 (j + 1) (by omega)).trans f10, (ct.1 78 j1 (by omega)).trans f11, (ct.1 106 j1 (by omega)).trans f12, (ct.1 107 j1 (by omega)).trans f13.1, fun y => PB_k (f13.2 y) ct (by omega) (by omega)⟩)))
    · obtain ⟨d, z, a, m, i1, j1, h1, g, hd, h15, e1, e2, f1, f2, f3, f4, f5, f6, f7, f8⟩ := h
      have a1 := aA_bnd bd _ _ _ _ _ g
      exact Or.inr (Or.inr (Or.inr (Or.inr (Or.inl ⟨d, z, a, m, i1, j1, RFA_k hD hA h1 cs ct (by omega) (by omega), aA_cong bd ih _ _ _ _ _ g (anS_sub cs (by omega) (by omega)) (anT_sub ct (by omega) (by omega)), by omega, (cs 15 d (by omega)).trans h15, e1, e2, (cs 4 i (by omega)).trans f1, (cs 5 i (by omega)).trans f2, (cs 4 i1 (by omega)).trans f3, (cs 5 i1 (by omega)).trans f4, (ct.1 78 j (by omega)).trans f5, (ct.1 78 (j + 1) (by omega)).trans f6, (ct.1 78 j1 (by omega)).trans f7, (cs 7 i (by omega)).trans f8⟩))))
    · obtain ⟨i1, j1, g, e0, e1, e2, f1, f2, f3, f4⟩ := h
      have a1 := bd _ _ _ _ _ g
      exact Or.inr (Or.inr (Or.inr (Or.inr (Or.inr (Or.inl ⟨i1, j1, ih _ _ _ _ _ g (anS_sub cs (by omega) (by omega)) (anT_sub ct (by omega) (by omega)), e0, e1, e2, (cs 4 i (by omega)).trans f1, (cs 4 i1 (by omega)).trans f2, (ct.1 78 j (by omega)).trans f3, (ct.1 78 j1 (by omega)).trans f4⟩)))))
    · obtain ⟨q, i1, j1, i2, j2, g, g2, e0, e1, e2, f1, f2, f3, f4, f5, f6, f7, f8⟩ := h
      have a1 := bd _ _ _ _ _ g
      have a2 := bd _ _ _ _ _ g2
      exact Or.inr (Or.inr (Or.inr (Or.inr (Or.inr (Or.inr (Or.inl ⟨q, i1, j1, i2, j2, ih _ _ _ _ _ g (anS_sub cs (by omega) (by omega)) (anT_sub ct (by omega) (by omega)), ih _ _ _ _ _ g2 (anS_sub cs (by omega) (by omega)) (anT_sub ct (by omega) (by omega)), e0, e1, e2, (cs 4 i (by omega)).trans f1, (cs 4 i1 (by omega)).trans f2, (cs 4 i2 (by omega)).trans f3, (cs 6 i2 (by omega)).trans f4, (ct.1 78 j (by omega)).trans f5, (ct.1 78 j1 (by omega)).trans f6, (ct.1 78 j2 (by omega)).trans f7, (ct.1 106 j2 (by omega)).trans f8.1, PB_k f8.2 ct (by omega) (by omega)⟩))))))
    · obtain ⟨i1, j1, g, e1, e2, f1, f2⟩ := h
      have a1 := bd _ _ _ _ _ g
      refine Or.inr (Or.inr (Or.inr (Or.inr (Or.inr (Or.inr (Or.inr (Or.inl ⟨i1, j1, ih _ _ _ _ _ g (anS_sub cs (by omega) (by omega)) (anT_sub ct (by omega) (by omega)), e1, e2, (ct.1 78 j1 (by omega)).trans f1, ?_⟩)))))))
      rw [cs 4 i1 (by omega), ct.1 79 j1 (by omega)]
      exact f2
    · obtain ⟨q, i1, j1, i2, j2, o, r1, g, g2, o1, o2, h1, h2, h3, h4, e1, e2, f1, f2, f3, f4, f5, f6, f7⟩ := h
      have a1 := bd _ _ _ _ _ g
      have a2 := bd _ _ _ _ _ g2
      exact Or.inr (Or.inr (Or.inr (Or.inr (Or.inr (Or.inr (Or.inr (Or.inr (Or.inl ⟨q, i1, j1, i2, j2, o, r1, ih _ _ _ _ _ g (anS_sub cs (by omega) (by omega)) (anT_sub ct (by omega) (by omega)), ih _ _ _ _ _ g2 (anS_sub cs (by omega) (by omega)) (anT_sub ct (by omega) (by omega)), o1, o2, h1, h2, h3, h4, e1, e2, (cs 4 i2 (by omega)).trans f1, (cs 5 i2 (by omega)).trans f2, (cs 7 i2 (by omega)).trans f3, (ct.1 78 j2 (by omega)).trans f4, (ct.1 79 j2 (by omega)).trans f5, (ct.1 80 j2 (by omega)).trans f6, fun y => ⟨(ct.1 106 j2 (by omega)).trans (f7 y).1, PB_k (f7 y).2 ct (by omega) (by omega)⟩⟩))))))))
    · obtain ⟨i1, j1, i2, j2, i3, j3, g, g2, g3, e1, e2, f1, f2, f3, f4⟩ := h
      have a1 := bd _ _ _ _ _ g
      have a2 := bd _ _ _ _ _ g2
      have a3 := bd _ _ _ _ _ g3
      exact Or.inr (Or.inr (Or.inr (Or.inr (Or.inr (Or.inr (Or.inr (Or.inr (Or.inr (Or.inl ⟨i1, j1, i2, j2, i3, j3, ih _ _ _ _ _ g (anS_sub cs (by omega) (by omega)) (anT_sub ct (by omega) (by omega)), ih _ _ _ _ _ g2 (anS_sub cs (by omega) (by omega)) (anT_sub ct (by omega) (by omega)), ih _ _ _ _ _ g3 (anS_sub cs (by omega) (by omega)) (anT_sub ct (by omega) (by omega)), e1, e2, (cs 4 i3 (by omega)).trans f1, (cs 5 i3 (by omega)).trans f2, (ct.1 78 j3 (by omega)).trans f3, (ct.1 80 j3 (by omega)).trans f4⟩)))))))))
    · obtain ⟨j1, g, e1, f1, f2, f3⟩ := h
      have a1 := bd _ _ _ _ _ g
      exact Or.inr (Or.inr (Or.inr (Or.inr (Or.inr (Or.inr (Or.inr (Or.inr (Or.inr (Or.inr ⟨j1, ih _ _ _ _ _ g (anS_sub cs (by omega) (by omega)) (anT_sub ct (by omega) (by omega)), e1, (cs 4 i (by omega)).trans f1, (ct.1 78 j (by omega)).trans f2, (ct.1 78 j1 (by omega)).trans f3⟩)))))))))
theorem aX_cong {r i i' j j' : Nat} (hD : D ≤ D') (hA : ∀ d a, A d a → A' d a) (h : aX w D A r S T i i' j j') (hs : anS S S' i i') (ht : anT T T' j j') : aX w D' A' r S' T' i i' j j' := by
  obtain ⟨n, h⟩ := h
  exact ⟨n, aE_cong hD hA n n _ _ _ _ _ (Nat.le_refl _) h hs ht⟩
theorem aX_k {r i i' j j' : Nat} (h : aX w D A r S T i i' j j') (hs : anS S S' i i') (ht : anT T T' j j') : aX w D A r S' T' i i' j j' := aX_cong (Nat.le_refl _) (fun _ _ y => y) h hs ht
theorem aX_bnd {r i i' j j' : Nat} (h : aX w D A r S T i i' j j') : i < i' ∧ j < j' := by
  obtain ⟨n, h⟩ := h
  exact aE_bnd n _ _ _ _ _ h
theorem anS_rfl {i i' : Nat} : anS S S i i' := fun _ _ _ => rfl
theorem anT_rfl {j j' : Nat} : anT T T j j' := ⟨fun _ _ _ => rfl, fun _ => rfl⟩
theorem aE_up {n n' r i i' j j' : Nat} (h : aE w D A S T n r i i' j j') (hn : n ≤ n') : aE w D A S T n' r i i' j j' := aE_cong (Nat.le_refl _) (fun _ _ y => y) _ _ _ _ _ _ _ hn h anS_rfl anT_rfl
/-! each kind, of its EXPRs -/
theorem aX_num {r i i' j j' : Nat} (h : aNum w S T r i i' j j') : aX w D A r S T i i' j j' := ⟨1, Or.inl h⟩
theorem aX_tru {r i i' j j' : Nat} (h : aTru S T r i i' j j') : aX w D A r S T i i' j j' := ⟨1, Or.inr (Or.inl h)⟩
theorem aX_nam {r i i' j j' : Nat} (h : aNam D A S T r i i' j j') : aX w D A r S T i i' j j' := ⟨1, Or.inr (Or.inr (Or.inl h))⟩
theorem aX_elt {r i i' j j' : Nat} (h : aElt D A S T (fun r i i' j j' => aX w D A r S T i i' j j') r i i' j j') : aX w D A r S T i i' j j' := by
  obtain ⟨d, k, z, a, pb, q, i1, j1, h1, hz, hp, ⟨n, g⟩, h2⟩ := h
  exact ⟨n + 1, Or.inr (Or.inr (Or.inr (Or.inl ⟨d, k, z, a, pb, q, i1, j1, h1, hz, hp, g, h2⟩)))⟩
theorem aA_up {d : Nat} : ∀ m i i' j j', aA S T (fun r i i' j j' => aX w D A r S T i i' j j') d m i i' j j' → ∃ n, aA S T (aE w D A S T n) d m i i' j j'
  | 0, i, i', j, j', h => ⟨0, h⟩
  | m + 1, i, i', j, j', h => by
    obtain ⟨i1, j1, r, i2, j2, h1, hr, ⟨n2, h2⟩, h3⟩ := h
    obtain ⟨n1, h1⟩ := aA_up m _ _ _ _ h1
    exact ⟨n1 + n2, i1, j1, r, i2, j2, aA_cong (aE_bnd n1) (fun p i i' j j' y _ _ => aE_up y (by omega)) m _ _ _ _ h1 anS_rfl anT_rfl, hr, aE_up h2 (by omega), h3⟩
theorem aX_cal {r i i' j j' : Nat} (h : aCal D A S T (fun r i i' j j' => aX w D A r S T i i' j j') r i i' j j') : aX w D A r S T i i' j j' := by
  obtain ⟨d, z, a, m, i1, j1, h1, g, h2⟩ := h
  obtain ⟨n, g⟩ := aA_up _ _ _ _ _ g
  exact ⟨n + 1, Or.inr (Or.inr (Or.inr (Or.inr (Or.inl ⟨d, z, a, m, i1, j1, h1, g, h2⟩))))⟩
theorem aX_int {r i i' j j' : Nat} (h : aInt S T (fun r i i' j j' => aX w D A r S T i i' j j') r i i' j j') : aX w D A r S T i i' j j' := by
  obtain ⟨i1, j1, ⟨n, g⟩, h2⟩ := h
  exact ⟨n + 1, Or.inr (Or.inr (Or.inr (Or.inr (Or.inr (Or.inl ⟨i1, j1, g, h2⟩)))))⟩
theorem aX_bit {r i i' j j' : Nat} (h : aBit S T (fun r i i' j j' => aX w D A r S T i i' j j') r i i' j j') : aX w D A r S T i i' j j' := by
  obtain ⟨q, i1, j1, i2, j2, ⟨n1, g1⟩, ⟨n2, g2⟩, h2⟩ := h
  exact ⟨n1 + n2 + 1, Or.inr (Or.inr (Or.inr (Or.inr (Or.inr (Or.inr (Or.inl ⟨q, i1, j1, i2, j2, aE_up g1 (by omega), aE_up g2 (by omega), h2⟩))))))⟩
theorem aX_una {r i i' j j' : Nat} (h : aUna S T (fun r i i' j j' => aX w D A r S T i i' j j') r i i' j j') : aX w D A r S T i i' j j' := by
  obtain ⟨i1, j1, ⟨n, g⟩, h2⟩ := h
  exact ⟨n + 1, Or.inr (Or.inr (Or.inr (Or.inr (Or.inr (Or.inr (Or.inr (Or.inl ⟨i1, j1, g, h2⟩)))))))⟩
theorem aX_bin {r i i' j j' : Nat} (h : aBin S T (fun r i i' j j' => aX w D A r S T i i' j j') r i i' j j') : aX w D A r S T i i' j j' := by
  obtain ⟨q, i1, j1, i2, j2, o, r1, ⟨n1, g1⟩, ⟨n2, g2⟩, h2⟩ := h
  exact ⟨n1 + n2 + 1, Or.inr (Or.inr (Or.inr (Or.inr (Or.inr (Or.inr (Or.inr (Or.inr (Or.inl ⟨q, i1, j1, i2, j2, o, r1, aE_up g1 (by omega), aE_up g2 (by omega), h2⟩))))))))⟩
theorem aX_sel {r i i' j j' : Nat} (h : aSel S T (fun r i i' j j' => aX w D A r S T i i' j j') r i i' j j') : aX w D A r S T i i' j j' := by
  obtain ⟨i1, j1, i2, j2, i3, j3, ⟨n1, g1⟩, ⟨n2, g2⟩, ⟨n3, g3⟩, h2⟩ := h
  exact ⟨n1 + n2 + n3 + 1, Or.inr (Or.inr (Or.inr (Or.inr (Or.inr (Or.inr (Or.inr (Or.inr (Or.inr (Or.inl ⟨i1, j1, i2, j2, i3, j3, aE_up g1 (by omega), aE_up g2 (by omega), aE_up g3 (by omega), h2⟩)))))))))⟩
theorem aX_bra {r i i' j j' : Nat} (h : aBra S T (fun r i i' j j' => aX w D A r S T i i' j j') r i i' j j') : aX w D A r S T i i' j j' := by
  obtain ⟨j1, ⟨n, g⟩, h2⟩ := h
  exact ⟨n + 1, Or.inr (Or.inr (Or.inr (Or.inr (Or.inr (Or.inr (Or.inr (Or.inr (Or.inr (Or.inr ⟨j1, g, h2⟩)))))))))⟩
end AN
