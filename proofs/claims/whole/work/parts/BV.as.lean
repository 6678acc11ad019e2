/-! what SORTS leaves of one statement on both sides, for BUILD -/
def adA (A : Nat → Nat → Prop) (d a : Nat) : Nat → Nat → Prop := fun e x => A e x ∨ (e = d ∧ x = a)
def aSet (w D : Nat) (S T : zS) (lo hi : Nat) (A : Nat → Nat → Prop) (p i i' j j' : Nat) : Prop := ∃ d a r i1 j1, RFA D A S T d j1 1 r 0 a ∧ lo ≤ a ∧ a + 1 ≤ hi ∧ aX w D A r S T (i + 2) i1 (j + 2) j1 ∧ i' = i1 + 1 ∧ j' = j1 + 2 ∧ S.1 4 i = 1 ∧ S.1 6 i = nI p ∧ S.1 4 (i + 1) = 9 ∧ S.1 5 (i + 1) = nI d ∧ S.1 4 i1 = 10 ∧ S.1 5 i1 = nI (i + 1) ∧ T.1 78 j = 20 ∧ T.1 81 j = nI p ∧ T.1 78 (j + 1) = 31 ∧ T.1 78 j1 = 32 ∧ T.1 78 (j1 + 1) = 21
def aSel2 (w D : Nat) (S T : zS) (lo hi : Nat) (A : Nat → Nat → Prop) (p i i' j j' : Nat) : Prop := ∃ d a r z pb q i1 j1 i2 j2, RFA D A S T d j1 1 r z a ∧ RFA D A S T d j2 1 r z a ∧ 0 < z ∧ pb ≤ 1 ∧ lo ≤ a ∧ a + z ≤ hi ∧ aX w D A 0 S T (i + 2) i1 (j + 2) j1 ∧ aX w D A r S T (i1 + 1) i2 (j1 + 1) j2 ∧ i' = i2 + 1 ∧ j' = j2 + 2 ∧ S.1 4 i = 1 ∧ S.1 6 i = nI p ∧ S.1 4 (i + 1) = 11 ∧ S.1 5 (i + 1) = nI d ∧ S.1 7 (i + 1) = nI (2 * pb) ∧ S.1 4 i1 = 26 ∧ S.1 5 i1 = nI (i + 1) ∧ S.1 6 i1 = nI q ∧ S.1 4 i2 = 12 ∧ S.1 5 i2 = nI (i + 1) ∧ T.1 78 j = 20 ∧ T.1 81 j = nI p ∧ T.1 78 (j + 1) = 33 ∧ T.1 78 j1 = 42 ∧ T.1 106 j1 = nI q ∧ T.1 107 j1 = nI pb ∧ T.1 78 j2 = 34 ∧ T.1 107 j2 = nI pb ∧ T.1 78 (j2 + 1) = 21 ∧ (pb = 1 → PB T (j + 2) j1)
def aVar (w D : Nat) (S T : zS) (vw vw' : Nat) (A A' : Nat → Nat → Prop) (p i i' j j' : Nat) : Prop := ∃ d r z j1, d < D ∧ S.1 11 d = 1 ∧ S.1 12 d = nI r ∧ S.1 13 d = nI z ∧ S.1 14 d = nI vw ∧ r ≤ 1 ∧ z ≤ 64 ∧ vw' = vw + max 1 z ∧ vw' ≤ 256 ∧ (∀ a, ¬ A d a) ∧ A' = adA A d vw ∧ j' = j1 + 2 ∧ S.1 4 i = 1 ∧ S.1 6 i = nI p ∧ S.1 4 (i + 1) = 6 ∧ T.1 78 j = 20 ∧ T.1 81 j = nI p ∧ T.1 78 (j + 1) = 24 ∧ T.1 78 j1 = 25 ∧ T.1 80 j1 = nI r ∧ T.1 89 j1 = nI vw ∧ T.1 78 (j1 + 1) = 21 ∧
  ((∃ i1, aX w D A r S T (i + 2) i1 (j + 2) j1 ∧ i' = i1 + 1 ∧ S.1 4 i1 = 7 ∧ S.1 5 i1 = nI d ∧ T.2 82 j1 = lN (65536 + 256 * z)) ∨ (j1 = j + 2 ∧ i' = i + 3 ∧ S.1 4 (i + 2) = 8 ∧ S.1 5 (i + 2) = nI d ∧ T.2 82 j1 = lN (256 * z)))
abbrev aSG := Nat → Nat → Nat → Nat → (Nat → Nat → Prop) → (Nat → Nat → Prop) → Nat → Nat → Nat → Nat → Nat → Prop
def aL (G : aSG) (lo hi : Nat) : Nat → Nat → Nat → (Nat → Nat → Prop) → (Nat → Nat → Prop) → Nat → Nat → Nat → Nat → Prop
  | 0, vw, vw', A, A', i, i', j, j' => i' = i ∧ j' = j ∧ vw' = vw ∧ A' = A
  | k + 1, vw, vw', A, A', i, i', j, j' => ∃ i1 j1 p1 vw1 A1, aL G lo hi k vw vw1 A A1 i i1 j j1 ∧ G lo hi vw1 vw' A1 A' p1 i1 i' j1 j'
def aIf (w D : Nat) (S T : zS) (G : aSG) (lo hi vw vw' : Nat) (A A' : Nat → Nat → Prop) (p i i' j j' : Nat) : Prop := ∃ i1 j1 k2 i2 j2 k3 i3 j3 lo1 hi1 vw2 A2 A3, aX w D A 1 S T (i + 1) i1 (j + 1) j1 ∧ aL G lo1 hi1 k2 vw vw2 A A2 (i1 + 1) i2 (j1 + 1) j2 ∧ aL G lo1 hi1 k3 vw2 vw' A A3 (i2 + 1) i3 (if k3 = 0 ∧ T.1 80 j1 = nI j3 then j2 else j2 + 1) j3 ∧ A' = A ∧ lo ≤ lo1 ∧ lo1 ≤ 256 ∧ hi1 ≤ hi ∧ hi1 ≤ 256 ∧ vw ≤ 256 ∧ i' = i3 + 1 ∧ j' = j3 + 2 ∧ S.1 4 i = 1 ∧ S.1 6 i = nI p ∧ S.1 4 i1 = 14 ∧ S.1 5 i1 = nI lo1 ∧ S.1 7 i1 = nI (min hi1 vw - lo1) ∧ S.1 4 i2 = 15 ∧ S.1 5 i2 = nI i1 ∧ S.1 4 i3 = 16 ∧ S.1 5 i3 = nI i1 ∧ S.1 6 i3 = nI p ∧ T.1 78 j = 20 ∧ T.1 81 j = nI p ∧ T.1 78 j1 = 35 ∧ T.1 78 j3 = 37 ∧ T.1 78 (j3 + 1) = 21 ∧
  ((k3 = 0 ∧ T.1 80 j1 = nI j3) ∨ (T.1 80 j1 = nI j2 ∧ ¬ T.1 80 j1 = nI j3 ∧ T.1 78 j2 = 36 ∧ T.1 80 j2 = nI j3))
def aFor (w D : Nat) (S T : zS) (G : aSG) (lo hi vw vw' : Nat) (A A' : Nat → Nat → Prop) (p i i' j j' : Nat) : Prop := ∃ d i1 j1 i2 j2 k3 i3 j3 A3, d < D ∧ S.1 11 d = 2 ∧ S.1 12 d = 0 ∧ S.1 13 d = 0 ∧ (∀ a, ¬ A d a) ∧ aX w D A 0 S T (i + 2) i1 (j + 2) j1 ∧ aX w D A 0 S T (i1 + 1) i2 (j1 + 1) j2 ∧ aL G lo hi k3 vw vw' (adA A d (j2 + 1)) A3 (i2 + 2) i3 (j2 + 2) j3 ∧ A' = A ∧ i' = i3 + 1 ∧ j' = j3 + 2 ∧ S.1 4 i = 1 ∧ S.1 6 i = nI p ∧ S.1 4 (i + 1) = 17 ∧ S.1 4 i1 = 18 ∧ S.1 4 i2 = 18 ∧ S.1 4 (i2 + 1) = 19 ∧ S.1 5 (i2 + 1) = nI d ∧ S.1 6 (i2 + 1) = nI p ∧ S.1 7 (i2 + 1) = nI (i3 + 1) ∧ S.1 4 i3 = 20 ∧ S.1 5 i3 = nI d ∧ S.1 7 i3 = nI (i2 + 2) ∧ T.1 78 j = 20 ∧ T.1 81 j = nI p ∧ T.1 78 (j + 1) = 38 ∧ T.1 78 j1 = 41 ∧ T.1 78 j2 = 41 ∧ T.1 78 (j2 + 1) = 39 ∧ T.1 80 (j2 + 1) = nI j3 ∧ T.1 81 (j2 + 1) = nI p ∧ T.1 78 j3 = 40 ∧ T.1 79 j3 = nI (j2 + 1) ∧ T.1 78 (j3 + 1) = 21 ∧ PB T (j + 2) j1 ∧ PB T (j1 + 1) j2
def aS (w D : Nat) (S T : zS) : Nat → aSG
  | 0, _, _, _, _, _, _, _, _, _, _, _ => False
  | n + 1, lo, hi, vw, vw', A, A', p, i, i', j, j' => (aSet w D S T lo hi A p i i' j j' ∧ A' = A ∧ vw' = vw) ∨ (aSel2 w D S T lo hi A p i i' j j' ∧ A' = A ∧ vw' = vw) ∨ aVar w D S T vw vw' A A' p i i' j j' ∨ aIf w D S T (aS w D S T n) lo hi vw vw' A A' p i i' j j' ∨ aFor w D S T (aS w D S T n) lo hi vw vw' A A' p i i' j j'
def aT (w D : Nat) (S T : zS) : aSG := fun lo hi vw vw' A A' p i i' j j' => ∃ n, aS w D S T n lo hi vw vw' A A' p i i' j j'
def anU (T T' : zS) (j j' : Nat) : Prop := (∀ c k, ((78 ≤ c ∧ c ≤ 81) ∨ c = 89 ∨ (102 ≤ c ∧ c ≤ 107)) ∧ j ≤ k ∧ k < j' → T'.1 c k = T.1 c k) ∧ ∀ k, T'.2 82 k = T.2 82 k
section ASn
variable {w D D' : Nat} {S T S' T' : zS}
theorem anU_T {j j' : Nat} (h : anU T T' j j') : anT T T' j j' := ⟨fun c k q => h.1 c k (by omega), h.2⟩
theorem anU_sub {j j' j1 j2 : Nat} (h : anU T T' j j') (a1 : j ≤ j1) (a2 : j2 ≤ j') : anU T T' j1 j2 := ⟨fun c k q => h.1 c k (by omega), h.2⟩
theorem anU_rfl {j j' : Nat} : anU T T j j' := ⟨fun _ _ _ => rfl, fun _ => rfl⟩
theorem aL_bnd {G : aSG} {lo hi : Nat} (hG : ∀ lo hi v v' A A' p i i' j j', G lo hi v v' A A' p i i' j j' → i < i' ∧ j < j') : ∀ k v v' A A' i i' j j', aL G lo hi k v v' A A' i i' j j' → i ≤ i' ∧ j ≤ j'
  | 0, v, v', A, A', i, i', j, j', h => ⟨Nat.le_of_eq h.1.symm, Nat.le_of_eq h.2.1.symm⟩
  | k + 1, v, v', A, A', i, i', j, j', h => by
    obtain ⟨i1, j1, p1, v1, A1, h1, h2⟩ := h
    have a1 := aL_bnd hG k _ _ _ _ _ _ _ _ h1
    have a2 := hG _ _ _ _ _ _ _ _ _ _ _ h2
    omega
theorem aS_bnd : ∀ n lo hi v v' A A' p i i' j j', aS w D S T n lo hi v v' A A' p i i' j j' → i < i' ∧ j < j'
  | 0, _, _, _, _, _, _, _, _, _, _, _, h => h.elim
  | n + 1, lo, hi, v, v', A, A', p, i, i', j, j', h => by
    have ih := aS_bnd n
    rcases h with ⟨h, -⟩ | ⟨h, -⟩ | h | h | h
    · obtain ⟨d, a, r, i1, j1, -, -, -, h1, e1, e2, -⟩ := h
      have := aX_bnd h1
      omega
    · obtain ⟨d, a, r, z, pb, q, i1, j1, i2, j2, -, -, -, -, -, -, h1, h2, e1, e2, -⟩ := h
      have := aX_bnd h1
      have := aX_bnd h2
      omega
    · obtain ⟨d, r, z, j1, -, -, -, -, -, -, -, -, -, -, -, e2, -, -, -, -, -, -, -, -, -, -, h⟩ := h
      rcases h with ⟨i1, h1, e1, -⟩ | ⟨e0, e1, -⟩
      · have := aX_bnd h1
        omega
      · omega
    · obtain ⟨i1, j1, k2, i2, j2, k3, i3, j3, lo1, hi1, vw2, A2, A3, h1, h2, h3, -, -, -, -, -, -, e1, e2, -⟩ := h
      have a1 := aX_bnd h1
      have a2 := aL_bnd ih _ _ _ _ _ _ _ _ _ h2
      have a3 := aL_bnd ih _ _ _ _ _ _ _ _ _ h3
      have : j2 ≤ (if k3 = 0 ∧ T.1 80 j1 = nI j3 then j2 else j2 + 1) := by split <;> omega
      omega
    · obtain ⟨d, i1, j1, i2, j2, k3, i3, j3, A3, -, -, -, -, -, h1, h2, h3, -, e1, e2, -⟩ := h
      have a1 := aX_bnd h1
      have a2 := aX_bnd h2
      have a3 := aL_bnd ih _ _ _ _ _ _ _ _ _ h3
      omega
theorem aL_cong {G G' : aSG} {lo hi lo' hi' : Nat} (hB : ∀ lo hi v v' A A' p i i' j j', G lo hi v v' A A' p i i' j j' → i < i' ∧ j < j') (hG : ∀ v v' A A' p i i' j j', G lo hi v v' A A' p i i' j j' → anS S S' i i' → anU T T' j j' → G' lo' hi' v v' A A' p i i' j j') : ∀ k v v' A A' i i' j j', aL G lo hi k v v' A A' i i' j j' → anS S S' i i' → anU T T' j j' → aL G' lo' hi' k v v' A A' i i' j j'
  | 0, v, v', A, A', i, i', j, j', h, _, _ => h
  | k + 1, v, v', A, A', i, i', j, j', h, cs, ct => by
    obtain ⟨i1, j1, p1, v1, A1, h1, h2⟩ := h
    have a1 := aL_bnd hB k _ _ _ _ _ _ _ _ h1
    have a2 := hB _ _ _ _ _ _ _ _ _ _ _ h2
    exact ⟨i1, j1, p1, v1, A1, aL_cong hB hG k _ _ _ _ _ _ _ _ h1 (anS_sub cs (by omega) (by omega)) (anU_sub ct (by omega) (by omega)), hG _ _ _ _ _ _ _ _ _ h2 (anS_sub cs (by omega) (by omega)) (anU_sub ct (by omega) (by omega))⟩
theorem aS_cong (hD : D ≤ D') : ∀ n n' lo hi lo' hi' v v' A A' p i i' j j', n ≤ n' → lo' ≤ lo → hi ≤ hi' → aS w D S T n lo hi v v' A A' p i i' j j' → anS S S' i i' → anU T T' j j' → aS w D' S' T' n' lo' hi' v v' A A' p i i' j j'
  | 0, _, _, _, _, _, _, _, _, _, _, _, _, _, _, _, _, _, h, _, _ => h.elim
  | n + 1, 0, _, _, _, _, _, _, _, _, _, _, _, _, _, hn, _, _, _, _, _ => absurd hn (by omega)
  | n + 1, n' + 1, lo, hi, lo', hi', vw, vw', A, A', p, i, i', j, j', hn, hl, hh, h, cs, ct => by
    have ih0 := fun lo hi v v' A A' p i i' j j' => aS_cong hD n n' lo hi lo hi v v' A A' p i i' j j' (by omega) (Nat.le_refl _) (Nat.le_refl _)
    have ih1 := fun v v' A A' p i i' j j' => aS_cong hD n n' lo hi lo' hi' v v' A A' p i i' j j' (by omega) hl hh
    have bd := aS_bnd (w := w) (D := D) (S := S) (T := T) n
    have idA : ∀ {A : Nat → Nat → Prop} (d a : Nat), A d a → A d a := fun _ _ y => y
    rcases h with ⟨h, eA⟩ | ⟨h, eA⟩ | h | h | h
    · obtain ⟨d, a, r, i1, j1, h1, h2, h3, hx, e1, e2, f1, f2, f3, f4, f5, f6, g1, g2, g3, g4, g5⟩ := h
      have b1 := aX_bnd hx
      exact Or.inl ⟨⟨d, a, r, i1, j1, RFA_k hD idA h1 cs (anU_T ct) (by omega) (by omega), by omega, by omega, aX_cong hD idA hx (anS_sub cs (by omega) (by omega)) (anT_sub (anU_T ct) (by omega) (by omega)), e1, e2, (cs 4 i (by omega)).trans f1, (cs 6 i (by omega)).trans f2, (cs 4 (i + 1) (by omega)).trans f3, (cs 5 (i + 1) (by omega)).trans f4, (cs 4 i1 (by omega)).trans f5, (cs 5 i1 (by omega)).trans f6, (ct.1 78 j (by omega)).trans g1, (ct.1 81 j (by omega)).trans g2, (ct.1 78 (j + 1) (by omega)).trans g3, (ct.1 78 j1 (by omega)).trans g4, (ct.1 78 (j1 + 1) (by omega)).trans g5⟩, eA⟩
    · obtain ⟨d, a, r, z, pb, q, i1, j1, i2, j2, h1, h2, hz, hp, hl1, hh1, hx, hy, e1, e2, f1, f2, f3, f4, f5, f6, f7, f8, f9, f10, g1, g2, g3, g4, g5, g6, g7, g8, g9⟩ := h
      have b1 := aX_bnd hx
      have b2 := aX_bnd hy
      exact Or.inr (Or.inl ⟨⟨d, a, r, z, pb, q, i1, j1, i2, j2, RFA_k hD idA h1 cs (anU_T ct) (by omega) (by omega), RFA_k hD idA h2 cs (anU_T ct) (by omega) (by omega), hz, hp, by omega, by omega, aX_cong hD idA hx (anS_sub cs (by omega) (by omega)) (anT_sub (anU_T ct) (by omega) (by omega)), aX_cong hD idA hy (anS_sub cs (by omega) (by omega)) (anT_sub (anU_T ct) (by omega) (by omega)), e1, e2, (cs 4 i (by omega)).trans f1, (cs 6 i (by omega)).trans f2, (cs 4 (i + 1) (by omega)).trans f3, (cs 5 (i + 1) (by omega)).trans f4, (cs 7 (i + 1) (by omega)).trans f5, (cs 4 i1 (by omega)).trans f6, (cs 5 i1 (by omega)).trans f7, (cs 6 i1 (by omega)).trans f8, (cs 4 i2 (by omega)).trans f9, (cs 5 i2 (by omega)).trans f10, (ct.1 78 j (by omega)).trans g1, (ct.1 81 j (by omega)).trans g2, (ct.1 78 (j + 1) (by omega)).trans g3, (ct.1 78 j1 (by omega)).trans g4, (ct.1 106 j1 (by omega)).trans g5, (ct.1 107 j1 (by omega)).trans g6, (ct.1 78 j2 (by omega)).trans g7, (ct.1 107 j2 (by omega)).trans g8, (ct.1 78 (j2 + 1) (by omega)).trans g9.1, fun y => PB_k (g9.2 y) (anU_T ct) (by omega) (by omega)⟩, eA⟩)
    · obtain ⟨d, r, z, j1, h1, h2, h3, h4, h5, h6, h7, h8, h9, h10, h11, e2, f1, f2, f3, g1, g2, g3, g4, g5, g6, g7, h⟩ := h
      have bj : j + 2 ≤ j1 ∧ i + 2 < i' := by
        rcases h with ⟨i1, hx, e1, -⟩ | ⟨e0, e1, -⟩
        · have := aX_bnd hx
          omega
        · omega
      refine Or.inr (Or.inr (Or.inl ⟨d, r, z, j1, by omega, (cs 11 d (by omega)).trans h2, (cs 12 d (by omega)).trans h3, (cs 13 d (by omega)).trans h4, (cs 14 d (by omega)).trans h5, h6, h7, h8, h9, h10, h11, e2, (cs 4 i (by omega)).trans f1, (cs 6 i (by omega)).trans f2, (cs 4 (i + 1) (by omega)).trans f3, (ct.1 78 j (by omega)).trans g1, (ct.1 81 j (by omega)).trans g2, (ct.1 78 (j + 1) (by omega)).trans g3, (ct.1 78 j1 (by omega)).trans g4, (ct.1 80 j1 (by omega)).trans g5, (ct.1 89 j1 (by omega)).trans g6, (ct.1 78 (j1 + 1) (by omega)).trans g7, ?_⟩))
      rcases h with ⟨i1, hx, e1, k1, k2, k3⟩ | ⟨e0, e1, k1, k2, k3⟩
      · have b1 := aX_bnd hx
        exact Or.inl ⟨i1, aX_cong hD idA hx (anS_sub cs (by omega) (by omega)) (anT_sub (anU_T ct) (by omega) (by omega)), e1, (cs 4 i1 (by omega)).trans k1, (cs 5 i1 (by omega)).trans k2, (ct.2 _).trans k3⟩
      · exact Or.inr ⟨e0, e1, (cs 4 (i + 2) (by omega)).trans k1, (cs 5 (i + 2) (by omega)).trans k2, (ct.2 _).trans k3⟩
    · obtain ⟨i1, j1, k2, i2, j2, k3, i3, j3, lo1, hi1, vw2, A2, A3, hx, h2, h3, hA, l1, l2, l3, l4, l5, e1, e2, f1, f2, f3, f4, f5, f6, f7, f8, f9, f10, g1, g2, g3, g4, g5, hc⟩ := h
      have b1 := aX_bnd hx
      have b2 := aL_bnd bd _ _ _ _ _ _ _ _ _ h2
      have b3 := aL_bnd bd _ _ _ _ _ _ _ _ _ h3
      have a4 : j2 ≤ (if k3 = 0 ∧ T.1 80 j1 = nI j3 then j2 else j2 + 1) := by split <;> omega
      have t80 := ct.1 80 j1 (by omega)
      refine Or.inr (Or.inr (Or.inr (Or.inl ⟨i1, j1, k2, i2, j2, k3, i3, j3, lo1, hi1, vw2, A2, A3, aX_cong hD idA hx (anS_sub cs (by omega) (by omega)) (anT_sub (anU_T ct) (by omega) (by omega)), aL_cong bd (ih0 lo1 hi1) _ _ _ _ _ _ _ _ _ h2 (anS_sub cs (by omega) (by omega)) (anU_sub ct (by omega) (by omega)), ?_, hA, by omega, l2, by omega, l4, l5, e1, e2, (cs 4 i (by omega)).trans f1, (cs 6 i (by omega)).trans f2, (cs 4 i1 (by omega)).trans f3, (cs 5 i1 (by omega)).trans f4, (cs 7 i1 (by omega)).trans f5, (cs 4 i2 (by omega)).trans f6, (cs 5 i2 (by omega)).trans f7, (cs 4 i3 (by omega)).trans f8, (cs 5 i3 (by omega)).trans f9, (cs 6 i3 (by omega)).trans f10, (ct.1 78 j (by omega)).trans g1, (ct.1 81 j (by omega)).trans g2, (ct.1 78 j1 (by omega)).trans g3, (ct.1 78 j3 (by omega)).trans g4, (ct.1 78 (j3 + 1) (by omega)).trans g5, ?_⟩)))
      · rw [t80]
        exact aL_cong bd (ih0 lo1 hi1) _ _ _ _ _ _ _ _ _ h3 (anS_sub cs (by omega) (by omega)) (anU_sub ct (by omega) (by omega))
      · rw [t80]
        exact hc.imp id (fun y => ⟨y.1, y.2.1, (ct.1 78 j2 (by omega)).trans y.2.2.1, (ct.1 80 j2 (by omega)).trans y.2.2.2⟩)
    · obtain ⟨d, i1, j1, i2, j2, k3, i3, j3, A3, h1, h2, h3, h4, h5, hx, hy, h6, hA, e1, e2, f1, f2, f3, f4, f5, f6, f7, f8, f9, f10, f11, f12, g1, g2, g3, g4, g5, g6, g7, g8, g9, g10, g11⟩ := h
      have b1 := aX_bnd hx
      have b2 := aX_bnd hy
      have b3 := aL_bnd bd _ _ _ _ _ _ _ _ _ h6
      exact Or.inr (Or.inr (Or.inr (Or.inr ⟨d, i1, j1, i2, j2, k3, i3, j3, A3, by omega, (cs 11 d (by omega)).trans h2, (cs 12 d (by omega)).trans h3, (cs 13 d (by omega)).trans h4, h5, aX_cong hD idA hx (anS_sub cs (by omega) (by omega)) (anT_sub (anU_T ct) (by omega) (by omega)), aX_cong hD idA hy (anS_sub cs (by omega) (by omega)) (anT_sub (anU_T ct) (by omega) (by omega)), aL_cong bd ih1 _ _ _ _ _ _ _ _ _ h6 (anS_sub cs (by omega) (by omega)) (anU_sub ct (by omega) (by omega)), hA, e1, e2, (cs 4 i (by omega)).trans f1, (cs 6 i (by omega)).trans f2, (cs 4 (i + 1) (by omega)).trans f3, (cs 4 i1 (by omega)).trans f4, (cs 4 i2 (by omega)).trans f5, (cs 4 (i2 + 1) (by omega)).trans f6, (cs 5 (i2 + 1) (by omega)).trans f7, (cs 6 (i2 + 1) (by omega)).trans f8, (cs 7 (i2 + 1) (by omega)).trans f9, (cs 4 i3 (by omega)).trans f10, (cs 5 i3 (by omega)).trans f11, (cs 7 i3 (by omega)).trans f12, (ct.1 78 j (by omega)).trans g1, (ct.1 81 j (by omega)).trans g2, (ct.1 78 (j + 1) (by omega)).trans g3, (ct.1 78 j1 (by omega)).trans g4, (ct.1 78 j2 (by omega)).trans g5, (ct.1 78 (j2 + 1) (by omega)).trans g6, (ct.1 80 (j2 + 1) (by omega)).trans g7, (ct.1 81 (j2 + 1) (by omega)).trans g8, (ct.1 78 j3 (by omega)).trans g9, (ct.1 79 j3 (by omega)).trans g10, (ct.1 78 (j3 + 1) (by omega)).trans g11.1, PB_k g11.2.1 (anU_T ct) (by omega) (by omega), PB_k g11.2.2 (anU_T ct) (by omega) (by omega)⟩)))
theorem aT_bnd {lo hi v v' : Nat} {A A' : Nat → Nat → Prop} {p i i' j j' : Nat} (h : aT w D S T lo hi v v' A A' p i i' j j') : i < i' ∧ j < j' := by
  obtain ⟨n, h⟩ := h
  exact aS_bnd n _ _ _ _ _ _ _ _ _ _ _ h
theorem aT_cong {lo hi lo' hi' v v' : Nat} {A A' : Nat → Nat → Prop} {p i i' j j' : Nat} (hl : lo' ≤ lo) (hh : hi ≤ hi') (h : aT w D S T lo hi v v' A A' p i i' j j') (cs : anS S S' i i') (ct : anU T T' j j') : aT w D S' T' lo' hi' v v' A A' p i i' j j' := by
  obtain ⟨n, h⟩ := h
  exact ⟨n, aS_cong (Nat.le_refl _) n n _ _ _ _ _ _ _ _ _ _ _ _ _ (Nat.le_refl _) hl hh h cs ct⟩
theorem aL_T {lo hi lo' hi' k v v' : Nat} {A A' : Nat → Nat → Prop} {i i' j j' : Nat} (hl : lo' ≤ lo) (hh : hi ≤ hi') (h : aL (aT w D S T) lo hi k v v' A A' i i' j j') (cs : anS S S' i i') (ct : anU T T' j j') : aL (aT w D S' T') lo' hi' k v v' A A' i i' j j' :=
  aL_cong (fun _ _ _ _ _ _ _ _ _ _ _ y => aT_bnd y) (fun _ _ _ _ _ _ _ _ _ y c1 c2 => aT_cong hl hh y c1 c2) _ _ _ _ _ _ _ _ _ h cs ct
theorem aL_up {lo hi : Nat} : ∀ k v v' A A' i i' j j', aL (aT w D S T) lo hi k v v' A A' i i' j j' → ∃ n, aL (aS w D S T n) lo hi k v v' A A' i i' j j'
  | 0, v, v', A, A', i, i', j, j', h => ⟨0, h⟩
  | k + 1, v, v', A, A', i, i', j, j', h => by
    obtain ⟨i1, j1, p1, v1, A1, h1, ⟨n2, h2⟩⟩ := h
    obtain ⟨n1, h1⟩ := aL_up k _ _ _ _ _ _ _ _ h1
    exact ⟨max n1 n2, i1, j1, p1, v1, A1, aL_cong (S := S) (S' := S) (T := T) (T' := T) (aS_bnd n1) (fun v v' A A' p i i' j j' y c1 c2 => aS_cong (Nat.le_refl _) _ _ _ _ _ _ _ _ _ _ _ _ _ _ _ (Nat.le_max_left _ _) (Nat.le_refl _) (Nat.le_refl _) y c1 c2) _ _ _ _ _ _ _ _ _ h1 anS_rfl anU_rfl, aS_cong (Nat.le_refl _) _ _ _ _ _ _ _ _ _ _ _ _ _ _ _ (Nat.le_max_right _ _) (Nat.le_refl _) (Nat.le_refl _) h2 anS_rfl anU_rfl⟩
theorem aL_nn {n n' lo hi k v v' : Nat} {A A' : Nat → Nat → Prop} {i i' j j' : Nat} (hn : n ≤ n') (h : aL (aS w D S T n) lo hi k v v' A A' i i' j j') : aL (aS w D S T n') lo hi k v v' A A' i i' j j' :=
  aL_cong (S := S) (S' := S) (T := T) (T' := T) (aS_bnd n) (fun v v' A A' p i i' j j' y c1 c2 => aS_cong (Nat.le_refl _) _ _ _ _ _ _ _ _ _ _ _ _ _ _ _ hn (Nat.le_refl _) (Nat.le_refl _) y c1 c2) _ _ _ _ _ _ _ _ _ h anS_rfl anU_rfl
theorem aT_if {lo hi v v' : Nat} {A A' : Nat → Nat → Prop} {p i i' j j' : Nat} (h : aIf w D S T (aT w D S T) lo hi v v' A A' p i i' j j') : aT w D S T lo hi v v' A A' p i i' j j' := by
  obtain ⟨i1, j1, k2, i2, j2, k3, i3, j3, lo1, hi1, vw2, A2, A3, hx, h2, h3, r⟩ := h
  obtain ⟨n2, h2⟩ := aL_up _ _ _ _ _ _ _ _ _ h2
  obtain ⟨n3, h3⟩ := aL_up _ _ _ _ _ _ _ _ _ h3
  exact ⟨max n2 n3 + 1, Or.inr (Or.inr (Or.inr (Or.inl ⟨i1, j1, k2, i2, j2, k3, i3, j3, lo1, hi1, vw2, A2, A3, hx, aL_nn (Nat.le_max_left _ _) h2, aL_nn (Nat.le_max_right _ _) h3, r⟩)))⟩
theorem aT_for {lo hi v v' : Nat} {A A' : Nat → Nat → Prop} {p i i' j j' : Nat} (h : aFor w D S T (aT w D S T) lo hi v v' A A' p i i' j j') : aT w D S T lo hi v v' A A' p i i' j j' := by
  obtain ⟨d, i1, j1, i2, j2, k3, i3, j3, A3, h1, h2, h3, h4, h5, hx, hy, h6, r⟩ := h
  obtain ⟨n3, h6⟩ := aL_up _ _ _ _ _ _ _ _ _ h6
  exact ⟨n3 + 1, Or.inr (Or.inr (Or.inr (Or.inr ⟨d, i1, j1, i2, j2, k3, i3, j3, A3, h1, h2, h3, h4, h5, hx, hy, h6, r⟩)))⟩
theorem aT_D {lo hi v v' : Nat} {A A' : Nat → Nat → Prop} {p i i' j j' : Nat} (hD : D ≤ D') (h : aT w D S T lo hi v v' A A' p i i' j j') (cs : anS S S' i i') (ct : anU T T' j j') : aT w D' S' T' lo hi v v' A A' p i i' j j' := by
  obtain ⟨n, h⟩ := h
  exact ⟨n, aS_cong hD n n _ _ _ _ _ _ _ _ _ _ _ _ _ (Nat.le_refl _) (Nat.le_refl _) (Nat.le_refl _) h cs ct⟩
end ASn
