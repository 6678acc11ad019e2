/-! the codes that both make of statements -/
def nmS (S S' : zS) (D : Nat) : Prop := ∀ d, d < D → S'.1 9 d = S.1 9 d ∧ S'.1 10 d = S.1 10 d ∧ S'.1 11 d = S.1 11 d ∧ S'.1 12 d = S.1 12 d ∧ S'.1 13 d = S.1 13 d ∧ S'.1 14 d = S.1 14 d ∧ S'.1 15 d = S.1 15 d
def cgU (T T' : zS) (j j' : Nat) : Prop := cgT T T' j j' ∧ ∀ a, j ≤ a → a < j' → T'.1 89 a = T.1 89 a
/-- declared as number d: at s, of kind k, sort r, size z, base o -/
def dcl (S : zS) (d s k r z o : Nat) : Prop := S.1 9 d = nI s ∧ S.1 11 d = nI k ∧ S.1 12 d = nI r ∧ S.1 13 d = nI z ∧ S.1 14 d = nI o
def sSet (w : Nat) (S T : zS) (ni : Nat → Nat → Prop) (p i i' j j' : Nat) : Prop := ∃ v p1 i1 j1, ni v p ∧ gX w S T ni p1 (i + 2) i1 (j + 2) j1 ∧ i' = i1 + 1 ∧ j' = j1 + 2 ∧ S.1 4 i = 1 ∧ S.1 6 i = nI p ∧ S.1 4 (i + 1) = 9 ∧ S.1 6 (i + 1) = nI p ∧ S.1 4 i1 = 10 ∧ S.1 5 i1 = nI (i + 1) ∧ S.1 6 i1 = nI p1 ∧ T.1 78 j = 20 ∧ T.1 81 j = nI p ∧ T.1 78 (j + 1) = 31 ∧ T.1 79 (j + 1) = nI v ∧ T.1 81 (j + 1) = nI p ∧ T.1 78 j1 = 32 ∧ T.1 79 j1 = nI v ∧ T.1 81 j1 = nI p ∧ T.1 78 (j1 + 1) = 21
def sElt (w : Nat) (S T : zS) (ni : Nat → Nat → Prop) (p i i' j j' : Nat) : Prop := ∃ v p1 i1 j1 p2 i2 j2, ni v p ∧ gX w S T ni p1 (i + 2) i1 (j + 2) j1 ∧ gX w S T ni p2 (i1 + 1) i2 (j1 + 1) j2 ∧ i' = i2 + 1 ∧ j' = j2 + 2 ∧ S.1 4 i = 1 ∧ S.1 6 i = nI p ∧ S.1 4 (i + 1) = 11 ∧ S.1 6 (i + 1) = nI p ∧ S.1 4 i1 = 26 ∧ S.1 5 i1 = nI (i + 1) ∧ S.1 6 i1 = nI p1 ∧ S.1 4 i2 = 12 ∧ S.1 5 i2 = nI (i + 1) ∧ S.1 6 i2 = nI p2 ∧ T.1 78 j = 20 ∧ T.1 81 j = nI p ∧ T.1 78 (j + 1) = 33 ∧ T.1 79 (j + 1) = nI v ∧ T.1 81 (j + 1) = nI p ∧ T.1 78 j1 = 42 ∧ T.1 79 j1 = nI v ∧ T.1 81 j1 = nI p ∧ T.1 78 j2 = 34 ∧ T.1 79 j2 = nI v ∧ T.1 81 j2 = nI p ∧ T.1 78 (j2 + 1) = 21
def sVar (w : Nat) (S T : zS) (ni : Nat → Nat → Prop) (D : Nat) (vw vw' p i i' j j' : Nat) : Prop := ∃ d v s r z o j1, d < D ∧ ni v s ∧ dcl S d s 1 r z o ∧ r ≤ 1 ∧ z ≤ 64 ∧ (o + max 1 z ≤ 256 ∧ o = vw ∧ vw' = o + max 1 z) ∧ j' = j1 + 2 ∧ S.1 4 i = 1 ∧ S.1 6 i = nI p ∧ S.1 4 (i + 1) = 6 ∧ S.1 5 (i + 1) = nI d ∧ S.1 6 (i + 1) = nI s ∧ T.1 78 j = 20 ∧ T.1 81 j = nI p ∧ T.1 78 (j + 1) = 24 ∧ T.1 79 (j + 1) = nI v ∧ T.1 81 (j + 1) = nI s ∧ T.1 78 j1 = 25 ∧ T.1 79 j1 = nI v ∧ T.1 80 j1 = nI r ∧ T.1 89 j1 = nI o ∧ T.1 78 (j1 + 1) = 21 ∧
  ((∃ p1 i1, gX w S T ni p1 (i + 2) i1 (j + 2) j1 ∧ i' = i1 + 1 ∧ S.1 4 i1 = 7 ∧ S.1 5 i1 = nI d ∧ S.1 6 i1 = nI p1 ∧ T.2 82 j1 = lN (65536 + 256 * z)) ∨ (j1 = j + 2 ∧ i' = i + 3 ∧ S.1 4 (i + 2) = 8 ∧ S.1 5 (i + 2) = nI d ∧ T.2 82 j1 = lN (256 * z)))
def gL (G : Nat → Nat → Nat → Nat → Nat → Nat → Nat → Prop) : Nat → Nat → Nat → Nat → Nat → Nat → Nat → Prop
  | 0, vw, vw', i, i', j, j' => i' = i ∧ j' = j ∧ vw' = vw
  | k + 1, vw, vw', i, i', j, j' => ∃ i1 j1 p1 vw1, gL G k vw vw1 i i1 j j1 ∧ G vw1 vw' p1 i1 i' j1 j'
def sIf (w : Nat) (S T : zS) (ni : Nat → Nat → Prop) (G : Nat → Nat → Nat → Nat → Nat → Nat → Nat → Prop) (vw vw' p i i' j j' : Nat) : Prop := ∃ p1 i1 j1 k2 i2 j2 k3 i3 j3 vw2, gX w S T ni p1 (i + 1) i1 (j + 1) j1 ∧ gL G k2 vw vw2 (i1 + 1) i2 (j1 + 1) j2 ∧ gL G k3 vw2 vw' (i2 + 1) i3 (if k3 = 0 ∧ T.1 80 j1 = nI j3 then j2 else j2 + 1) j3 ∧ i' = i3 + 1 ∧ j' = j3 + 2 ∧ S.1 4 i = 1 ∧ S.1 6 i = nI p ∧ S.1 4 i1 = 14 ∧ S.1 6 i1 = nI p1 ∧ S.1 4 i2 = 15 ∧ S.1 5 i2 = nI i1 ∧ S.1 4 i3 = 16 ∧ S.1 5 i3 = nI i1 ∧ S.1 6 i3 = nI p ∧ T.1 78 j = 20 ∧ T.1 81 j = nI p ∧ T.1 78 j1 = 35 ∧ T.1 78 j3 = 37 ∧ T.1 79 j3 = nI j1 ∧ T.1 78 (j3 + 1) = 21 ∧
  ((k3 = 0 ∧ T.1 80 j1 = nI j3) ∨ (T.1 80 j1 = nI j2 ∧ ¬ T.1 80 j1 = nI j3 ∧ T.1 78 j2 = 36 ∧ T.1 79 j2 = nI j1 ∧ T.1 80 j2 = nI j3))
def sFor (w : Nat) (S T : zS) (ni : Nat → Nat → Prop) (D : Nat) (G : Nat → Nat → Nat → Nat → Nat → Nat → Nat → Prop) (vw vw' p i i' j j' : Nat) : Prop := ∃ d v s p1 i1 j1 p2 i2 j2 k3 i3 j3, d < D ∧ ni v s ∧ dcl S d s 2 0 0 0 ∧ gX w S T ni p1 (i + 2) i1 (j + 2) j1 ∧ gX w S T ni p2 (i1 + 1) i2 (j1 + 1) j2 ∧ gL G k3 vw vw' (i2 + 2) i3 (j2 + 2) j3 ∧ i' = i3 + 1 ∧ j' = j3 + 2 ∧ S.1 4 i = 1 ∧ S.1 6 i = nI p ∧ S.1 4 (i + 1) = 17 ∧ S.1 5 (i + 1) = nI d ∧ S.1 6 (i + 1) = nI s ∧ S.1 4 i1 = 18 ∧ S.1 6 i1 = nI p1 ∧ S.1 4 i2 = 18 ∧ S.1 6 i2 = nI p2 ∧ S.1 4 (i2 + 1) = 19 ∧ S.1 5 (i2 + 1) = nI d ∧ S.1 6 (i2 + 1) = nI p ∧ S.1 7 (i2 + 1) = nI (i3 + 1) ∧ S.1 4 i3 = 20 ∧ S.1 5 i3 = nI d ∧ S.1 7 i3 = nI (i2 + 2) ∧ T.1 78 j = 20 ∧ T.1 81 j = nI p ∧ T.1 78 (j + 1) = 38 ∧ T.1 79 (j + 1) = nI v ∧ T.1 81 (j + 1) = nI s ∧ T.1 78 j1 = 41 ∧ T.1 78 j2 = 41 ∧ T.1 78 (j2 + 1) = 39 ∧ T.1 79 (j2 + 1) = nI v ∧ T.1 80 (j2 + 1) = nI j3 ∧ T.1 81 (j2 + 1) = nI p ∧ T.1 78 j3 = 40 ∧ T.1 79 j3 = nI (j2 + 1) ∧ T.1 78 (j3 + 1) = 21
def gS (w : Nat) (S T : zS) (ni : Nat → Nat → Prop) (D : Nat) : Nat → Nat → Nat → Nat → Nat → Nat → Nat → Nat → Prop
  | 0, _, _, _, _, _, _, _ => False
  | n + 1, vw, vw', p, i, i', j, j' => (sSet w S T ni p i i' j j' ∧ vw' = vw) ∨ (sElt w S T ni p i i' j j' ∧ vw' = vw) ∨ sVar w S T ni D vw vw' p i i' j j' ∨ sIf w S T ni (gS w S T ni D n) vw vw' p i i' j j' ∨ sFor w S T ni D (gS w S T ni D n) vw vw' p i i' j j'
section GS
variable {w : Nat} {S T S' T' : zS} {ni ni' : Nat → Nat → Prop} {D D' : Nat}
theorem gL_bnd {G : Nat → Nat → Nat → Nat → Nat → Nat → Nat → Prop} (hG : ∀ v v' p i i' j j', G v v' p i i' j j' → i < i' ∧ j < j') : ∀ k v v' i i' j j', gL G k v v' i i' j j' → i ≤ i' ∧ j ≤ j'
  | 0, v, v', i, i', j, j', h => ⟨Nat.le_of_eq h.1.symm, Nat.le_of_eq h.2.1.symm⟩
  | k + 1, v, v', i, i', j, j', h => by
    obtain ⟨i1, j1, p1, v1, h1, h2⟩ := h
    have a1 := gL_bnd hG k _ _ _ _ _ _ h1
    have a2 := hG _ _ _ _ _ _ _ h2
    omega
theorem gS_bnd : ∀ n v v' p i i' j j', gS w S T ni D n v v' p i i' j j' → i < i' ∧ j < j'
  | 0, _, _, _, _, _, _, _, h => h.elim
  | n + 1, v, v', p, i, i', j, j', h => by
    have ih := gS_bnd n
    rcases h with h | h | h | h | h
    · obtain ⟨⟨v, p1, i1, j1, -, h1, e1, e2, -⟩, -⟩ := h
      have := gX_bnd h1
      omega
    · obtain ⟨⟨v, p1, i1, j1, p2, i2, j2, -, h1, h2, e1, e2, -⟩, -⟩ := h
      have := gX_bnd h1
      have := gX_bnd h2
      omega
    · obtain ⟨d, v, s, r, z, o, j1, -, -, -, -, -, -, e2, -, -, -, -, -, -, -, -, -, -, -, -, -, -, -, h⟩ := h
      rcases h with ⟨p1, i1, h1, e1, -⟩ | ⟨e0, e1, -⟩
      · have := gX_bnd h1
        omega
      · omega
    · obtain ⟨p1, i1, j1, k2, i2, j2, k3, i3, j3, vw2, h1, h2, h3, e1, e2, -⟩ := h
      have a1 := gX_bnd h1
      have a2 := gL_bnd ih _ _ _ _ _ _ _ h2
      have a3 := gL_bnd ih _ _ _ _ _ _ _ h3
      have : j2 ≤ (if k3 = 0 ∧ T.1 80 j1 = nI j3 then j2 else j2 + 1) := by split <;> omega
      omega
    · obtain ⟨d, v, s, p1, i1, j1, p2, i2, j2, k3, i3, j3, -, -, -, h1, h2, h3, e1, e2, -⟩ := h
      have a1 := gX_bnd h1
      have a2 := gX_bnd h2
      have a3 := gL_bnd ih _ _ _ _ _ _ _ h3
      omega
theorem gL_cong {G G' : Nat → Nat → Nat → Nat → Nat → Nat → Nat → Prop} (hB : ∀ v v' p i i' j j', G v v' p i i' j j' → i < i' ∧ j < j') (hG : ∀ v v' p i i' j j', G v v' p i i' j j' → cgS S S' i i' → cgU T T' j j' → G' v v' p i i' j j') : ∀ k v v' i i' j j', gL G k v v' i i' j j' → cgS S S' i i' → cgU T T' j j' → gL G' k v v' i i' j j'
  | 0, v, v', i, i', j, j', h, _, _ => h
  | k + 1, v, v', i, i', j, j', h, cs, ct => by
    obtain ⟨i1, j1, p1, v1, h1, h2⟩ := h
    have a1 := gL_bnd hB _ _ _ _ _ _ _ h1
    have a2 := hB _ _ _ _ _ _ _ h2
    exact ⟨i1, j1, p1, v1, gL_cong hB hG k _ _ _ _ _ _ h1 (fun a q1 q2 => cs a q1 (by omega)) ⟨fun a q1 q2 => ct.1 a q1 (by omega), fun a q1 q2 => ct.2 a q1 (by omega)⟩, hG _ _ _ _ _ _ _ h2 (fun a q1 q2 => cs a (by omega) q2) ⟨fun a q1 q2 => ct.1 a (by omega) q2, fun a q1 q2 => ct.2 a (by omega) q2⟩⟩
theorem dcl_cong {d s k r z o : Nat} (h : dcl S d s k r z o) (hd : d < D) (hn : nmS S S' D) : dcl S' d s k r z o := by
  obtain ⟨x1, x2, x3, x4, x5, x6, x7⟩ := hn d hd
  exact ⟨x1.trans h.1, x3.trans h.2.1, x4.trans h.2.2.1, x5.trans h.2.2.2.1, x6.trans h.2.2.2.2⟩
theorem gS_cong (hni : ∀ v p, ni v p → ni' v p) (hD : D ≤ D') (hn : nmS S S' D) : ∀ n n' v v' p i i' j j', n ≤ n' → gS w S T ni D n v v' p i i' j j' → cgS S S' i i' → cgU T T' j j' → gS w S' T' ni' D' n' v v' p i i' j j'
  | 0, _, _, _, _, _, _, _, _, _, h, _, _ => h.elim
  | n + 1, 0, _, _, _, _, _, _, _, hn', _, _, _ => absurd hn' (by omega)
  | n + 1, n' + 1, vw, vw', p, i, i', j, j', hn', h, cs, ct => by
    have ih := fun v v' p i i' j j' => gS_cong hni hD hn n n' v v' p i i' j j' (by omega)
    have bd := gS_bnd (w := w) (S := S) (T := T) (ni := ni) (D := D) n
    rcases h with h | h | h | h | h
    · obtain ⟨⟨v, p1, i1, j1, hv, h1, e1, e2, f1, f2, f3, f4, f5, f6, f7, g1, g2, g3, g4, g5, g6, g7, g8, g9⟩, ev⟩ := h
      have a1 := gX_bnd h1
      have s0 := cs i (by omega) (by omega)
      have s1 := cs (i + 1) (by omega) (by omega)
      have s2 := cs i1 (by omega) (by omega)
      have t0 := ct.1 j (by omega) (by omega)
      have t1 := ct.1 (j + 1) (by omega) (by omega)
      have t2 := ct.1 j1 (by omega) (by omega)
      have t3 := ct.1 (j1 + 1) (by omega) (by omega)
      exact Or.inl ⟨⟨v, p1, i1, j1, hni _ _ hv, gX_cong hni h1 (fun a q1 q2 => cs a (by omega) (by omega)) (fun a q1 q2 => ct.1 a (by omega) (by omega)), e1, e2, s0.1.trans f1, s0.2.2.1.trans f2, s1.1.trans f3, s1.2.2.1.trans f4, s2.1.trans f5, s2.2.1.trans f6, s2.2.2.1.trans f7, t0.1.trans g1, t0.2.2.2.1.trans g2, t1.1.trans g3, t1.2.1.trans g4, t1.2.2.2.1.trans g5, t2.1.trans g6, t2.2.1.trans g7, t2.2.2.2.1.trans g8, t3.1.trans g9⟩, ev⟩
    · obtain ⟨⟨v, p1, i1, j1, p2, i2, j2, hv, h1, h2, e1, e2, f1, f2, f3, f4, f5, f6, f7, f8, f9, f10, g1, g2, g3, g4, g5, g6, g7, g8, g9, g10, g11, g12⟩, ev⟩ := h
      have a1 := gX_bnd h1
      have a2 := gX_bnd h2
      have s0 := cs i (by omega) (by omega)
      have s1 := cs (i + 1) (by omega) (by omega)
      have s2 := cs i1 (by omega) (by omega)
      have s3 := cs i2 (by omega) (by omega)
      have t0 := ct.1 j (by omega) (by omega)
      have t1 := ct.1 (j + 1) (by omega) (by omega)
      have t2 := ct.1 j1 (by omega) (by omega)
      have t3 := ct.1 j2 (by omega) (by omega)
      have t4 := ct.1 (j2 + 1) (by omega) (by omega)
      exact Or.inr (Or.inl ⟨⟨v, p1, i1, j1, p2, i2, j2, hni _ _ hv, gX_cong hni h1 (fun a q1 q2 => cs a (by omega) (by omega)) (fun a q1 q2 => ct.1 a (by omega) (by omega)), gX_cong hni h2 (fun a q1 q2 => cs a (by omega) (by omega)) (fun a q1 q2 => ct.1 a (by omega) (by omega)), e1, e2, s0.1.trans f1, s0.2.2.1.trans f2, s1.1.trans f3, s1.2.2.1.trans f4, s2.1.trans f5, s2.2.1.trans f6, s2.2.2.1.trans f7, s3.1.trans f8, s3.2.1.trans f9, s3.2.2.1.trans f10, t0.1.trans g1, t0.2.2.2.1.trans g2, t1.1.trans g3, t1.2.1.trans g4, t1.2.2.2.1.trans g5, t2.1.trans g6, t2.2.1.trans g7, t2.2.2.2.1.trans g8, t3.1.trans g9, t3.2.1.trans g10, t3.2.2.2.1.trans g11, t4.1.trans g12⟩, ev⟩)
    · obtain ⟨d, v, s, r, z, o, j1, hd, hv, hdc, hr, hz, ho, e2, f1, f2, f3, f4, f5, g1, g2, g3, g4, g5, g6, g7, g8, g9, g10, h⟩ := h
      have bj : j + 2 ≤ j1 ∧ i + 2 < i' := by
        rcases h with ⟨p1, i1, h1, e1, -⟩ | ⟨e0, e1, -⟩
        · have := gX_bnd h1
          omega
        · omega
      have s0 := cs i (by omega) (by omega)
      have s1 := cs (i + 1) (by omega) (by omega)
      have t0 := ct.1 j (by omega) (by omega)
      have t1 := ct.1 (j + 1) (by omega) (by omega)
      have t2 := ct.1 j1 (by omega) (by omega)
      have t3 := ct.1 (j1 + 1) (by omega) (by omega)
      have u2 := ct.2 j1 (by omega) (by omega)
      refine Or.inr (Or.inr (Or.inl ⟨d, v, s, r, z, o, j1, by omega, hni _ _ hv, dcl_cong hdc hd hn, hr, hz, ho, e2, s0.1.trans f1, s0.2.2.1.trans f2, s1.1.trans f3, s1.2.1.trans f4, s1.2.2.1.trans f5, t0.1.trans g1, t0.2.2.2.1.trans g2, t1.1.trans g3, t1.2.1.trans g4, t1.2.2.2.1.trans g5, t2.1.trans g6, t2.2.1.trans g7, t2.2.2.1.trans g8, u2.trans g9, t3.1.trans g10, ?_⟩))
      rcases h with ⟨p1, i1, h1, e1, k1, k2, k3, k4⟩ | ⟨e0, e1, k1, k2, k3⟩
      · have a1 := gX_bnd h1
        have s2 := cs i1 (by omega) (by omega)
        exact Or.inl ⟨p1, i1, gX_cong hni h1 (fun a q1 q2 => cs a (by omega) (by omega)) (fun a q1 q2 => ct.1 a (by omega) (by omega)), e1, s2.1.trans k1, s2.2.1.trans k2, s2.2.2.1.trans k3, t2.2.2.2.2.trans k4⟩
      · have s2 := cs (i + 2) (by omega) (by omega)
        exact Or.inr ⟨e0, e1, s2.1.trans k1, s2.2.1.trans k2, t2.2.2.2.2.trans k3⟩
    · obtain ⟨p1, i1, j1, k2, i2, j2, k3, i3, j3, vw2, h1, h2, h3, e1, e2, f1, f2, f3, f4, f5, f6, f7, f8, f9, g1, g2, g3, g4, g5, g6, hc⟩ := h
      have a1 := gX_bnd h1
      have a2 := gL_bnd bd _ _ _ _ _ _ _ h2
      have a3 := gL_bnd bd _ _ _ _ _ _ _ h3
      have a4 : j2 ≤ (if k3 = 0 ∧ T.1 80 j1 = nI j3 then j2 else j2 + 1) := by split <;> omega
      have s0 := cs i (by omega) (by omega)
      have s1 := cs i1 (by omega) (by omega)
      have s2 := cs i2 (by omega) (by omega)
      have s3 := cs i3 (by omega) (by omega)
      have t0 := ct.1 j (by omega) (by omega)
      have t1 := ct.1 j1 (by omega) (by omega)
      have t3 := ct.1 j3 (by omega) (by omega)
      have t4 := ct.1 (j3 + 1) (by omega) (by omega)
      have t2 := ct.1 j2 (by omega) (by omega)
      refine Or.inr (Or.inr (Or.inr (Or.inl ⟨p1, i1, j1, k2, i2, j2, k3, i3, j3, vw2, gX_cong hni h1 (fun a q1 q2 => cs a (by omega) (by omega)) (fun a q1 q2 => ct.1 a (by omega) (by omega)), gL_cong bd ih _ _ _ _ _ _ _ h2 (fun a q1 q2 => cs a (by omega) (by omega)) ⟨fun a q1 q2 => ct.1 a (by omega) (by omega), fun a q1 q2 => ct.2 a (by omega) (by omega)⟩, ?_, e1, e2, s0.1.trans f1, s0.2.2.1.trans f2, s1.1.trans f3, s1.2.2.1.trans f4, s2.1.trans f5, s2.2.1.trans f6, s3.1.trans f7, s3.2.1.trans f8, s3.2.2.1.trans f9, t0.1.trans g1, t0.2.2.2.1.trans g2, t1.1.trans g3, t3.1.trans g4, t3.2.1.trans g5, t4.1.trans g6, ?_⟩)))
      · rw [t1.2.2.1]
        exact gL_cong bd ih _ _ _ _ _ _ _ h3 (fun a q1 q2 => cs a (by omega) (by omega)) ⟨fun a q1 q2 => ct.1 a (by omega) (by omega), fun a q1 q2 => ct.2 a (by omega) (by omega)⟩
      · rw [t1.2.2.1]
        exact hc.imp id (fun y => ⟨y.1, y.2.1, t2.1.trans y.2.2.1, t2.2.1.trans y.2.2.2.1, t2.2.2.1.trans y.2.2.2.2⟩)
    · obtain ⟨d, v, s, p1, i1, j1, p2, i2, j2, k3, i3, j3, hd, hv, hdc, h1, h2, h3, e1, e2, f1, f2, f3, f4, f5, f6, f7, f8, f9, f10, f11, f12, f13, f14, f15, f16, g1, g2, g3, g4, g5, g6, g7, g8, g9, g10, g11, g12, g13, g14⟩ := h
      have a1 := gX_bnd h1
      have a2 := gX_bnd h2
      have a3 := gL_bnd bd _ _ _ _ _ _ _ h3
      have s0 := cs i (by omega) (by omega)
      have s1 := cs (i + 1) (by omega) (by omega)
      have s2 := cs i1 (by omega) (by omega)
      have s3 := cs i2 (by omega) (by omega)
      have s4 := cs (i2 + 1) (by omega) (by omega)
      have s5 := cs i3 (by omega) (by omega)
      have t0 := ct.1 j (by omega) (by omega)
      have t1 := ct.1 (j + 1) (by omega) (by omega)
      have t2 := ct.1 j1 (by omega) (by omega)
      have t3 := ct.1 j2 (by omega) (by omega)
      have t4 := ct.1 (j2 + 1) (by omega) (by omega)
      have t5 := ct.1 j3 (by omega) (by omega)
      have t6 := ct.1 (j3 + 1) (by omega) (by omega)
      exact Or.inr (Or.inr (Or.inr (Or.inr ⟨d, v, s, p1, i1, j1, p2, i2, j2, k3, i3, j3, by omega, hni _ _ hv, dcl_cong hdc hd hn, gX_cong hni h1 (fun a q1 q2 => cs a (by omega) (by omega)) (fun a q1 q2 => ct.1 a (by omega) (by omega)), gX_cong hni h2 (fun a q1 q2 => cs a (by omega) (by omega)) (fun a q1 q2 => ct.1 a (by omega) (by omega)), gL_cong bd ih _ _ _ _ _ _ _ h3 (fun a q1 q2 => cs a (by omega) (by omega)) ⟨fun a q1 q2 => ct.1 a (by omega) (by omega), fun a q1 q2 => ct.2 a (by omega) (by omega)⟩, e1, e2, s0.1.trans f1, s0.2.2.1.trans f2, s1.1.trans f3, s1.2.1.trans f4, s1.2.2.1.trans f5, s2.1.trans f6, s2.2.2.1.trans f7, s3.1.trans f8, s3.2.2.1.trans f9, s4.1.trans f10, s4.2.1.trans f11, s4.2.2.1.trans f12, s4.2.2.2.trans f13, s5.1.trans f14, s5.2.1.trans f15, s5.2.2.2.trans f16, t0.1.trans g1, t0.2.2.2.1.trans g2, t1.1.trans g3, t1.2.1.trans g4, t1.2.2.2.1.trans g5, t2.1.trans g6, t3.1.trans g7, t4.1.trans g8, t4.2.1.trans g9, t4.2.2.1.trans g10, t4.2.2.2.1.trans g11, t5.1.trans g12, t5.2.1.trans g13, t6.1.trans g14⟩)))
end GS
