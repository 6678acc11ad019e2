/-! the codes that both make of one EXPR: the class's from i to i', the reference's from j to j'; p is where it begins -/
def gNum (w : Nat) (S T : zS) (p i i' j j' : Nat) : Prop := ∃ v : Nat, v < 2 ^ 32 ∧ i' = i + 1 ∧ j' = j + 2 ∧ S.1 4 i = 22 ∧ S.1 5 i = nI v ∧ T.1 78 j = 1 ∧ T.1 78 (j + 1) = 2 ∧ T.1 81 (j + 1) = nI p ∧ T.2 82 (j + 1) = lN (v % 2 ^ w)
def gTru (S T : zS) (p i i' j j' : Nat) : Prop := i' = i + 1 ∧ j' = j + 2 ∧ S.1 4 i = 23 ∧ T.1 78 j = 1 ∧ T.1 81 (j + 1) = nI p ∧ ((S.1 5 i = -1 ∧ T.1 78 (j + 1) = 3) ∨ (S.1 5 i = -2 ∧ T.1 78 (j + 1) = 4))
def gNam (S T : zS) (ni : Nat → Nat → Prop) (p i i' j j' : Nat) : Prop := ∃ v, ni v p ∧ i' = i + 1 ∧ j' = j + 2 ∧ S.1 4 i = 24 ∧ S.1 6 i = nI p ∧ T.1 78 j = 1 ∧ T.1 78 (j + 1) = 5 ∧ T.1 79 (j + 1) = nI v ∧ T.1 81 (j + 1) = nI p
def gElt (S T : zS) (ni : Nat → Nat → Prop) (G : Nat → Nat → Nat → Nat → Nat → Prop) (p i i' j j' : Nat) : Prop := ∃ v p1 i1 j1, ni v p ∧ G p1 (i + 1) i1 (j + 2) j1 ∧ i' = i1 + 2 ∧ j' = j1 + 1 ∧ S.1 4 i = 25 ∧ S.1 6 i = nI p ∧ S.1 4 i1 = 26 ∧ S.1 5 i1 = nI i ∧ S.1 6 i1 = nI p1 ∧ S.1 4 (i1 + 1) = 27 ∧ S.1 5 (i1 + 1) = nI i ∧ T.1 78 j = 1 ∧ T.1 78 (j + 1) = 6 ∧ T.1 79 (j + 1) = nI v ∧ T.1 81 (j + 1) = nI p ∧ T.1 78 j1 = 7 ∧ T.1 79 j1 = nI v ∧ T.1 81 j1 = nI p
def gA (S T : zS) (G : Nat → Nat → Nat → Nat → Nat → Prop) (hd cl : Nat) : Nat → Nat → Nat → Nat → Nat → Prop
  | 0, i, i', j, j' => i' = i ∧ j' = j
  | m + 1, i, i', j, j' => ∃ i1 j1 p1 i2 j2, gA S T G hd cl m i i1 j j1 ∧ G p1 i1 i2 j1 j2 ∧ i' = i2 + 1 ∧ j' = j2 + 1 ∧ S.1 4 i2 = 29 ∧ S.1 5 i2 = nI hd ∧ S.1 6 i2 = nI p1 ∧ S.1 7 i2 = nI m ∧ T.1 78 j2 = 16 ∧ T.1 79 j2 = nI cl
def gCal (S T : zS) (ni : Nat → Nat → Prop) (G : Nat → Nat → Nat → Nat → Nat → Prop) (p i i' j j' : Nat) : Prop := ∃ v m i1 j1, ni v p ∧ gA S T G i (j + 1) m (i + 1) i1 (j + 2) j1 ∧ i' = i1 + 1 ∧ j' = j1 + 1 ∧ S.1 4 i = 28 ∧ S.1 6 i = nI p ∧ S.1 7 i = nI m ∧ S.1 4 i1 = 30 ∧ S.1 5 i1 = nI i ∧ T.1 78 j = 1 ∧ T.1 78 (j + 1) = 8 ∧ T.1 79 (j + 1) = nI v ∧ T.1 80 (j + 1) = nI m ∧ T.1 81 (j + 1) = nI p ∧ T.1 78 j1 = 9 ∧ T.1 79 j1 = nI v ∧ T.1 81 j1 = nI p
def gInt (S T : zS) (G : Nat → Nat → Nat → Nat → Nat → Prop) (p i i' j j' : Nat) : Prop := ∃ p1 i1 j1, G p1 (i + 1) i1 (j + 1) j1 ∧ i' = i1 + 1 ∧ j' = j1 + 1 ∧ S.1 4 i = 21 ∧ S.1 4 i1 = 31 ∧ S.1 6 i1 = nI p1 ∧ T.1 78 j = 1 ∧ T.1 78 j1 = 10 ∧ T.1 81 j1 = nI p
def gBit (S T : zS) (G : Nat → Nat → Nat → Nat → Nat → Prop) (p i i' j j' : Nat) : Prop := ∃ p1 i1 j1 p2 i2 j2, G p1 (i + 1) i1 (j + 1) j1 ∧ G p2 (i1 + 1) i2 (j1 + 1) j2 ∧ i' = i2 + 1 ∧ j' = j2 + 1 ∧ S.1 4 i = 21 ∧ S.1 4 i1 = 32 ∧ S.1 6 i1 = nI p1 ∧ S.1 4 i2 = 33 ∧ S.1 6 i2 = nI p2 ∧ T.1 78 j = 1 ∧ T.1 78 j1 = 16 ∧ T.1 79 j1 = -1 ∧ T.1 78 j2 = 11 ∧ T.1 81 j2 = nI p
def gUna (S T : zS) (G : Nat → Nat → Nat → Nat → Nat → Prop) (p i i' j j' : Nat) : Prop := ∃ p1 i1 j1, G p1 i i1 j j1 ∧ i' = i1 + 1 ∧ j' = j1 + 1 ∧ S.1 6 i1 = nI p ∧ T.1 78 j1 = 12 ∧ T.1 81 j1 = nI p ∧ ((S.1 4 i1 = 34 ∧ T.1 79 j1 = 45) ∨ (S.1 4 i1 = 35 ∧ T.1 79 j1 = 126) ∨ (S.1 4 i1 = 36 ∧ T.1 79 j1 = 33))
def gBin (S T : zS) (G : Nat → Nat → Nat → Nat → Nat → Prop) (p i i' j j' : Nat) : Prop := ∃ i1 j1 p2 i2 j2 o a, G p i i1 j j1 ∧ G p2 i1 i2 j1 j2 ∧ 1 ≤ o ∧ o ≤ 18 ∧ i' = i2 + 1 ∧ j' = j2 + 1 ∧ S.1 4 i2 = nI (37 + o) ∧ S.1 6 i2 = nI a ∧ S.1 7 i2 = nI p2 ∧ T.1 78 j2 = 13 ∧ T.1 79 j2 = nI o ∧ T.1 81 j2 = nI a
def gSel (S T : zS) (G : Nat → Nat → Nat → Nat → Nat → Prop) (p i i' j j' : Nat) : Prop := ∃ i1 j1 p2 i2 j2 p3 i3 j3 a, G p i i1 j j1 ∧ G p2 i1 i2 j1 j2 ∧ G p3 i2 i3 j2 j3 ∧ i' = i3 + 1 ∧ j' = j3 + 1 ∧ S.1 4 i3 = 37 ∧ S.1 6 i3 = nI a ∧ T.1 78 j3 = 14 ∧ T.1 81 j3 = nI a
def gBra (S T : zS) (G : Nat → Nat → Nat → Nat → Nat → Prop) (p i i' j j' : Nat) : Prop := ∃ p1 j1, G p1 (i + 1) i' (j + 1) j1 ∧ j' = j1 + 1 ∧ S.1 4 i = 21 ∧ T.1 78 j = 1 ∧ T.1 78 j1 = 15 ∧ T.1 81 j1 = nI p
def gE (w : Nat) (S T : zS) (ni : Nat → Nat → Prop) : Nat → Nat → Nat → Nat → Nat → Nat → Prop
  | 0, _, _, _, _, _ => False
  | n + 1, p, i, i', j, j' => gNum w S T p i i' j j' ∨ gTru S T p i i' j j' ∨ gNam S T ni p i i' j j' ∨ gElt S T ni (gE w S T ni n) p i i' j j' ∨ gCal S T ni (gE w S T ni n) p i i' j j' ∨ gInt S T (gE w S T ni n) p i i' j j' ∨ gBit S T (gE w S T ni n) p i i' j j' ∨ gUna S T (gE w S T ni n) p i i' j j' ∨ gBin S T (gE w S T ni n) p i i' j j' ∨ gSel S T (gE w S T ni n) p i i' j j' ∨ gBra S T (gE w S T ni n) p i i' j j'
def gX (w : Nat) (S T : zS) (ni : Nat → Nat → Prop) (p i i' j j' : Nat) : Prop := ∃ n, gE w S T ni n p i i' j j'
/-- the class's code is the same from i to i', the reference's from j to j' -/
def cgS (S S' : zS) (i i' : Nat) : Prop := ∀ k, i ≤ k → k < i' → S'.1 4 k = S.1 4 k ∧ S'.1 5 k = S.1 5 k ∧ S'.1 6 k = S.1 6 k ∧ S'.1 7 k = S.1 7 k
def cgT (T T' : zS) (j j' : Nat) : Prop := ∀ k, j ≤ k → k < j' → T'.1 78 k = T.1 78 k ∧ T'.1 79 k = T.1 79 k ∧ T'.1 80 k = T.1 80 k ∧ T'.1 81 k = T.1 81 k ∧ T'.2 82 k = T.2 82 k
section GE
variable {w : Nat} {S T S' T' : zS} {ni ni' : Nat → Nat → Prop}
theorem gA_bnd {G : Nat → Nat → Nat → Nat → Nat → Prop} (hG : ∀ p i i' j j', G p i i' j j' → i < i' ∧ j < j') {hd cl : Nat} : ∀ m i i' j j', gA S T G hd cl m i i' j j' → i ≤ i' ∧ j ≤ j'
  | 0, i, i', j, j', h => ⟨Nat.le_of_eq h.1.symm, Nat.le_of_eq h.2.symm⟩
  | m + 1, i, i', j, j', h => by
    obtain ⟨i1, j1, p1, i2, j2, h1, h2, e1, e2, -⟩ := h
    have a1 := gA_bnd hG m _ _ _ _ h1
    have a2 := hG _ _ _ _ _ h2
    omega
theorem gE_bnd : ∀ n p i i' j j', gE w S T ni n p i i' j j' → i < i' ∧ j < j'
  | 0, _, _, _, _, _, h => h.elim
  | n + 1, p, i, i', j, j', h => by
    have ih := gE_bnd n
    rcases h with h | h | h | h | h | h | h | h | h | h | h
    · obtain ⟨v, -, e1, e2, -⟩ := h; omega
    · obtain ⟨e1, e2, -⟩ := h; omega
    · obtain ⟨v, -, e1, e2, -⟩ := h; omega
    · obtain ⟨v, p1, i1, j1, -, h1, e1, e2, -⟩ := h
      have := ih _ _ _ _ _ h1
      omega
    · obtain ⟨v, m, i1, j1, -, h1, e1, e2, -⟩ := h
      have := gA_bnd ih _ _ _ _ _ h1
      omega
    · obtain ⟨p1, i1, j1, h1, e1, e2, -⟩ := h
      have := ih _ _ _ _ _ h1
      omega
    · obtain ⟨p1, i1, j1, p2, i2, j2, h1, h2, e1, e2, -⟩ := h
      have := ih _ _ _ _ _ h1
      have := ih _ _ _ _ _ h2
      omega
    · obtain ⟨p1, i1, j1, h1, e1, e2, -⟩ := h
      have := ih _ _ _ _ _ h1
      omega
    · obtain ⟨i1, j1, p2, i2, j2, o, a, h1, h2, -, -, e1, e2, -⟩ := h
      have := ih _ _ _ _ _ h1
      have := ih _ _ _ _ _ h2
      omega
    · obtain ⟨i1, j1, p2, i2, j2, p3, i3, j3, a, h1, h2, h3, e1, e2, -⟩ := h
      have := ih _ _ _ _ _ h1
      have := ih _ _ _ _ _ h2
      have := ih _ _ _ _ _ h3
      omega
    · obtain ⟨p1, j1, h1, e1, -⟩ := h
      have := ih _ _ _ _ _ h1
      omega
theorem gA_cong {G G' : Nat → Nat → Nat → Nat → Nat → Prop} (hB : ∀ p i i' j j', G p i i' j j' → i < i' ∧ j < j') (hG : ∀ p i i' j j', G p i i' j j' → cgS S S' i i' → cgT T T' j j' → G' p i i' j j') {hd cl : Nat} : ∀ m i i' j j', gA S T G hd cl m i i' j j' → cgS S S' i i' → cgT T T' j j' → gA S' T' G' hd cl m i i' j j'
  | 0, i, i', j, j', h, _, _ => h
  | m + 1, i, i', j, j', h, cs, ct => by
    obtain ⟨i1, j1, p1, i2, j2, h1, h2, e1, e2, f1, f2, f3, f4, f5, f6⟩ := h
    have a1 := gA_bnd hB _ _ _ _ _ h1
    have a2 := hB _ _ _ _ _ h2
    have s2 := cs i2 (by omega) (by omega)
    have t2 := ct j2 (by omega) (by omega)
    exact ⟨i1, j1, p1, i2, j2, gA_cong hB hG m _ _ _ _ h1 (fun k q1 q2 => cs k q1 (by omega)) (fun k q1 q2 => ct k q1 (by omega)), hG _ _ _ _ _ h2 (fun k q1 q2 => cs k (by omega) (by omega)) (fun k q1 q2 => ct k (by omega) (by omega)), e1, e2, s2.1.trans f1, s2.2.1.trans f2, s2.2.2.1.trans f3, s2.2.2.2.trans f4, t2.1.trans f5, t2.2.1.trans f6⟩
theorem gE_cong (hni : ∀ v p, ni v p → ni' v p) : ∀ n n' p i i' j j', n ≤ n' → gE w S T ni n p i i' j j' → cgS S S' i i' → cgT T T' j j' → gE w S' T' ni' n' p i i' j j'
  | 0, _, _, _, _, _, _, _, h, _, _ => h.elim
  | n + 1, 0, _, _, _, _, _, hn, _, _, _ => absurd hn (by omega)
  | n + 1, n' + 1, p, i, i', j, j', hn, h, cs, ct => by
    have ih := fun p i i' j j' => gE_cong hni n n' p i i' j j' (by omega)
    have bd := gE_bnd (w := w) (S := S) (T := T) (ni := ni) n
    rcases h with h | h | h | h | h | h | h | h | h | h | h
    · obtain ⟨v, hv, e1, e2, f1, f2, f3, f4, f5, f6⟩ := h
      have s0 := cs i (by omega) (by omega)
      have t0 := ct j (by omega) (by omega)
      have t1 := ct (j + 1) (by omega) (by omega)
      exact Or.inl ⟨v, hv, e1, e2, s0.1.trans f1, s0.2.1.trans f2, t0.1.trans f3, t1.1.trans f4, t1.2.2.2.1.trans f5, t1.2.2.2.2.trans f6⟩
    · obtain ⟨e1, e2, f1, f2, f3, f4⟩ := h
      have s0 := cs i (by omega) (by omega)
      have t0 := ct j (by omega) (by omega)
      have t1 := ct (j + 1) (by omega) (by omega)
      exact Or.inr (Or.inl ⟨e1, e2, s0.1.trans f1, t0.1.trans f2, t1.2.2.2.1.trans f3, f4.elim (fun y => Or.inl ⟨s0.2.1.trans y.1, t1.1.trans y.2⟩) (fun y => Or.inr ⟨s0.2.1.trans y.1, t1.1.trans y.2⟩)⟩)
    · obtain ⟨v, hv, e1, e2, f1, f2, f3, f4, f5, f6⟩ := h
      have s0 := cs i (by omega) (by omega)
      have t0 := ct j (by omega) (by omega)
      have t1 := ct (j + 1) (by omega) (by omega)
      exact Or.inr (Or.inr (Or.inl ⟨v, hni _ _ hv, e1, e2, s0.1.trans f1, s0.2.2.1.trans f2, t0.1.trans f3, t1.1.trans f4, t1.2.1.trans f5, t1.2.2.2.1.trans f6⟩))
    · obtain ⟨v, p1, i1, j1, hv, h1, e1, e2, f1, f2, f3, f4, f5, f6, f7, f8, f9, f10, f11, f12, f13, f14⟩ := h
      have a1 := bd _ _ _ _ _ h1
      have s0 := cs i (by omega) (by omega)
      have s1 := cs i1 (by omega) (by omega)
      have s2 := cs (i1 + 1) (by omega) (by omega)
      have t0 := ct j (by omega) (by omega)
      have t1 := ct (j + 1) (by omega) (by omega)
      have t2 := ct j1 (by omega) (by omega)
      exact Or.inr (Or.inr (Or.inr (Or.inl ⟨v, p1, i1, j1, hni _ _ hv, ih _ _ _ _ _ h1 (fun k q1 q2 => cs k (by omega) (by omega)) (fun k q1 q2 => ct k (by omega) (by omega)), e1, e2, s0.1.trans f1, s0.2.2.1.trans f2, s1.1.trans f3, s1.2.1.trans f4, s1.2.2.1.trans f5, s2.1.trans f6, s2.2.1.trans f7, t0.1.trans f8, t1.1.trans f9, t1.2.1.trans f10, t1.2.2.2.1.trans f11, t2.1.trans f12, t2.2.1.trans f13, t2.2.2.2.1.trans f14⟩)))
    · obtain ⟨v, m, i1, j1, hv, h1, e1, e2, f1, f2, f3, f4, f5, f6, f7, f8, f9, f10, f11, f12, f13⟩ := h
      have a1 := gA_bnd bd _ _ _ _ _ h1
      have s0 := cs i (by omega) (by omega)
      have s1 := cs i1 (by omega) (by omega)
      have t0 := ct j (by omega) (by omega)
      have t1 := ct (j + 1) (by omega) (by omega)
      have t2 := ct j1 (by omega) (by omega)
      exact Or.inr (Or.inr (Or.inr (Or.inr (Or.inl ⟨v, m, i1, j1, hni _ _ hv, gA_cong bd ih _ _ _ _ _ h1 (fun k q1 q2 => cs k (by omega) (by omega)) (fun k q1 q2 => ct k (by omega) (by omega)), e1, e2, s0.1.trans f1, s0.2.2.1.trans f2, s0.2.2.2.trans f3, s1.1.trans f4, s1.2.1.trans f5, t0.1.trans f6, t1.1.trans f7, t1.2.1.trans f8, t1.2.2.1.trans f9, t1.2.2.2.1.trans f10, t2.1.trans f11, t2.2.1.trans f12, t2.2.2.2.1.trans f13⟩))))
    · obtain ⟨p1, i1, j1, h1, e1, e2, f1, f2, f3, f4, f5, f6⟩ := h
      have a1 := bd _ _ _ _ _ h1
      have s0 := cs i (by omega) (by omega)
      have s1 := cs i1 (by omega) (by omega)
      have t0 := ct j (by omega) (by omega)
      have t1 := ct j1 (by omega) (by omega)
      exact Or.inr (Or.inr (Or.inr (Or.inr (Or.inr (Or.inl ⟨p1, i1, j1, ih _ _ _ _ _ h1 (fun k q1 q2 => cs k (by omega) (by omega)) (fun k q1 q2 => ct k (by omega) (by omega)), e1, e2, s0.1.trans f1, s1.1.trans f2, s1.2.2.1.trans f3, t0.1.trans f4, t1.1.trans f5, t1.2.2.2.1.trans f6⟩)))))
    · obtain ⟨p1, i1, j1, p2, i2, j2, h1, h2, e1, e2, f1, f2, f3, f4, f5, f6, f7, f8, f9, f10⟩ := h
      have a1 := bd _ _ _ _ _ h1
      have a2 := bd _ _ _ _ _ h2
      have s0 := cs i (by omega) (by omega)
      have s1 := cs i1 (by omega) (by omega)
      have s2 := cs i2 (by omega) (by omega)
      have t0 := ct j (by omega) (by omega)
      have t1 := ct j1 (by omega) (by omega)
      have t2 := ct j2 (by omega) (by omega)
      exact Or.inr (Or.inr (Or.inr (Or.inr (Or.inr (Or.inr (Or.inl ⟨p1, i1, j1, p2, i2, j2, ih _ _ _ _ _ h1 (fun k q1 q2 => cs k (by omega) (by omega)) (fun k q1 q2 => ct k (by omega) (by omega)), ih _ _ _ _ _ h2 (fun k q1 q2 => cs k (by omega) (by omega)) (fun k q1 q2 => ct k (by omega) (by omega)), e1, e2, s0.1.trans f1, s1.1.trans f2, s1.2.2.1.trans f3, s2.1.trans f4, s2.2.2.1.trans f5, t0.1.trans f6, t1.1.trans f7, t1.2.1.trans f8, t2.1.trans f9, t2.2.2.2.1.trans f10⟩))))))
    · obtain ⟨p1, i1, j1, h1, e1, e2, f1, f2, f3, f4⟩ := h
      have a1 := bd _ _ _ _ _ h1
      have s1 := cs i1 (by omega) (by omega)
      have t1 := ct j1 (by omega) (by omega)
      exact Or.inr (Or.inr (Or.inr (Or.inr (Or.inr (Or.inr (Or.inr (Or.inl ⟨p1, i1, j1, ih _ _ _ _ _ h1 (fun k q1 q2 => cs k (by omega) (by omega)) (fun k q1 q2 => ct k (by omega) (by omega)), e1, e2, s1.2.2.1.trans f1, t1.1.trans f2, t1.2.2.2.1.trans f3, by rw [s1.1, t1.2.1]; exact f4⟩)))))))
    · obtain ⟨i1, j1, p2, i2, j2, o, a, h1, h2, o1, o2, e1, e2, f1, f2, f3, f4, f5, f6⟩ := h
      have a1 := bd _ _ _ _ _ h1
      have a2 := bd _ _ _ _ _ h2
      have s2 := cs i2 (by omega) (by omega)
      have t2 := ct j2 (by omega) (by omega)
      exact Or.inr (Or.inr (Or.inr (Or.inr (Or.inr (Or.inr (Or.inr (Or.inr (Or.inl ⟨i1, j1, p2, i2, j2, o, a, ih _ _ _ _ _ h1 (fun k q1 q2 => cs k (by omega) (by omega)) (fun k q1 q2 => ct k (by omega) (by omega)), ih _ _ _ _ _ h2 (fun k q1 q2 => cs k (by omega) (by omega)) (fun k q1 q2 => ct k (by omega) (by omega)), o1, o2, e1, e2, s2.1.trans f1, s2.2.2.1.trans f2, s2.2.2.2.trans f3, t2.1.trans f4, t2.2.1.trans f5, t2.2.2.2.1.trans f6⟩))))))))
    · obtain ⟨i1, j1, p2, i2, j2, p3, i3, j3, a, h1, h2, h3, e1, e2, f1, f2, f3, f4⟩ := h
      have a1 := bd _ _ _ _ _ h1
      have a2 := bd _ _ _ _ _ h2
      have a3 := bd _ _ _ _ _ h3
      have s2 := cs i3 (by omega) (by omega)
      have t2 := ct j3 (by omega) (by omega)
      exact Or.inr (Or.inr (Or.inr (Or.inr (Or.inr (Or.inr (Or.inr (Or.inr (Or.inr (Or.inl ⟨i1, j1, p2, i2, j2, p3, i3, j3, a, ih _ _ _ _ _ h1 (fun k q1 q2 => cs k (by omega) (by omega)) (fun k q1 q2 => ct k (by omega) (by omega)), ih _ _ _ _ _ h2 (fun k q1 q2 => cs k (by omega) (by omega)) (fun k q1 q2 => ct k (by omega) (by omega)), ih _ _ _ _ _ h3 (fun k q1 q2 => cs k (by omega) (by omega)) (fun k q1 q2 => ct k (by omega) (by omega)), e1, e2, s2.1.trans f1, s2.2.2.1.trans f2, t2.1.trans f3, t2.2.2.2.1.trans f4⟩)))))))))
    · obtain ⟨p1, j1, h1, e1, f1, f2, f3, f4⟩ := h
      have a1 := bd _ _ _ _ _ h1
      have s0 := cs i (by omega) (by omega)
      have t0 := ct j (by omega) (by omega)
      have t1 := ct j1 (by omega) (by omega)
      exact Or.inr (Or.inr (Or.inr (Or.inr (Or.inr (Or.inr (Or.inr (Or.inr (Or.inr (Or.inr ⟨p1, j1, ih _ _ _ _ _ h1 (fun k q1 q2 => cs k (by omega) (by omega)) (fun k q1 q2 => ct k (by omega) (by omega)), e1, s0.1.trans f1, t0.1.trans f2, t1.1.trans f3, t1.2.2.2.1.trans f4⟩)))))))))
theorem cgS_rfl {i i' : Nat} : cgS S S i i' := fun _ _ _ => ⟨rfl, rfl, rfl, rfl⟩
theorem cgT_rfl {j j' : Nat} : cgT T T j j' := fun _ _ _ => ⟨rfl, rfl, rfl, rfl, rfl⟩
theorem gX_cong (hni : ∀ v p, ni v p → ni' v p) {p i i' j j' : Nat} (h : gX w S T ni p i i' j j') (cs : cgS S S' i i') (ct : cgT T T' j j') : gX w S' T' ni' p i i' j j' := by
  obtain ⟨n, h⟩ := h
  exact ⟨n, gE_cong hni n n p i i' j j' (Nat.le_refl _) h cs ct⟩
theorem gX_bnd {p i i' j j' : Nat} (h : gX w S T ni p i i' j j') : i < i' ∧ j < j' := by
  obtain ⟨n, h⟩ := h
  exact gE_bnd n _ _ _ _ _ h
theorem gE_up {n n' p i i' j j' : Nat} (hn : n ≤ n') (h : gE w S T ni n p i i' j j') : gE w S T ni n' p i i' j j' := gE_cong (fun _ _ y => y) n n' p i i' j j' hn h cgS_rfl cgT_rfl
theorem gX_num {p i i' j j' : Nat} (h : gNum w S T p i i' j j') : gX w S T ni p i i' j j' := ⟨1, Or.inl h⟩
theorem gX_tru {p i i' j j' : Nat} (h : gTru S T p i i' j j') : gX w S T ni p i i' j j' := ⟨1, Or.inr (Or.inl h)⟩
theorem gX_nam {p i i' j j' : Nat} (h : gNam S T ni p i i' j j') : gX w S T ni p i i' j j' := ⟨1, Or.inr (Or.inr (Or.inl h))⟩
theorem gX_elt {p i i' j j' : Nat} (h : gElt S T ni (gX w S T ni) p i i' j j') : gX w S T ni p i i' j j' := by
  obtain ⟨v, p1, i1, j1, hv, ⟨n, h1⟩, r⟩ := h
  exact ⟨n + 1, Or.inr (Or.inr (Or.inr (Or.inl ⟨v, p1, i1, j1, hv, h1, r⟩)))⟩
theorem gA_up {hd cl : Nat} : ∀ m i i' j j', gA S T (gX w S T ni) hd cl m i i' j j' → ∃ n, gA S T (gE w S T ni n) hd cl m i i' j j'
  | 0, i, i', j, j', h => ⟨0, h⟩
  | m + 1, i, i', j, j', h => by
    obtain ⟨i1, j1, p1, i2, j2, h1, ⟨n2, h2⟩, r⟩ := h
    obtain ⟨n1, h1⟩ := gA_up m _ _ _ _ h1
    refine ⟨max n1 n2, i1, j1, p1, i2, j2, ?_, gE_up (Nat.le_max_right _ _) h2, r⟩
    exact gA_cong (gE_bnd n1) (fun p i i' j j' y _ _ => gE_up (Nat.le_max_left _ _) y) _ _ _ _ _ h1 cgS_rfl cgT_rfl
theorem gX_cal {p i i' j j' : Nat} (h : gCal S T ni (gX w S T ni) p i i' j j') : gX w S T ni p i i' j j' := by
  obtain ⟨v, m, i1, j1, hv, h1, r⟩ := h
  obtain ⟨n, h1⟩ := gA_up _ _ _ _ _ h1
  exact ⟨n + 1, Or.inr (Or.inr (Or.inr (Or.inr (Or.inl ⟨v, m, i1, j1, hv, h1, r⟩))))⟩
theorem gX_int {p i i' j j' : Nat} (h : gInt S T (gX w S T ni) p i i' j j') : gX w S T ni p i i' j j' := by
  obtain ⟨p1, i1, j1, ⟨n, h1⟩, r⟩ := h
  exact ⟨n + 1, Or.inr (Or.inr (Or.inr (Or.inr (Or.inr (Or.inl ⟨p1, i1, j1, h1, r⟩)))))⟩
theorem gX_bit {p i i' j j' : Nat} (h : gBit S T (gX w S T ni) p i i' j j') : gX w S T ni p i i' j j' := by
  obtain ⟨p1, i1, j1, p2, i2, j2, ⟨n1, h1⟩, ⟨n2, h2⟩, r⟩ := h
  exact ⟨max n1 n2 + 1, Or.inr (Or.inr (Or.inr (Or.inr (Or.inr (Or.inr (Or.inl ⟨p1, i1, j1, p2, i2, j2, gE_up (Nat.le_max_left _ _) h1, gE_up (Nat.le_max_right _ _) h2, r⟩))))))⟩
theorem gX_una {p i i' j j' : Nat} (h : gUna S T (gX w S T ni) p i i' j j') : gX w S T ni p i i' j j' := by
  obtain ⟨p1, i1, j1, ⟨n, h1⟩, r⟩ := h
  exact ⟨n + 1, Or.inr (Or.inr (Or.inr (Or.inr (Or.inr (Or.inr (Or.inr (Or.inl ⟨p1, i1, j1, h1, r⟩)))))))⟩
theorem gX_bin {p i i' j j' : Nat} (h : gBin S T (gX w S T ni) p i i' j j') : gX w S T ni p i i' j j' := by
  obtain ⟨i1, j1, p2, i2, j2, o, a, ⟨n1, h1⟩, ⟨n2, h2⟩, r⟩ := h
  exact ⟨max n1 n2 + 1, Or.inr (Or.inr (Or.inr (Or.inr (Or.inr (Or.inr (Or.inr (Or.inr (Or.inl ⟨i1, j1, p2, i2, j2, o, a, gE_up (Nat.le_max_left _ _) h1, gE_up (Nat.le_max_right _ _) h2, r⟩))))))))⟩
theorem gX_sel {p i i' j j' : Nat} (h : gSel S T (gX w S T ni) p i i' j j') : gX w S T ni p i i' j j' := by
  obtain ⟨i1, j1, p2, i2, j2, p3, i3, j3, a, ⟨n1, h1⟩, ⟨n2, h2⟩, ⟨n3, h3⟩, r⟩ := h
  exact ⟨max n1 (max n2 n3) + 1, Or.inr (Or.inr (Or.inr (Or.inr (Or.inr (Or.inr (Or.inr (Or.inr (Or.inr (Or.inl ⟨i1, j1, p2, i2, j2, p3, i3, j3, a, gE_up (Nat.le_max_left _ _) h1, gE_up (Nat.le_trans (Nat.le_max_left _ _) (Nat.le_max_right _ _)) h2, gE_up (Nat.le_trans (Nat.le_max_right _ _) (Nat.le_max_right _ _)) h3, r⟩)))))))))⟩
theorem gX_bra {p i i' j j' : Nat} (h : gBra S T (gX w S T ni) p i i' j j') : gX w S T ni p i i' j j' := by
  obtain ⟨p1, j1, ⟨n, h1⟩, r⟩ := h
  exact ⟨n + 1, Or.inr (Or.inr (Or.inr (Or.inr (Or.inr (Or.inr (Or.inr (Or.inr (Or.inr (Or.inr ⟨p1, j1, h1, r⟩)))))))))⟩
/-- the last of an EXPR's code is no CALLED -/
theorem gX_last {p i i' j j' : Nat} (h : gX w S T ni p i i' j j') : ¬ T.1 78 (j' - 1) = 8 := by
  obtain ⟨n, h⟩ := h
  cases n with
  | zero => exact h.elim
  | succ n =>
    have go : ∀ {k : Nat} {x : Int32}, j' = k + 1 → T.1 78 k = x → ¬ x = 8 → ¬ T.1 78 (j' - 1) = 8 := fun {k x} e f g z => by
      rw [e, Nat.add_sub_cancel, f] at z
      exact g z
    rcases h with h | h | h | h | h | h | h | h | h | h | h
    · obtain ⟨v, -, -, e2, -, -, -, f, -⟩ := h; exact go (k := j + 1) e2 f (by decide)
    · obtain ⟨-, e2, -, -, -, f⟩ := h; exact f.elim (fun f => go (k := j + 1) e2 f.2 (by decide)) (fun f => go (k := j + 1) e2 f.2 (by decide))
    · obtain ⟨v, -, -, e2, -, -, -, f, -⟩ := h; exact go (k := j + 1) e2 f (by decide)
    · obtain ⟨v, p1, i1, j1, -, h1, e1, e2, -, -, -, -, -, -, -, -, -, -, -, f, -⟩ := h; exact go e2 f (by decide)
    · obtain ⟨v, m, i1, j1, -, h1, e1, e2, -, -, -, -, -, -, -, -, -, -, f, -⟩ := h; exact go e2 f (by decide)
    · obtain ⟨p1, i1, j1, h1, e1, e2, -, -, -, -, f, -⟩ := h; exact go e2 f (by decide)
    · obtain ⟨p1, i1, j1, p2, i2, j2, h1, h2, e1, e2, -, -, -, -, -, -, -, -, f, -⟩ := h; exact go e2 f (by decide)
    · obtain ⟨p1, i1, j1, h1, e1, e2, -, f, -⟩ := h; exact go e2 f (by decide)
    · obtain ⟨i1, j1, p2, i2, j2, o, a, h1, h2, -, -, e1, e2, -, -, -, f, -⟩ := h; exact go e2 f (by decide)
    · obtain ⟨i1, j1, p2, i2, j2, p3, i3, j3, a, h1, h2, h3, e1, e2, -, -, f, -⟩ := h; exact go e2 f (by decide)
    · obtain ⟨p1, j1, h1, e1, -, -, f, -⟩ := h; exact go e1 f (by decide)
end GE
