/-! what the class's code is like: how ifs lie in one another, what 16 and 26 point at -/
def e3 (S : zS) (x : Nat) : Int := if S.1 4 x = 14 ∨ S.1 4 x = 19 then 1 else if S.1 4 x = 16 ∨ S.1 4 x = 20 then -1 else 0
def pj (S : zS) (x : Nat) : Prop := (S.1 4 x = 26 → ¬ S.1 4 (S.1 5 x).toNatClampNeg = 28) ∧ (S.1 4 x = 16 → S.1 4 (S.1 5 x).toNatClampNeg = 14)
def PJ (S : zS) (i i' m : Nat) : Prop := i ≤ i' ∧ hs (e3 S) i i' = 0 ∧ (∀ x, i ≤ x → x < i' → S.1 4 x = 1 → hs (e3 S) i x + 1 ≤ m) ∧ ∀ x, i ≤ x → x < i' → pj S x
section PJS
variable {n w : Nat} {S T : zS} {ni : Nat → Nat → Prop} {i i' i1 i3 k m m' a : Nat} {o : Int32}
theorem PJ_nil : PJ S i i m := ⟨Nat.le_refl _, hs_le _ (Nat.le_refl _), fun x q1 q2 => absurd q2 (by omega), fun x q1 q2 => absurd q2 (by omega)⟩
theorem PJ_app (A : PJ S i k m) (B : PJ S k i' m) : PJ S i i' m := by
  obtain ⟨A0, A1, A2, A3⟩ := A
  obtain ⟨B0, B1, B2, B3⟩ := B
  refine ⟨by omega, by rw [hs_add A0 _ B0, A1, B1]; rfl, fun x q1 q2 q3 => ?_, fun x q1 q2 => ?_⟩
  · by_cases z : x < k
    · exact A2 x q1 z q3
    · rw [hs_add A0 x (by omega), A1]
      have := B2 x (by omega) q2 q3
      omega
  · by_cases z : x < k
    · exact A3 x q1 z
    · exact B3 x (by omega) q2
theorem PJ_mo (A : PJ S i i' m) (h : m ≤ m') : PJ S i i' m' := ⟨A.1, A.2.1, fun x q1 q2 q3 => by have := A.2.2.1 x q1 q2 q3; omega, A.2.2.2⟩
theorem PJ_0 (h0 : e3 S i = 0) (hp : pj S i) (h1 : S.1 4 i = 1 → 1 ≤ m) : PJ S i (i + 1) m := by
  have f : hs (e3 S) i (i + 1) = 0 := by rw [hs_s (Nat.le_refl _), hs_le _ (Nat.le_refl _), h0]; rfl
  refine ⟨by omega, f, fun x q1 q2 q3 => ?_, fun x q1 q2 => by rw [show x = i by omega]; exact hp⟩
  rw [show x = i by omega] at q3 ⊢
  have := h1 q3
  rw [hs_le _ (Nat.le_refl _)]
  omega
theorem PJ_1 (ho : S.1 4 i = o) (h1 : ¬ (o = 14 ∨ o = 19) := by decide) (h2 : ¬ (o = 16 ∨ o = 20) := by decide) (h3 : ¬ o = 26 := by decide) (h4 : ¬ o = 1 := by decide) : PJ S i (i + 1) m := PJ_0 (by unfold e3; rw [ho, if_neg h1, if_neg h2]) ⟨fun y => absurd (ho.symm.trans y) h3, fun y => absurd (Or.inl (ho.symm.trans y)) h2⟩ (fun y => absurd (ho.symm.trans y) h4)
theorem PJ_s (ho : S.1 4 i = 1) (hm : 1 ≤ m) : PJ S i (i + 1) m := PJ_0 (by unfold e3; rw [ho]; rfl) ⟨fun y => absurd (ho.symm.trans y) (by decide), fun y => absurd (ho.symm.trans y) (by decide)⟩ (fun _ => hm)
theorem PJ_26 (ho : S.1 4 i = 26) (h5 : S.1 5 i = nI a) (ha : a < 4000) (hk : ¬ S.1 4 a = 28) : PJ S i (i + 1) m := PJ_0 (by unfold e3; rw [ho]; rfl) ⟨fun _ => by rw [h5, nI_clamp (by omega)]; exact hk, fun y => absurd (ho.symm.trans y) (by decide)⟩ (fun y => absurd (ho.symm.trans y) (by decide))
theorem PJ_b {o1 o2 : Int32} (A : PJ S i i1 m) (h14 : S.1 4 i1 = o1) (e1 : e3 S i1 = 1) (p1 : pj S i1) (n1 : ¬ o1 = 1) (B : PJ S (i1 + 1) i3 m') (h16 : S.1 4 i3 = o2) (e2 : e3 S i3 = -1) (p2 : pj S i3) (n2 : ¬ o2 = 1) (hm : m' + 1 ≤ m) : PJ S i (i3 + 1) m := by
  obtain ⟨A0, A1, A2, A3⟩ := A
  obtain ⟨B0, B1, B2, B3⟩ := B
  have f1 : hs (e3 S) i (i1 + 1) = 1 := by rw [hs_s A0, A1, e1]; rfl
  have f3 : hs (e3 S) i i3 = 1 := by rw [hs_add (m := i1 + 1) (by omega) i3 B0, f1, B1]; rfl
  refine ⟨by omega, by rw [hs_s (by omega), f3, e2]; rfl, fun x q1 q2 q3 => ?_, fun x q1 q2 => ?_⟩
  · by_cases z : x < i1
    · exact A2 x q1 z q3
    · by_cases z1 : x = i1
      · rw [z1] at q3
        exact absurd (h14.symm.trans q3) n1
      · by_cases z2 : x < i3
        · rw [hs_add (m := i1 + 1) (by omega) x (by omega), f1]
          have := B2 x (by omega) z2 q3
          omega
        · rw [show x = i3 by omega] at q3
          exact absurd (h16.symm.trans q3) n2
  · by_cases z : x < i1
    · exact A3 x q1 z
    · by_cases z1 : x = i1
      · rw [z1]
        exact p1
      · by_cases z2 : x < i3
        · exact B3 x (by omega) z2
        · rw [show x = i3 by omega]
          exact p2
theorem PJ_if (A : PJ S i i1 m) (h14 : S.1 4 i1 = 14) (B : PJ S (i1 + 1) i3 m') (h16 : S.1 4 i3 = 16) (h5 : S.1 5 i3 = nI i1) (hi : i1 < 4000) (hm : m' + 1 ≤ m) : PJ S i (i3 + 1) m :=
  PJ_b A h14 (by unfold e3; rw [h14]; rfl) ⟨fun y => absurd (h14.symm.trans y) (by decide), fun y => absurd (h14.symm.trans y) (by decide)⟩ (by decide) B h16 (by unfold e3; rw [h16]; rfl) ⟨fun y => absurd (h16.symm.trans y) (by decide), fun _ => by rw [h5, nI_clamp (by omega)]; exact h14⟩ (by decide) hm
theorem PJ_fo (A : PJ S i i1 m) (h14 : S.1 4 i1 = 19) (B : PJ S (i1 + 1) i3 m') (h16 : S.1 4 i3 = 20) (hm : m' + 1 ≤ m) : PJ S i (i3 + 1) m :=
  PJ_b A h14 (by unfold e3; rw [h14]; rfl) ⟨fun y => absurd (h14.symm.trans y) (by decide), fun y => absurd (h14.symm.trans y) (by decide)⟩ (by decide) B h16 (by unfold e3; rw [h16]; rfl) ⟨fun y => absurd (h16.symm.trans y) (by decide), fun y => absurd (h16.symm.trans y) (by decide)⟩ (by decide) hm
theorem gA_pj {G : Nat → Nat → Nat → Nat → Nat → Prop} {hd cl : Nat} (hB : ∀ p i i' j j', G p i i' j j' → i < i' ∧ j < j') (hG : ∀ p i i' j j', i' ≤ 4000 → G p i i' j j' → PJ S i i' 0) : ∀ m i i' j j', i' ≤ 4000 → gA S T G hd cl m i i' j j' → PJ S i i' 0
  | 0, i, i', j, j', _, h => by rw [h.1]; exact PJ_nil
  | m + 1, i, i', j, j', hN, h => by
    obtain ⟨i1, j1, p1, i2, j2, h1, h2, e1, e2, f1, -⟩ := h
    have a2 := hB _ _ _ _ _ h2
    rw [e1]
    exact PJ_app (PJ_app (gA_pj hB hG m _ _ _ _ (by omega) h1) (hG _ _ _ _ _ (by omega) h2)) (PJ_1 f1)
theorem gE_pj : ∀ n p i i' j j', i' ≤ 4000 → gE w S T ni n p i i' j j' → PJ S i i' 0
  | 0, _, _, _, _, _, _, h => h.elim
  | n + 1, p, i, i', j, j', hN, h => by
    have ih := gE_pj n
    have bd := fun p i i' j j' g => gE_bnd (w := w) (S := S) (T := T) (ni := ni) n p i i' j j' g
    rcases h with h | h | h | h | h | h | h | h | h | h | h
    · obtain ⟨v, -, e1, -, f1, -⟩ := h
      rw [e1]
      exact PJ_1 f1
    · obtain ⟨e1, -, f1, -⟩ := h
      rw [e1]
      exact PJ_1 f1
    · obtain ⟨v, -, e1, -, f1, -⟩ := h
      rw [e1]
      exact PJ_1 f1
    · obtain ⟨v, p1, i1, j1, -, g, e1, e2, f1, f2, f3, f4, f5, f6, -⟩ := h
      have a1 := bd _ _ _ _ _ g
      rw [e1]
      exact PJ_app (PJ_app (PJ_app (PJ_1 f1) (ih _ _ _ _ _ (by omega) g)) (PJ_26 f3 f4 (by omega) (by rw [f1]; decide))) (PJ_1 f6)
    · obtain ⟨v, m, i1, j1, -, g, e1, e2, f1, f2, f3, f4, -⟩ := h
      rw [e1]
      exact PJ_app (PJ_app (PJ_1 f1) (gA_pj bd ih m _ _ _ _ (by omega) g)) (PJ_1 f4)
    · obtain ⟨p1, i1, j1, g, e1, e2, f1, f2, -⟩ := h
      rw [e1]
      exact PJ_app (PJ_app (PJ_1 f1) (ih _ _ _ _ _ (by omega) g)) (PJ_1 f2)
    · obtain ⟨p1, i1, j1, p2, i2, j2, g, g2, e1, e2, f1, f2, f3, f4, -⟩ := h
      have a2 := bd _ _ _ _ _ g2
      rw [e1]
      exact PJ_app (PJ_app (PJ_app (PJ_app (PJ_1 f1) (ih _ _ _ _ _ (by omega) g)) (PJ_1 f2)) (ih _ _ _ _ _ (by omega) g2)) (PJ_1 f4)
    · obtain ⟨p1, i1, j1, g, e1, e2, -, -, -, f⟩ := h
      rw [e1]
      rcases f with ⟨f, -⟩ | ⟨f, -⟩ | ⟨f, -⟩ <;> exact PJ_app (ih _ _ _ _ _ (by omega) g) (PJ_1 f)
    · obtain ⟨i1, j1, p2, i2, j2, o, a, g, g2, o1, o2, e1, e2, f1, -⟩ := h
      have a2 := bd _ _ _ _ _ g2
      have ne : ∀ y : Nat, y < 38 → ¬ nI (37 + o) = nI y := fun y hy q => absurd ((nI_eq (a := 37 + o) (b := y) (by omega) (by omega)).mp q) (by omega)
      rw [e1]
      exact PJ_app (PJ_app (ih _ _ _ _ _ (by omega) g) (ih _ _ _ _ _ (by omega) g2)) (PJ_1 f1 (fun y => y.elim (ne 14 (by omega)) (ne 19 (by omega))) (fun y => y.elim (ne 16 (by omega)) (ne 20 (by omega))) (ne 26 (by omega)) (ne 1 (by omega)))
    · obtain ⟨i1, j1, p2, i2, j2, p3, i3, j3, a, g, g2, g3, e1, e2, f1, -⟩ := h
      have a2 := bd _ _ _ _ _ g2
      have a3 := bd _ _ _ _ _ g3
      rw [e1]
      exact PJ_app (PJ_app (PJ_app (ih _ _ _ _ _ (by omega) g) (ih _ _ _ _ _ (by omega) g2)) (ih _ _ _ _ _ (by omega) g3)) (PJ_1 f1)
    · obtain ⟨p1, j1, g, e1, f1, -⟩ := h
      exact PJ_app (PJ_1 f1) (ih _ _ _ _ _ hN g)
theorem gX_pj {p i i' j j' : Nat} (hN : i' ≤ 4000) (h : gX w S T ni p i i' j j') : PJ S i i' m := by
  obtain ⟨n, h⟩ := h
  exact PJ_mo (gE_pj n p i i' j j' hN h) (Nat.zero_le _)
theorem gL_pj {G : Nat → Nat → Nat → Nat → Nat → Nat → Nat → Prop} (hB : ∀ v v' p i i' j j', G v v' p i i' j j' → i < i' ∧ j < j') (hG : ∀ v v' p i i' j j', i' ≤ 4000 → G v v' p i i' j j' → PJ S i i' m) : ∀ k v v' i i' j j', i' ≤ 4000 → gL G k v v' i i' j j' → PJ S i i' m
  | 0, v, v', i, i', j, j', _, h => by rw [h.1]; exact PJ_nil
  | k + 1, v, v', i, i', j, j', hN, h => by
    obtain ⟨i1, j1, p1, v1, h1, h2⟩ := h
    have a2 := hB _ _ _ _ _ _ _ h2
    exact PJ_app (gL_pj hB hG k _ _ _ _ _ _ (by omega) h1) (hG _ _ _ _ _ _ _ hN h2)
theorem gS_pj {D : Nat} : ∀ n v v' p i i' j j', i' ≤ 4000 → gS w S T ni D n v v' p i i' j j' → PJ S i i' n
  | 0, _, _, _, _, _, _, _, _, h => h.elim
  | n + 1, v, v', p, i, i', j, j', hN, h => by
    have ih := gS_pj (D := D) n
    have bd := fun v v' p i i' j j' g => gS_bnd (w := w) (S := S) (T := T) (ni := ni) (D := D) n v v' p i i' j j' g
    rcases h with h | h | h | h | h
    · obtain ⟨⟨v, p1, i1, j1, -, h1, e1, e2, f1, f2, f3, f4, f5, -⟩, -⟩ := h
      rw [e1]
      exact PJ_app (PJ_app (PJ_app (PJ_s f1 (by omega)) (PJ_1 f3)) (gX_pj (by omega) h1)) (PJ_1 f5)
    · obtain ⟨⟨v, p1, i1, j1, p2, i2, j2, -, h1, h2, e1, e2, f1, f2, f3, f4, f5, f6, f7, f8, -⟩, -⟩ := h
      have a1 := gX_bnd h1
      have a2 := gX_bnd h2
      rw [e1]
      exact PJ_app (PJ_app (PJ_app (PJ_app (PJ_app (PJ_s f1 (by omega)) (PJ_1 f3)) (gX_pj (by omega) h1)) (PJ_26 f5 f6 (by omega) (by rw [f3]; decide))) (gX_pj (by omega) h2)) (PJ_1 f8)
    · obtain ⟨d, v, s, r, z, o, j1, -, -, -, -, -, -, e2, f1, -, f3, -, -, -, -, -, -, -, -, -, -, -, -, h⟩ := h
      rcases h with ⟨p1, i1, h1, e1, g1, -⟩ | ⟨e0, e1, g1, -⟩
      · rw [e1]
        exact PJ_app (PJ_app (PJ_app (PJ_s f1 (by omega)) (PJ_1 f3)) (gX_pj (by omega) h1)) (PJ_1 g1)
      · rw [e1]
        exact PJ_app (PJ_app (PJ_s f1 (by omega)) (PJ_1 f3)) (PJ_1 g1)
    · obtain ⟨p1, i1, j1, k2, i2, j2, k3, i3, j3, vw2, h1, h2, h3, e1, e2, f1, f2, f3, f4, f5, f6, f7, f8, -⟩ := h
      have a1 := gX_bnd h1
      have a2 := gL_bnd bd _ _ _ _ _ _ _ h2
      have a3 := gL_bnd bd _ _ _ _ _ _ _ h3
      rw [e1]
      exact PJ_if (PJ_app (PJ_s f1 (by omega)) (gX_pj (by omega) h1)) f3 (PJ_app (PJ_app (gL_pj bd ih _ _ _ _ _ _ _ (by omega) h2) (PJ_1 f5)) (gL_pj bd ih _ _ _ _ _ _ _ (by omega) h3)) f7 f8 (by omega) (Nat.le_refl _)
    · obtain ⟨d, v, s, p1, i1, j1, p2, i2, j2, k3, i3, j3, -, -, -, h1, h2, h3, e1, e2, f1, f2, f3, f4, f5, f6, f7, f8, f9, f10, f11, f12, f13, f14, -⟩ := h
      have a1 := gX_bnd h1
      have a2 := gX_bnd h2
      have a3 := gL_bnd bd _ _ _ _ _ _ _ h3
      rw [e1]
      exact PJ_fo (PJ_app (PJ_app (PJ_app (PJ_app (PJ_app (PJ_s f1 (by omega)) (PJ_1 f3)) (gX_pj (by omega) h1)) (PJ_1 f6)) (gX_pj (by omega) h2)) (PJ_1 f8)) f10 (gL_pj bd ih _ _ _ _ _ _ _ (by omega) h3) f14 (Nat.le_refl _)
theorem par_pj : ∀ k, (∀ a, a < k → S.1 4 (i + a) = 4) → PJ S i (i + k) m
  | 0, _ => PJ_nil
  | k + 1, h => PJ_app (par_pj k (fun a ha => h a (by omega))) (PJ_1 (h k (by omega)))
theorem gJ_pj {Dl D vw vw' p i i' j j' iw iw' : Nat} (hN : i' ≤ 4000) (h : gJ n w S T ni Dl D vw vw' p i i' j j' iw iw') : PJ S i i' 31 := by
  rcases h with ⟨h, -⟩ | ⟨h, -⟩ | ⟨h, -⟩ | ⟨h, -⟩
  · obtain ⟨k, hk, gs⟩ := h
    exact PJ_mo (gS_pj _ _ _ _ _ _ _ _ hN gs) (by omega)
  · obtain ⟨d, v, s, r, z, o, -, -, -, -, -, -, -, -, e1, e2, f1, -⟩ := h
    rw [e1]
    exact PJ_1 f1
  · obtain ⟨d, v, s, r, k, pe, i1, j1, -, -, -, -, -, hp, g, e1, e2, f1, f2, f3, f4, f5, -⟩ := h
    have a1 := gX_bnd g
    rw [e1]
    exact PJ_app (PJ_app (PJ_app (PJ_1 f1) (par_pj k (fun a ha => by obtain ⟨x, s, r, -, -, -, q, -⟩ := hp a ha; exact q))) (gX_pj (by omega) g)) (PJ_1 f5)
  · obtain ⟨pe, i1, j1, g, e1, e2, f1, f2, f3, -⟩ := h
    rw [e1]
    exact PJ_app (PJ_app (PJ_s f1 (by omega)) (gX_pj (by omega) g)) (PJ_1 f3)
end PJS
