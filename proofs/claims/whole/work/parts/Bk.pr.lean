/-! SORTS of the whole PROGRAM on both sides -/
abbrev hxL (S0 : zS) : Nat → Nat → Nat → Nat → Prop := fun i i' p p' => hxS S0 i i' p p' ∧ lnI S0 i i' p p' ∧ PJ S0 i i' 31
def aP (n w D : Nat) (S T : zS) (H : Nat → Nat → Nat → Nat → Prop) : Nat → (Nat → Nat → Prop) → Nat → Nat → Nat → Nat → Nat → Prop
  | 0, A, vw, iw, i, j, _ => i = 0 ∧ j = 0 ∧ iw = 0 ∧ vw = 0 ∧ A = fun _ _ => False
  | k + 1, A, vw, iw, i, j, p' => ∃ i0 j0 iw0 vw0 A0 p, aP n w D S T H k A0 vw0 iw0 i0 j0 p ∧ aJ n w D S T A0 A vw0 vw iw0 iw p i0 i j0 j ∧ p < p' ∧ H i0 i p p'
section PRS
variable {l : Launch} {Gr : zG} {n w : Nat} {d : Nat} {A A' : Nat → Nat → Prop} {b : Nat → Int32} {t N D D' Dl m tp mp sz mz vw vw' iw iw' P p p' i i' i1 i2 i3 j j' j1 j2 j3 k : Nat} {S0 T0 S S' S1 T T' T1 : zS}
theorem KIc_tr {i1 i2 : Nat} (h1 : KIc S S' i i1) {S'' : zS} (h2 : KIc S' S'' i2 i') (a1 : i1 ≤ i') (a2 : i ≤ i2) : KIc S S'' i i' := ⟨fun c k q1 q2 q3 q4 q5 q6 => (h2.1 c k q1 (fun y => q2 ⟨y.1, by omega⟩) q3 q4 q5 q6).trans (h1.1 c k q1 (fun y => q2 ⟨y.1, by omega⟩) q3 q4 q5 q6), fun c k => (h2.2 c k).trans (h1.2 c k)⟩
theorem KIm_tr {j1 j2 : Nat} (h1 : KIm T T' j j1) {T'' : zS} (h2 : KIm T' T'' j2 j') (a1 : j1 ≤ j') (a2 : j ≤ j2) : KIm T T'' j j' := ⟨fun c k q1 q2 q3 q4 => (h2.1 c k q1 q2 (fun y => q3 ⟨y.1, by omega⟩) q4).trans (h1.1 c k q1 q2 (fun y => q3 ⟨y.1, by omega⟩) q4), fun c k => (h2.2 c k).trans (h1.2 c k)⟩
theorem KIc_rfl : KIc S S i i' := ⟨fun _ _ _ _ _ _ _ _ => rfl, fun _ _ => rfl⟩
theorem KIm_rfl : KIm T T j j' := ⟨fun _ _ _ _ _ _ => rfl, fun _ _ => rfl⟩
theorem anS_i (h : KIc S S' i2 i3) (a : i' ≤ i2) : anS S S' i i' := fun c k q => h.1 c k (by omega) (by omega) (by omega) (by omega) (by omega) (by omega)
theorem anU_i (h : KIm T T' j2 j3) (a : j' ≤ j2) : anU T T' j j' := ⟨fun c k q => h.1 c k (by omega) (by omega) (by omega) (by omega), fun k => h.2 82 k⟩
theorem cgS_i (h : KIc S S' i i1) (hs : cgS S0 S i2 i') (a : i1 ≤ i2) : cgS S0 S' i2 i' := fun y q1 q2 => by
  obtain ⟨e1, e2, e3, e4⟩ := hs y q1 q2
  exact ⟨(h.1 4 y (by omega) (by omega) (by omega) (by omega) (by omega) (by omega)).trans e1, (h.1 5 y (by omega) (by omega) (by omega) (by omega) (by omega) (by omega)).trans e2, (h.1 6 y (by omega) (by omega) (by omega) (by omega) (by omega) (by omega)).trans e3, (h.1 7 y (by omega) (by omega) (by omega) (by omega) (by omega) (by omega)).trans e4⟩
theorem cgU_i (h : KIm T T' j j1) (hs : cgU T0 T j2 j') (a : j1 ≤ j2) : cgU T0 T' j2 j' := ⟨fun y q1 q2 => by
  obtain ⟨e1, e2, e3, e4, e5⟩ := hs.1 y q1 q2
  exact ⟨(h.1 78 y (by omega) (by omega) (by omega) (by omega)).trans e1, (h.1 79 y (by omega) (by omega) (by omega) (by omega)).trans e2, (h.1 80 y (by omega) (by omega) (by omega) (by omega)).trans e3, (h.1 81 y (by omega) (by omega) (by omega) (by omega)).trans e4, (h.2 82 y).trans e5⟩, fun y q1 q2 => (h.1 89 y (by omega) (by omega) (by omega) (by omega)).trans (hs.2 y q1 q2)⟩
theorem nm_i (h : KIc S S' i i1) (hs : nmS S0 S D) : nmS S0 S' D := fun e he => by
  have s : ∀ c, 9 ≤ c → c ≤ 15 → S'.1 c e = S.1 c e := fun c a1 a2 => h.1 c e (by omega) (by omega) (by omega) (by omega) (by omega) (by omega)
  obtain ⟨e1, e2, e3, e4, e5, e6, e7⟩ := hs e he
  exact ⟨(s 9 (by omega) (by omega)).trans e1, (s 10 (by omega) (by omega)).trans e2, (s 11 (by omega) (by omega)).trans e3, (s 12 (by omega) (by omega)).trans e4, (s 13 (by omega) (by omega)).trans e5, (s 14 (by omega) (by omega)).trans e6, (s 15 (by omega) (by omega)).trans e7⟩
theorem nid_i {x s : Nat} (h : KIm T T' j j1) (hs : nid b t T x s) : nid b t T' x s := nid_k hs (h.1 73 9 (by omega) (by omega) (by omega) (by omega)) (fun k => h.1 76 k (by omega) (by omega) (by omega) (by omega))
/-- an ITEM's annotated codes stay -/
theorem aJ_k (hD : D ≤ D') (h : aJ n w D S T A A' vw vw' iw iw' p i i' j j') (hS : KIc S S' i2 i3) (hT : KIm T T' j2 j3) (a1 : i' ≤ i2) (a2 : j' ≤ j2) : aJ n w D' S' T' A A' vw vw' iw iw' p i i' j j' := by
  have rows : ∀ c k, 9 ≤ c → c ≤ 15 → S'.1 c k = S.1 c k := fun c k q1 q2 => hS.1 c k (by omega) (by omega) (by omega) (by omega) (by omega) (by omega)
  have cs : ∀ c k, 4 ≤ c → c ≤ 7 → k < i' → S'.1 c k = S.1 c k := fun c k q1 q2 q3 => hS.1 c k (by omega) (by omega) (by omega) (by omega) (by omega) (by omega)
  have ct : ∀ c k, 78 ≤ c → c ≤ 81 → k < j' → T'.1 c k = T.1 c k := fun c k q1 q2 q3 => hT.1 c k (by omega) (by omega) (by omega) (by omega)
  rcases h with ⟨h, e⟩ | ⟨h, e⟩ | ⟨h, e⟩ | ⟨h, e⟩
  · exact Or.inl ⟨aT_D hD h (anS_i hS a1) (anU_i hT a2), e⟩
  · obtain ⟨e', r, z, o, h1, h2, h3, h4, h5, h6, h7, h8, h9, h10, h11, h12, e1, e2, f1, f2, f3, f4, f5, f6⟩ := h
    exact Or.inr (Or.inl ⟨⟨e', r, z, o, by omega, (rows 11 e' (by omega) (by omega)).trans h2, (rows 12 e' (by omega) (by omega)).trans h3, (rows 13 e' (by omega) (by omega)).trans h4, (rows 14 e' (by omega) (by omega)).trans h5, h6, h7, h8, h9, h10, h11, h12, e1, e2, (cs 4 i (by omega) (by omega) (by omega)).trans f1, (ct 78 j (by omega) (by omega) (by omega)).trans f2, (ct 78 (j + 1) (by omega) (by omega) (by omega)).trans f3, (ct 80 (j + 1) (by omega) (by omega) (by omega)).trans f4, (hT.2 82 _).trans f5, fun a q1 q2 => ⟨(hS.1 18 a (by omega) (by omega) (by omega) (by omega) (by omega) (by omega)).trans (f6 a q1 q2).1, (hS.1 19 a (by omega) (by omega) (by omega) (by omega) (by omega) (by omega)).trans (f6 a q1 q2).2⟩⟩, e⟩)
  · obtain ⟨e', r, k, i1, j1, h1, h2, h3, h4, h5, h6, h7, h8, hx, h9, h10, e1, e2, f1, f2, f3, g1, g2, g3, g4, g5⟩ := h
    have bx := aX_bnd hx
    refine Or.inr (Or.inr (Or.inl ⟨⟨e', r, k, i1, j1, by omega, (rows 11 e' (by omega) (by omega)).trans h2, (rows 12 e' (by omega) (by omega)).trans h3, h4, (rows 13 e' (by omega) (by omega)).trans h5, (rows 14 e' (by omega) (by omega)).trans h6, (rows 15 e' (by omega) (by omega)).trans h7, fun a ha => ?_, aX_cong hD (fun d' a' y => ?_) hx (anS_i hS (by omega)) (anU_T (anU_i hT (by omega))), h9, h10, e1, e2, (cs 4 i (by omega) (by omega) (by omega)).trans f1, (cs 7 i (by omega) (by omega) (by omega)).trans f2, (cs 4 i1 (by omega) (by omega) (by omega)).trans f3, (ct 78 j (by omega) (by omega) (by omega)).trans g1, (ct 80 j (by omega) (by omega) (by omega)).trans g2, (hT.2 82 _).trans g3, (ct 78 (j + 1 + k) (by omega) (by omega) (by omega)).trans g4, (ct 78 j1 (by omega) (by omega) (by omega)).trans g5⟩, e⟩))
    · obtain ⟨y1, y2, y3, ⟨ra, y4, y5⟩, y6, y7⟩ := h8 a ha
      exact ⟨(rows 11 _ (by omega) (by omega)).trans y1, (rows 13 _ (by omega) (by omega)).trans y2, (rows 14 _ (by omega) (by omega)).trans y3, ⟨ra, y4, (rows 12 _ (by omega) (by omega)).trans y5⟩, (cs 4 _ (by omega) (by omega) (by omega)).trans y6, (ct 78 _ (by omega) (by omega) (by omega)).trans y7⟩
    · rcases y with y | y
      · exact Or.inl ⟨y.1, (rows 11 d' (by omega) (by omega)).trans y.2⟩
      · exact Or.inr y
  · obtain ⟨r, i1, j1, hr, hx, e1, e2, f1, f2, f3, f4, g1, g2, g3, g4, g5⟩ := h
    have bx := aX_bnd hx
    exact Or.inr (Or.inr (Or.inr ⟨⟨r, i1, j1, hr, aX_cong hD (fun _ _ y => y) hx (anS_i hS (by omega)) (anU_T (anU_i hT (by omega))), e1, e2, (cs 4 i (by omega) (by omega) (by omega)).trans f1, (cs 6 i (by omega) (by omega) (by omega)).trans f2, (cs 4 i1 (by omega) (by omega) (by omega)).trans f3, (cs 5 i1 (by omega) (by omega) (by omega)).trans f4, (ct 78 j (by omega) (by omega) (by omega)).trans g1, (ct 81 j (by omega) (by omega) (by omega)).trans g2, (ct 78 j1 (by omega) (by omega) (by omega)).trans g3, (ct 80 j1 (by omega) (by omega) (by omega)).trans g4, (ct 78 (j1 + 1) (by omega) (by omega) (by omega)).trans g5⟩, e⟩))
theorem aJ_bnd (h : aJ n w D S T A A' vw vw' iw iw' p i i' j j') : i < i' ∧ j < j' := by
  rcases h with ⟨h, -⟩ | ⟨h, -⟩ | ⟨h, -⟩ | ⟨h, -⟩
  · exact aT_bnd h
  · obtain ⟨e', r, z, o, -, -, -, -, -, -, -, -, -, -, -, -, e1, e2, -⟩ := h
    omega
  · obtain ⟨e', r, k, i1, j1, -, -, -, -, -, -, -, -, hx, -, -, e1, e2, -⟩ := h
    have := aX_bnd hx
    omega
  · obtain ⟨r, i1, j1, hr, hx, e1, e2, -⟩ := h
    have := aX_bnd hx
    omega
theorem aP_k {H : Nat → Nat → Nat → Nat → Prop} (hD : D ≤ D') (hS : KIc S S' i2 i3) (hT : KIm T T' j2 j3) : ∀ k A vw iw i j p', aP n w D S T H k A vw iw i j p' → i ≤ i2 → j ≤ j2 → aP n w D' S' T' H k A vw iw i j p'
  | 0, A, vw, iw, i, j, _, h, _, _ => h
  | k + 1, A, vw, iw, i, j, p', h, a1, a2 => by
    obtain ⟨i0, j0, iw0, vw0, A0, p, h0, h1, h2⟩ := h
    have bd := aJ_bnd h1
    exact ⟨i0, j0, iw0, vw0, A0, p, aP_k hD hS hT k _ _ _ _ _ _ h0 (by omega) (by omega), aJ_k hD h1 hS hT a1 a2, h2⟩
theorem HB_hx (h : hxS S0 i i' p p') (h1 : (p' : Int) - p ≤ 4000) : HB S0 i i' 0 0 0 := fun y q1 q2 => by
  have := h.2.2.2.1 y q1 q2
  omega
theorem gP_bnd : ∀ k i j iw vw D p, gP n w S0 T0 (nid b t T0) k i j iw vw D p → 0 ≤ i
  | _, _, _, _, _, _, _, _ => Nat.zero_le _
/-- some ITEMs' SORTS goes alike -/
theorem pr_all (hg : ip_gk (lg_tbl, vwCl, Gr)) (hn16 : n ≤ 16) {Df : Nat} (hN : NS b t Df S0) (h8 : Df ≤ 800) (ht : t ≤ 4000) (cs : cgS S0 S 0 sz) (ct : cgU T0 T 0 mz) (hn : nmS S0 S Df) (h18 : ∀ c k, c = 18 ∨ c = 19 → S.1 c k = S0.1 c k) (hni : ∀ v p, nid b t T0 v p → nid b t T v p) (h : LIt b t N 0 0 (fun _ _ => False) sz mz 0 0 0 S T) : ∀ k i j iw vw D p, gP n w S0 T0 (nid b t T0) k i j iw vw D p → i ≤ sz → j ≤ mz → D ≤ Df → p ≤ t →
    (∃ m A P S' T', CG l Gr n w d S 0 S' i ∧ S' = kR b t (i - 0) 0 S ∧ RG l Gr n w d T 0 T' j ∧ LIt b t N D m A sz mz vw iw P S' T' ∧ KIc S S' 0 i ∧ KIm T T' 0 j ∧ aP n w D S' T' (hxL S0) k A vw iw i j p) ∨ FLT l Gr n w d b t S T 0 i 0
  | 0, i, j, iw, vw, D, p, g, _, _, _, _ => by
    obtain ⟨e1, e2, e3, e4, e5⟩ := g
    subst e1 e2 e3 e4 e5
    exact Or.inl ⟨0, _, 0, S, T, CG_rfl, rfl, RG_rfl, h, KIc_rfl, KIm_rfl, rfl, rfl, rfl, rfl, rfl⟩
  | k + 1, i, j, iw, vw, D, p', g, hi, hj, hD, hp => by
    obtain ⟨i0, j0, iw0, vw0, D0, p, g0, g1, hx, hpp, h5, hln⟩ := g
    have bd := gJ_bnd g1
    rcases pr_all hg hn16 hN h8 ht cs ct hn h18 hni h k i0 j0 iw0 vw0 D0 p g0 (by omega) (by omega) (by omega) (by omega) with ⟨m, A, P, S1, T1, a1, a2, a3, a4, a5, a6, a7⟩ | hF
    · have d0 : 5 * D0 ≤ p := by
        cases k with
        | zero =>
          obtain ⟨-, -, -, -, e⟩ := g0
          omega
        | succ k =>
          obtain ⟨_, _, _, _, _, _, _, _, _, _, e, _⟩ := g0
          exact e
      have hnm : nmS S0 S1 Df := nm_i a5 hn
      have hNS : NS b t D S1 := fun e he => by
        obtain ⟨s, q1, q2, q3⟩ := hN e (by omega)
        have := hnm e (by omega)
        exact ⟨s, q1, this.1.trans q2, this.2.1.trans q3⟩
      rcases it_all (l := l) (Gr := Gr) (n := n) (w := w) (d := d) (p := p) hg hn16 g1 (cgS_i a5 (fun y q1 q2 => cs y (Nat.zero_le _) (by omega)) (Nat.le_refl _)) (cgU_i a6 ⟨fun y q1 q2 => ct.1 y (Nat.zero_le _) (by omega), fun y q1 q2 => ct.2 y (Nat.zero_le _) (by omega)⟩ (Nat.le_refl _)) (fun e he => hnm e (by omega)) (fun c k' hc => (a5.1 c k' (by omega) (by omega) (by omega) (by omega) (by omega) (by omega)).trans (h18 c k' hc)) (fun v p y => nid_i a6 (hni v p y)) a4 hNS (by omega) (by omega) hi hj (HB_hx hx (by omega)) with ⟨m', A', P', S2, T2, c1, c2, c3, c4, c5, c6, c7⟩ | hF
      · exact Or.inl ⟨m', A', P', S2, T2, CG_tr a1 c1, kR_cat (i := 0) a2 c2 (Nat.zero_le _) (by omega), RG_tr a3 c3, c4, KIc_tr a5 c5 (by omega) (Nat.zero_le _), KIm_tr a6 c6 (by omega) (Nat.zero_le _), i0, j0, iw0, vw0, A, p, aP_k bd.2.2.2 c5 c6 k _ _ _ _ _ _ a7 (Nat.le_refl _) (Nat.le_refl _), c7, hpp, hx, hln, gJ_pj (by have := a4.1.1.2.1.2.1; omega) g1⟩
      · exact Or.inr (FLT_pre a1 a2 a3 (Nat.zero_le _) hF)
    · exact Or.inr (FLT_up hF (by omega))
end PRS
