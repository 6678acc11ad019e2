/-! SORTS of statements on both sides: one NAME more is visible -/
theorem pig : ∀ (D m : Nat) (f : Nat → Nat), (∀ v, v < m → f v < D) → (∀ v v', v < m → v' < m → f v = f v' → v = v') → m ≤ D
  | 0, m, f, h, _ => by
    by_cases z : m = 0
    · omega
    · have := h 0 (by omega)
      omega
  | D + 1, m, f, h, hi => by
    by_cases z : ∃ v0, v0 < m ∧ f v0 = D
    · obtain ⟨v0, h0, e0⟩ := z
      have ih := pig D (m - 1) (fun v => if v < v0 then f v else f (v + 1)) (fun v hv => ?_) (fun v v' hv hv' e => ?_)
      · omega
      · show (if v < v0 then f v else f (v + 1)) < D
        split
        · have a := h v (by omega)
          have c : ¬ f v = D := fun y => by
            have := hi v v0 (by omega) h0 (y.trans e0.symm)
            omega
          omega
        · have a := h (v + 1) (by omega)
          have c : ¬ f (v + 1) = D := fun y => by
            have := hi (v + 1) v0 (by omega) h0 (y.trans e0.symm)
            omega
          omega
      · have e : (if v < v0 then f v else f (v + 1)) = (if v' < v0 then f v' else f (v' + 1)) := e
        by_cases a1 : v < v0 <;> by_cases a2 : v' < v0
        · rw [if_pos a1, if_pos a2] at e
          exact hi _ _ (by omega) (by omega) e
        · rw [if_pos a1, if_neg a2] at e
          have := hi _ _ (by omega) (by omega) e
          omega
        · rw [if_neg a1, if_pos a2] at e
          have := hi _ _ (by omega) (by omega) e
          omega
        · rw [if_neg a1, if_neg a2] at e
          have := hi _ _ (by omega) (by omega) e
          omega
    · have ih := pig D m f (fun v hv => by
        have a := h v hv
        have c : ¬ f v = D := fun y => z ⟨v, hv, y⟩
        omega) hi
      omega
section SVV
variable {l : Launch} {Gr : zG} {n w : Nat} {dd d a : Nat} {A A' : Nat → Nat → Prop} {b : Nat → Int32} {t N D m tp mp sz mz sc u vw lo hi p i i' j j' x s k r z : Nat} {S S' S'' T T' T'' : zS} {ni : Nat → Nat → Prop}
theorem EVv_k {v : Nat} (h : EVv b t D A S T v) (hs : ∀ c k, (9 ≤ c ∧ c ≤ 15) ∨ (c = 16 ∧ k = v) → S'.1 c k = S.1 c k) (hq : ∀ c k, c = 76 ∨ c = 110 ∨ ((90 ≤ c ∧ c ≤ 97) ∧ k = v) ∨ (c = 73 ∧ (k = 9 ∨ k = 47 ∨ k = 60)) → T'.1 c k = T.1 c k) (hA : ∀ d a, A d a → A' d a) : EVv b t D A' S' T' v := by
  obtain ⟨dd, sp, y, k, e1, e2, e3, e4, e5, e6, e7, e8, e9, e10, e11, e12, e13, ⟨a0, l0, e15, e17, e16⟩, e14⟩ := h
  refine ⟨dd, sp, y, k, e1, (hs 16 v (by omega)).trans e2, e3, (hs 9 dd (by omega)).trans e4, nid_k e5 (hq 73 9 (by omega)) (fun k => hq 76 k (by omega)), (hq 90 v (by omega)).trans e6, e7, (hs 11 dd (by omega)).trans e8, (hq 91 v (by omega)).trans e9, ?_, ?_, ?_, ?_, ⟨a0, l0, (hq 94 v (by omega)).trans e15, fun y => hA _ _ (e17 (y.imp (fun y => (hq 73 47 (by omega)).symm.trans y) id)), fun y => (hs 14 dd (by omega)).trans (e16 y)⟩, fun hk => ?_⟩
  · rw [hq 92 v (by omega), hs 12 dd (by omega)]; exact e10
  · rw [hq 93 v (by omega), hs 13 dd (by omega)]; exact e11
  · rw [hs 12 dd (by omega)]; exact e12
  · rw [hs 13 dd (by omega)]; exact e13
  · obtain ⟨a, qq, g1, g2, g3, g4, g5, g6⟩ := e14 hk
    refine ⟨a, qq, (hs 15 dd (by omega)).trans g1, (hq 97 v (by omega)).trans g2, (hq 96 v (by omega)).trans g3, ⟨g4.1, by rw [hq 73 60 (by omega)]; exact g4.2⟩, g5, fun e he => ?_⟩
    rw [hq 110 (qq + e) (by omega), hs 12 (dd + 1 + e) (by omega)]
    exact g6 e he
/-- one NAME more -/
theorem EV_add (h : EV b t N D m 0 A S T) (h47 : T.1 73 47 = 0) (hS : KSc S S' i i' m sc u) (hT : KSm T T' j j' m sc) (e11 : S'.1 8 11 = nI (m + 1)) (e34 : T'.1 73 34 = nI (m + 1)) (hm : m < 800) (hA : ∀ d a, A d a → A' d a) (hn : EVv b t D A' S' T' m) (h95 : ¬ T'.1 95 m = 0) : EV b t N D (m + 1) 0 A' S' T' := by
  obtain ⟨⟨t1, t2, t3, t4, t5⟩, ⟨v1, v2, v3, v4, v5⟩, h34, hO, hN, hD, hAA⟩ := h
  have s : ∀ c k, (c = 2 ∨ (c = 8 ∧ ¬ k = 11) ∨ (9 ≤ c ∧ c ≤ 15) ∨ (c = 16 ∧ k < m)) → S'.1 c k = S.1 c k := fun c k a => hS.1 c k (by omega) (by omega) (by omega) (by omega) (by omega) (by omega) (by omega) (by omega) (by omega)
  have q : ∀ c k, (c = 76 ∨ c = 77 ∨ c = 110 ∨ ((90 ≤ c ∧ c ≤ 97) ∧ k < m) ∨ (c = 73 ∧ (k = 9 ∨ k = 47 ∨ k = 60))) → T'.1 c k = T.1 c k := fun c k a => hT.1 c k (by omega) (by omega) (by omega) (by omega) (by omega) (by omega)
  refine ⟨⟨?_, t2, (s 8 1 (by omega)).trans t3, NS_k t4 (fun d _ => ⟨s 9 d (by omega), s 10 d (by omega)⟩), t5⟩, ⟨e11, by omega, (s 8 12 (by omega)).trans v3, v4, fun v hv => ?_⟩, e34, ?_, hN, Or.inl ⟨rfl, (q 73 47 (by omega)).trans h47⟩, fun v hv => ?_⟩
  · rw [← t1]
    funext k
    exact s 2 k (by omega)
  · by_cases y : v = m
    · subst y
      obtain ⟨dd, _, _, _, e1, e2, -⟩ := hn
      exact ⟨dd, e1, e2⟩
    · rw [s 16 v (by omega)]
      exact v5 v (by omega)
  · refine ⟨(q 73 9 (by omega)).trans hO.1, fun v hv => ?_, fun v v' a a' q1 q2 q3 q4 q5 q6 q7 => ?_⟩
    · rw [q 76 v (by omega), q 77 v (by omega)]
      exact hO.2.1 v hv
    · rw [q 76 v (by omega)] at q5
      rw [q 76 v' (by omega)] at q6
      exact hO.2.2 v v' a a' q1 q2 q3 q4 q5 q6 q7
  · by_cases y : v = m
    · subst y
      exact ⟨hn, h95⟩
    · have := hAA v (by omega)
      refine ⟨EVv_k this.1 (fun c k a => s c k (by omega)) (fun c k a => q c k (by omega)) hA, ?_⟩
      rw [q 95 v (by omega)]
      exact this.2
theorem kf_none (hm : m ≤ 800) (h12 : S.1 8 12 = 0) (h16 : ∀ v, v < m → ∃ e, e < 800 ∧ S.1 16 v = nI e) : ∀ v, v ≤ m → kf b t S p v = -1 → ∀ u, u < v → ¬ wW b t (S.1 9 (S.1 16 u).toNatClampNeg).toNatClampNeg = wW b t p
  | 0, _, _, u, hu => absurd hu (Nat.not_lt_zero _)
  | v + 1, hv, h, u, hu => by
    by_cases z : (S.1 8 12 ≤ nI v ∨ S.1 11 (S.1 16 v).toNatClampNeg = 4) ∧ wW b t (S.1 9 (S.1 16 v).toNatClampNeg).toNatClampNeg = wW b t p
    · have e : kf b t S p (v + 1) = S.1 16 v := by
        show (if _ then _ else _) = _
        rw [if_pos z]
      rw [e] at h
      obtain ⟨e', he, e16⟩ := h16 v (by omega)
      exact absurd (e16.symm.trans h) (nI_no (by omega))
    · have e : kf b t S p (v + 1) = kf b t S p v := by
        show (if _ then _ else _) = _
        rw [if_neg z]
      rw [e] at h
      by_cases y : u = v
      · subst y
        intro q
        refine z ⟨Or.inl ?_, q⟩
        rw [h12]
        exact nI_le (a := 0) (b := u) (Nat.zero_le _) (by omega)
      · exact kf_none hm h12 h16 v (by omega) h u (by omega)
/-- what isn't found isn't visible, and there is room for it -/
theorem nvis (h : EV b t N D m 0 A S T) (hV : VSA S A m vw) (hf : kFind b t S s = -1) (hd : d < D) (h9 : S.1 9 d = nI s) (hs : s ≤ t) : (∀ v, v < m → ¬ S.1 16 v = nI d) ∧ (∀ a, ¬ A d a) ∧ m < 800 := by
  obtain ⟨⟨-, ht, -, -, hD⟩, ⟨v1, v2, v3, -, v5⟩, -⟩ := h
  have h16 : ∀ v, v < m → ∃ e, e < 800 ∧ S.1 16 v = nI e := fun v hv => by
    obtain ⟨e, he, e16⟩ := v5 v hv
    exact ⟨e, by omega, e16⟩
  have e0 : kFind b t S s = kf b t S s m := by
    unfold kFind
    rw [v1, nI_clamp (by omega)]
  rw [e0] at hf
  have no := kf_none v2 (by rw [v3]; rfl) h16 m (Nat.le_refl _) hf
  have a1 : ∀ v, v < m → ¬ S.1 16 v = nI d := fun v hv y => by
    refine no v hv ?_
    rw [y, nI_clamp (by omega), h9, nI_clamp (by omega)]
  refine ⟨a1, fun a y => ?_, ?_⟩
  · obtain ⟨⟨v, hv, e⟩, -⟩ := hV.2 d a y
    exact a1 v hv e
  · have := pig D (m + 1) (fun v => if v = m then d else (S.1 16 v).toNatClampNeg) (fun v hv => ?_) (fun v v' hv hv' e => ?_)
    · omega
    · show (if v = m then d else (S.1 16 v).toNatClampNeg) < D
      split
      · exact hd
      · obtain ⟨e, he, e16⟩ := v5 v (by omega)
        rw [e16, nI_clamp (by omega)]
        exact he
    · have e : (if v = m then d else (S.1 16 v).toNatClampNeg) = (if v' = m then d else (S.1 16 v').toNatClampNeg) := e
      by_cases q1 : v = m <;> by_cases q2 : v' = m
      · omega
      · rw [if_pos q1, if_neg q2] at e
        obtain ⟨e2, he, e16⟩ := v5 v' (by omega)
        rw [e16, nI_clamp (by omega)] at e
        exact absurd (by rw [e16, e]) (a1 v' (by omega))
      · rw [if_neg q1, if_pos q2] at e
        obtain ⟨e2, he, e16⟩ := v5 v (by omega)
        rw [e16, nI_clamp (by omega)] at e
        exact absurd (by rw [e16, e]) (a1 v (by omega))
      · rw [if_neg q1, if_neg q2] at e
        obtain ⟨e1, he1, f1⟩ := v5 v (by omega)
        obtain ⟨e2, he2, f2⟩ := v5 v' (by omega)
        rw [f1, f2, nI_clamp (by omega), nI_clamp (by omega)] at e
        exact hV.1.1 v v' (by omega) (by omega) (by rw [f1, f2, e])
/-- a later state with one NAME more -/
theorem LSt_add {tp' mp' vw' lo' hi' i1 i2 j1 j2 : Nat} (h : LSt b t N D m A tp mp sz mz sc u vw lo hi S T) (hS : KSc S S' i1 i2 m sc u) (hT : KSm T T' j1 j2 m sc) (hm : m < 800) (hnv : ∀ v, v < m → ¬ S.1 16 v = nI d) (e11 : S'.1 8 11 = nI (m + 1)) (e34 : T'.1 73 34 = nI (m + 1)) (e16 : S'.1 16 m = nI d) (hn : EVv b t D (adA A d a) S' T' m) (h95 : ¬ T'.1 95 m = 0) (hd3 : d < 800) (hk3 : ¬ S'.1 11 d = 3) (h11 : S'.1 11 d = 1 → ∃ z, z ≤ 64 ∧ S'.1 13 d = nI z ∧ a + max 1 z ≤ vw') (e5 : S'.1 3 5 = 0) (e3 : S'.1 39 3 = nI tp') (e7 : T'.1 73 7 = 0) (e43 : T'.1 73 43 = nI mp') (e56 : T'.1 73 56 = 0) {sc' : Nat} (hsc : sc ≤ sc') (es : S'.1 39 5 = nI sc') (e49 : T'.1 73 49 = nI sc') (e9 : S'.1 39 9 = nI u) (e10 : S'.1 39 10 = nI vw') (hw : vw ≤ vw' ∧ vw' ≤ 256) (hB : BDS S' u lo' hi') : LSt b t N D (m + 1) (adA A d a) tp' mp' sz mz sc' u vw' lo' hi' S' T' := by
  obtain ⟨⟨hE, ⟨x1, x2, x3⟩, x4, ⟨x5, x6, x7⟩, x8, x9⟩, h47, -, ⟨-, hu⟩, -, -, hV⟩ := h
  have s16 : ∀ v, v < m → S'.1 16 v = S.1 16 v := fun v hv => hS.1 16 v (by omega) (by omega) (by omega) (by omega) (by omega) (by omega) (by omega) (by omega) (by omega)
  have V := VSA_s hV hS hw.1
  refine ⟨⟨EV_add hE h47 hS hT e11 e34 hm (fun _ _ y => Or.inl y) hn h95, ⟨(hS.1 3 4 (by omega) (by omega) (by omega) (by omega) (by omega) (by omega) (by omega) (by omega) (by omega)).trans x1, x2, e5⟩, e3, ⟨(hT.1 73 13 (by omega) (by omega) (by omega) (by omega) (by omega) (by omega)).trans x5, x6, e7⟩, e43, e56⟩, (hT.1 73 47 (by omega) (by omega) (by omega) (by omega) (by omega) (by omega)).trans h47, ⟨es, e49⟩, ⟨e9, by omega⟩, ⟨e10, hw.2⟩, hB, ⟨fun v v' q1 q2 q3 => ?_, fun v q1 => ?_⟩, fun e x y => ?_⟩
  · by_cases y1 : v = m <;> by_cases y2 : v' = m
    · omega
    · rw [y1, e16, s16 v' (by omega)] at q3
      exact absurd q3.symm (hnv v' (by omega))
    · rw [y2, e16, s16 v (by omega)] at q3
      exact absurd q3 (hnv v (by omega))
    · exact V.1.1 v v' (by omega) (by omega) q3
  · by_cases y1 : v = m
    · rw [y1, e16, nI_clamp (by omega)]
      exact hk3
    · exact V.1.2 v (by omega)
  · rcases y with y | ⟨rfl, rfl⟩
    · obtain ⟨⟨v, v1, v2⟩, v3⟩ := V.2 e x y
      exact ⟨⟨v, by omega, v2⟩, v3⟩
    · exact ⟨⟨m, by omega, e16⟩, h11⟩
/-! net effects of statements -/
theorem gL_ne {G : Nat → Nat → Nat → Nat → Nat → Nat → Nat → Prop} (hG : ∀ v v' p i i' j j', G v v' p i i' j j' → i' ≤ 4000 → NE S i i' 0 0) (hB : ∀ v v' p i i' j j', G v v' p i i' j j' → i < i' ∧ j < j') : ∀ k v v' i i' j j', gL G k v v' i i' j j' → i' ≤ 4000 → NE S i i' 0 0
  | 0, v, v', i, i', j, j', h, _ => by
    rw [h.1]
    exact NE_nil
  | k + 1, v, v', i, i', j, j', h, hb => by
    obtain ⟨i1, j1, p1, v1, h1, h2⟩ := h
    have := hB _ _ _ _ _ _ _ h2
    exact NE_eq (NE_app (gL_ne hG hB k _ _ _ _ _ _ h1 (by omega)) (hG _ _ _ _ _ _ _ h2 hb)) (by omega) (by omega)
theorem gX_ne (h : gX w S T ni p i i' j j') (hb : i' ≤ 4000) : NE S i i' 1 1 := by
  obtain ⟨k, h⟩ := h
  exact (gE_ne k _ _ _ _ _ h hb).1
theorem gS_ne : ∀ n v v' p i i' j j', gS w S T ni D n v v' p i i' j j' → i' ≤ 4000 → NE S i i' 0 0
  | 0, _, _, _, _, _, _, _, h, _ => h.elim
  | n + 1, v, v', p, i, i', j, j', h, hb => by
    have ih := gS_ne n
    have bd := gS_bnd (w := w) (S := S) (T := T) (ni := ni) (D := D) n
    rcases h with ⟨h, -⟩ | ⟨h, -⟩ | h | h | h
    · obtain ⟨v, p1, i1, j1, hv, h1, e1, e2, f1, f2, f3, f4, f5, -⟩ := h
      have := gX_bnd h1
      rw [e1]
      exact NE_eq (NE_app (NE_app (NE_app (NE_1 (e1 := 0) (e2 := 0) f1 (by decide) (by decide) (by decide)) (NE_1 (e1 := 0) (e2 := 0) f3 (by decide) (by decide) (by decide))) (gX_ne h1 (by omega))) (NE_1 (e1 := -1) (e2 := -1) f5 (by decide) (by decide) (by decide))) (by omega) (by omega)
    · obtain ⟨v, p1, i1, j1, p2, i2, j2, hv, h1, h2, e1, e2, f1, f2, f3, f4, f5, f6, f7, f8, -⟩ := h
      have := gX_bnd h1
      have := gX_bnd h2
      rw [e1]
      exact NE_eq (NE_app (NE_app (NE_app (NE_app (NE_app (NE_1 (e1 := 0) (e2 := 0) f1 (by decide) (by decide) (by decide)) (NE_1 (e1 := 0) (e2 := 0) f3 (by decide) (by decide) (by decide))) (gX_ne h1 (by omega))) (NE_1 (e1 := -1) (e2 := 0) f5 (by decide) (by decide) (by decide))) (gX_ne h2 (by omega))) (NE_1 (e1 := -1) (e2 := -2) f8 (by decide) (by decide) (by decide))) (by omega) (by omega)
    · obtain ⟨d, v, s, r, z, o, j1, -, -, -, -, -, -, e2, f1, f2, f3, f4, f5, -, -, -, -, -, -, -, -, -, -, h⟩ := h
      have n2 := NE_app (NE_1 (S := S) (e1 := 0) (e2 := 0) f1 (by decide) (by decide) (by decide)) (NE_1 (e1 := 0) (e2 := 0) f3 (by decide) (by decide) (by decide))
      rcases h with ⟨p1, i1, h1, e1, k1, -⟩ | ⟨e0, e1, k1, -⟩
      · have := gX_bnd h1
        rw [e1]
        exact NE_eq (NE_app (NE_app n2 (gX_ne h1 (by omega))) (NE_1 (e1 := -1) (e2 := -1) k1 (by decide) (by decide) (by decide))) (by omega) (by omega)
      · rw [e1]
        exact NE_eq (NE_app n2 (NE_1 (e1 := 0) (e2 := 0) k1 (by decide) (by decide) (by decide))) (by omega) (by omega)
    · obtain ⟨p1, i1, j1, k2, i2, j2, k3, i3, j3, vw2, h1, h2, h3, e1, e2, f1, f2, f3, f4, f5, f6, f7, -⟩ := h
      have := gX_bnd h1
      have b2 := gL_bnd bd _ _ _ _ _ _ _ h2
      have b3 := gL_bnd bd _ _ _ _ _ _ _ h3
      rw [e1]
      exact NE_eq (NE_app (NE_app (NE_app (NE_app (NE_app (NE_app (NE_1 (e1 := 0) (e2 := 0) f1 (by decide) (by decide) (by decide)) (gX_ne h1 (by omega))) (NE_1 (e1 := -1) (e2 := 0) f3 (by decide) (by decide) (by decide))) (gL_ne ih bd _ _ _ _ _ _ _ h2 (by omega))) (NE_1 (e1 := 0) (e2 := 0) f5 (by decide) (by decide) (by decide))) (gL_ne ih bd _ _ _ _ _ _ _ h3 (by omega))) (NE_1 (e1 := 0) (e2 := -1) f7 (by decide) (by decide) (by decide))) (by omega) (by omega)
    · obtain ⟨d, v, s, p1, i1, j1, p2, i2, j2, k3, i3, j3, -, -, -, h1, h2, h3, e1, e2, f1, f2, f3, f4, f5, f6, f7, f8, f9, f10, f11, f12, f13, f14, -⟩ := h
      have := gX_bnd h1
      have := gX_bnd h2
      have b3 := gL_bnd bd _ _ _ _ _ _ _ h3
      rw [e1]
      exact NE_eq (NE_app (NE_app (NE_app (NE_app (NE_app (NE_app (NE_app (NE_app (NE_1 (e1 := 0) (e2 := 0) f1 (by decide) (by decide) (by decide)) (NE_1 (e1 := 0) (e2 := 0) f3 (by decide) (by decide) (by decide))) (gX_ne h1 (by omega))) (NE_1 (e1 := -1) (e2 := 0) f6 (by decide) (by decide) (by decide))) (gX_ne h2 (by omega))) (NE_1 (e1 := -1) (e2 := 0) f8 (by decide) (by decide) (by decide))) (NE_1 (e1 := 0) (e2 := -2) f10 (by decide) (by decide) (by decide))) (gL_ne ih bd _ _ _ _ _ _ _ h3 (by omega))) (NE_1 (e1 := 0) (e2 := 0) f14 (by decide) (by decide) (by decide))) (by omega) (by omega)
theorem gL_vw {G : Nat → Nat → Nat → Nat → Nat → Nat → Nat → Prop} (hG : ∀ v v' p i i' j j', G v v' p i i' j j' → v ≤ v') : ∀ k v v' i i' j j', gL G k v v' i i' j j' → v ≤ v'
  | 0, v, v', i, i', j, j', h => Nat.le_of_eq h.2.2.symm
  | k + 1, v, v', i, i', j, j', h => by
    obtain ⟨i1, j1, p1, v1, h1, h2⟩ := h
    exact Nat.le_trans (gL_vw hG k _ _ _ _ _ _ h1) (hG _ _ _ _ _ _ _ h2)
theorem gS_vw : ∀ n v v' p i i' j j', gS w S T ni D n v v' p i i' j j' → v ≤ v'
  | 0, _, _, _, _, _, _, _, h => h.elim
  | n + 1, v, v', p, i, i', j, j', h => by
    have ih := gS_vw n
    rcases h with ⟨-, h⟩ | ⟨-, h⟩ | h | h | h
    · omega
    · omega
    · obtain ⟨d, vv, s, r, z, o, j1, -, -, -, -, -, ⟨h1, h2, h3⟩, -⟩ := h
      omega
    · obtain ⟨p1, i1, j1, k2, i2, j2, k3, i3, j3, vw2, -, h2, h3, -⟩ := h
      exact Nat.le_trans (gL_vw ih _ _ _ _ _ _ _ h2) (gL_vw ih _ _ _ _ _ _ _ h3)
    · obtain ⟨d, vv, s, p1, i1, j1, p2, i2, j2, k3, i3, j3, -, -, -, -, -, h3, -⟩ := h
      exact gL_vw ih _ _ _ _ _ _ _ h3
/-! worths that hold a size -/
theorem wz_all : ((List.range 65).all fun z => decide ((((lN (256 * z)) >>> ((8 : Int32).toInt64 &&& 63)) &&& 255).toInt32 = nI z) && decide ((((lN (65536 + 256 * z)) >>> ((8 : Int32).toInt64 &&& 63)) &&& 255).toInt32 = nI z) && decide (lg_cmp (lN (256 * z)) 65536 < 0) && decide (¬ lg_cmp (lN (65536 + 256 * z)) 65536 < 0)) = true := by decide +kernel
theorem wz {z : Nat} (hz : z ≤ 64) : (((lN (256 * z)) >>> ((8 : Int32).toInt64 &&& 63)) &&& 255).toInt32 = nI z ∧ (((lN (65536 + 256 * z)) >>> ((8 : Int32).toInt64 &&& 63)) &&& 255).toInt32 = nI z ∧ lg_cmp (lN (256 * z)) 65536 < 0 ∧ ¬ lg_cmp (lN (65536 + 256 * z)) 65536 < 0 := by
  have a := List.all_eq_true.mp wz_all z (List.mem_range.mpr (by omega))
  rw [Bool.and_eq_true, Bool.and_eq_true, Bool.and_eq_true] at a
  exact ⟨of_decide_eq_true a.1.1.1, of_decide_eq_true a.1.1.2, of_decide_eq_true a.1.2, of_decide_eq_true a.2⟩
theorem wi_all : ((List.range 16).all fun o => (List.range 65).all fun z => decide (((lN (256 * o + z)) &&& 255).toInt32 = nI z)) = true := by decide +kernel
theorem wi {o z : Nat} (ho : o < 16) (hz : z ≤ 64) : ((lN (256 * o + z)) &&& 255).toInt32 = nI z := by
  have a := List.all_eq_true.mp wi_all o (List.mem_range.mpr (by omega))
  exact of_decide_eq_true (List.all_eq_true.mp a z (List.mem_range.mpr (by omega)))
end SVV
