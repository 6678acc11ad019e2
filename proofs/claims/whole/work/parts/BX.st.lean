/-! SORTS of statements on both sides: outcomes; targets -/
theorem ip_min_n {x y : Nat} (hx : x < 100000) (hy : y < 100000) : ip_min (nI x) (nI y) = nI (min x y) := by
  unfold ip_min
  by_cases z : y < x
  · rw [if_pos (nI_lt z (by omega)), Nat.min_eq_right (Nat.le_of_lt z)]
  · rw [if_neg (nI_nlt (a := y) (b := x) (by omega) (by omega)), Nat.min_eq_left (by omega)]
theorem ip_max_n {x y : Nat} (hx : x < 100000) (hy : y < 100000) : ip_max (nI x) (nI y) = nI (max x y) := by
  unfold ip_max
  by_cases z : x < y
  · rw [if_pos (nI_lt z (by omega)), Nat.max_eq_right (Nat.le_of_lt z)]
  · rw [if_neg (nI_nlt (a := x) (b := y) (by omega) (by omega)), Nat.max_eq_left (by omega)]
def STO (l : Launch) (Gr : zG) (n w d : Nat) (b : Nat → Int32) (t N D sz mz sc u lo hi vw vw' m : Nat) (A : Nat → Nat → Prop) (S T : zS) (p i i' j j' : Nat) : Prop := (∃ m' A' lo' hi' S' T', CG l Gr n w d S i S' i' ∧ S' = kR b t (i' - i) i S ∧ RG l Gr n w d T j T' j' ∧ LSt b t N D m' A' 0 0 sz mz sc u vw' lo' hi' S' T' ∧ KSc S S' i i' m sc u ∧ KSm T T' j j' m sc ∧ m ≤ m' ∧ lo' ≤ lo ∧ hi ≤ hi' ∧ aT w D S' T' lo' hi' vw vw' A A' p i i' j j') ∨ FLT l Gr n w d b t S T i i' j
section STX
variable {l : Launch} {Gr : zG} {n w : Nat} {d : Nat} {A : Nat → Nat → Prop} {b : Nat → Int32} {t N D m tp mp sz mz sc u vw vw' lo hi p q i i' i1 i2 j j' j1 j2 x K : Nat} {S0 T0 S S' S'' T T' T'' : zS}
theorem LSt_ci (h : LSt b t N D m A tp mp sz mz sc u vw lo hi S T) (hi' : i < sz) : CIx S i sz := LX_ci h.1 hi'
theorem LSt_ri (h : LSt b t N D m A tp mp sz mz sc u vw lo hi S T) (hj : j < mz) : RIx T j mz := LX_ri h.1 hj
/-- codes not yet run -/
theorem cs_s {i3 m1 sc1 u1 : Nat} (h : cgS S0 S i2 i') (hS : KSc S S' i1 i3 m1 sc1 u1) (a1 : i3 ≤ i2) : cgS S0 S' i2 i' := fun y q1 q2 => by
  obtain ⟨e1, e2, e3, e4⟩ := h y q1 q2
  exact ⟨(hS.1 4 y (by omega) (by omega) (by omega) (by omega) (by omega) (by omega) (by omega) (by omega) (by omega)).trans e1, (hS.1 5 y (by omega) (by omega) (by omega) (by omega) (by omega) (by omega) (by omega) (by omega) (by omega)).trans e2, (hS.1 6 y (by omega) (by omega) (by omega) (by omega) (by omega) (by omega) (by omega) (by omega) (by omega)).trans e3, (hS.1 7 y (by omega) (by omega) (by omega) (by omega) (by omega) (by omega) (by omega) (by omega) (by omega)).trans e4⟩
theorem cu_s {j3 m1 sc1 : Nat} (h : cgU T0 T j2 j') (hT : KSm T T' j1 j3 m1 sc1) (a1 : j3 ≤ j2) : cgU T0 T' j2 j' := ⟨fun y q1 q2 => by
  obtain ⟨e1, e2, e3, e4, e5⟩ := h.1 y q1 q2
  exact ⟨(hT.1 78 y (by omega) (by omega) (by omega) (by omega) (by omega) (by omega)).trans e1, (hT.1 79 y (by omega) (by omega) (by omega) (by omega) (by omega) (by omega)).trans e2, (hT.1 80 y (by omega) (by omega) (by omega) (by omega) (by omega) (by omega)).trans e3, (hT.1 81 y (by omega) (by omega) (by omega) (by omega) (by omega) (by omega)).trans e4, (hT.2 82 y).trans e5⟩, fun y q1 q2 => (hT.1 89 y (by omega) (by omega) (by omega) (by omega) (by omega) (by omega)).trans (h.2 y q1 q2)⟩
theorem nm_s {m1 sc1 u1 : Nat} (h : nmS S0 S D) (hS : KSc S S' i i' m1 sc1 u1) : nmS S0 S' D := fun e he => by
  have s : ∀ c, 9 ≤ c → c ≤ 15 → S'.1 c e = S.1 c e := fun c a1 a2 => hS.1 c e (by omega) (by omega) (by omega) (by omega) (by omega) (by omega) (by omega) (by omega) (by omega)
  obtain ⟨e1, e2, e3, e4, e5, e6, e7⟩ := h e he
  exact ⟨(s 9 (by omega) (by omega)).trans e1, (s 10 (by omega) (by omega)).trans e2, (s 11 (by omega) (by omega)).trans e3, (s 12 (by omega) (by omega)).trans e4, (s 13 (by omega) (by omega)).trans e5, (s 14 (by omega) (by omega)).trans e6, (s 15 (by omega) (by omega)).trans e7⟩
theorem nid_s {m1 sc1 : Nat} (h : nid b t T x p) (hT : KSm T T' j j' m1 sc1) : nid b t T' x p := nid_k h (hT.1 73 9 (by omega) (by omega) (by omega) (by omega) (by omega) (by omega)) (fun k => hT.1 76 k (by omega) (by omega) (by omega) (by omega) (by omega) (by omega))
theorem cgS_sb (h : cgS S0 S i i') (a1 : i ≤ i1) (a2 : i2 ≤ i') : cgS S0 S i1 i2 := fun y q1 q2 => h y (by omega) (by omega)
theorem cgU_sb (h : cgU T0 T j j') (a1 : j ≤ j1) (a2 : j2 ≤ j') : cgU T0 T j1 j2 := ⟨fun y q1 q2 => h.1 y (by omega) (by omega), fun y q1 q2 => h.2 y (by omega) (by omega)⟩
theorem anS_s {m1 sc1 u1 i3 i4 : Nat} (hS : KSc S S' i3 i4 m1 sc1 u1) (h : i' ≤ i3 ∨ i4 ≤ i) : anS S S' i i' := fun c k q => hS.1 c k (by omega) (by omega) (by omega) (by omega) (by omega) (by omega) (by omega) (by omega) (by omega)
theorem anU_s {m1 sc1 j3 j4 : Nat} (hT : KSm T T' j3 j4 m1 sc1) (h : j' ≤ j3 ∨ j4 ≤ j) : anU T T' j j' := ⟨fun c k q => hT.1 c k (by omega) (by omega) (by omega) (by omega) (by omega) (by omega), fun k => hT.2 82 k⟩
/-- an EXPR in a statement -/
theorem st_x (hg : ip_gk (lg_tbl, vwCl, Gr)) (g : gX w S0 T0 (nid b t T0) q i i' j j') (cs : cgS S0 S i i') (ct : cgT T0 T j j') (hni : ∀ v p, nid b t T0 v p → nid b t T v p) (h : LSt b t N D m A tp mp sz mz sc u vw lo hi S T) (hi' : i' ≤ sz) (hj' : j' ≤ mz) (hB : HB S0 i i' tp mp 0) :
    (∃ S' T' r pb, CG l Gr n w d S i S' i' ∧ S' = kR b t (i' - i) i S ∧ RG l Gr n w d T j T' j' ∧ LSt b t N D m A (tp + 1) (mp + 1) sz mz sc u vw lo hi S' T' ∧ KKc S S' i i' tp ∧ KKm T T' j j' mp 0 ∧ r ≤ 1 ∧ pb ≤ 1 ∧ S'.1 40 tp = nI (r + 2 * pb) ∧ T'.1 98 mp = nI r ∧ T'.1 100 mp = nI pb ∧ T'.1 99 mp = nI q ∧ aX w D A r S' T' i i' j j' ∧ (pb = 1 → PB T' j j')) ∨ FLT l Gr n w d b t S T i i' j := by
  obtain ⟨K, g⟩ := g
  rcases ex_all (l := l) (Gr := Gr) (n := n) (w := w) (d := d) (A := A) (b := b) (t := t) (N := N) (D := D) (m := m) (f := 0) (sz := sz) (mz := mz) (S0 := S0) (T0 := T0) hg K q i i' j j' tp mp 0 S T g cs ct hni h.1 hi' hj' hB with ⟨S', T', a1, a2, a3, a4, a5, a6, r, pb, hr, hpb, b1, b2, b3, b4, b5⟩ | hF
  · exact Or.inl ⟨S', T', r, pb, a1, a2, a3, LSt_x h a4 a5 a6, a5, a6, hr, hpb, b1, b2, b3, b4, b5⟩
  · exact Or.inr hF
/-- an assigned NAME -/
theorem st_tg (hg : ip_gk (lg_tbl, vwCl, Gr)) {el : Bool} (h : LSt b t N D m A tp mp sz mz sc u vw lo hi S T) (hi' : i < sz) (hj : j < mz) (s1 : S.1 4 i = if el then 11 else 9) (s6 : S.1 6 i = nI p) (t1 : T.1 78 j = if el then 33 else 31) (t2 : T.1 79 j = nI x) (t3 : T.1 81 j = nI p) (hid : nid b t T x p) :
    (∃ e v a r z, v < m ∧ e < D ∧ mv T (nI x) m = nI v ∧ S.1 11 e = 1 ∧ S.1 12 e = nI r ∧ r ≤ 1 ∧ S.1 13 e = nI z ∧ z ≤ 64 ∧ (if el then 0 < z else z = 0) ∧ S.1 14 e = nI a ∧ a < 12000 ∧ A e a ∧ T.1 91 v = 2 ∧ T.1 92 v = nI r ∧ T.1 93 v = nI z ∧ T.1 94 v = nI a ∧ CG l Gr n w d S i (zi S 5 i (nI e)) (i + 1) ∧ kS b t S i = zi S 5 i (nI e) ∧ RG l Gr n w d T j T (j + 1)) ∨ FLT l Gr n w d b t S T i (i + 1) j := by
  have hL := h.1
  have hE := hL.1
  have hT := hE.1
  have ht := hT.2.1
  have hD := hT.2.2.2.2
  have hV := hE.2.1
  have hm := hV.2.1
  have h5 := hL.2.1.2.2
  have hp : p < t := by
    obtain ⟨_, _, _, _, _, _, _, _, y⟩ := hid
    exact y
  have ep : (S.1 6 i).toNatClampNeg = p := by rw [s6]; exact nI_clamp (by omega)
  have g : kS b t S i = kTarget b t S i el ∧ CG l Gr n w d S i (kTarget b t S i el) (i + 1) := by
    cases el with
    | true => exact g_11 hg (LX_ci hL hi') s1 hT hV (Nat.le_of_lt hp) s6
    | false => exact g_9 hg (LX_ci hL hi') s1 hT hV (Nat.le_of_lt hp) s6
  rcases kFind_eq hE hid with ⟨e1, e2⟩ | ⟨v, dd, hv, hd, e16, e1, e2, ec⟩
  · right
    have r2 : RG l Gr n w d T j (mF T 4 (T.1 81 j)) (j + 1) := by
      cases el with
      | true => exact r_33n hg (LX_ri hL hj) t1 hE.2.2.1 (by omega) (by rw [t2]; exact e2)
      | false => exact r_31n hg (LX_ri hL hj) t1 hE.2.2.1 (by omega) (by rw [t2]; exact e2)
    have ek : kTarget b t S i el = kRes b t S i := by unfold kTarget; rw [ep, if_pos e1]
    have er : kRes b t S i = zi (kT S 4 (S.1 6 i)) 5 i (-1) := by unfold kRes; rw [ep, e1, if_pos rfl]
    have a := kT_0 (g := 4) (pl := S.1 6 i) h5
    refine FLT_1 (g := 4) (pl := nI p) h5 (by decide) (Nat.le_refl _) g.1 g.2 ?_ ?_ r2 mF_f.1 (by rw [t3]; exact mF_f.2)
    · rw [ek, er, zi_c (by decide)]; exact a.1
    · rw [ek, er, zi_c (by decide), a.2]; exact s6
  · obtain ⟨⟨d', s', y, k, q1, q2, q3, q4, q5, q6, q7, q8, q9, q10, q11, ⟨r, hr, q12⟩, ⟨z, hz, q13⟩, ⟨a0, l0, q15, q17, q16⟩, -⟩, h95⟩ := hE.2.2.2.2.2.2 v hv
    have edd : d' = dd := (nI_eq (by omega) (by omega)).mp (q2.symm.trans e16)
    subst edd
    have hno := nI_no (v := d') (by omega)
    have cd : (nI d').toNatClampNeg = d' := nI_clamp (by omega)
    have er : kRes b t S i = zi S 5 i (nI d') := by unfold kRes; rw [ep, e1, if_neg hno]
    have k1 : nI k = 1 ↔ k = 1 := nI_eq (b := 1) (by omega) (by omega)
    have k2 : nI (k + 1) = 2 ↔ k = 1 := ⟨fun y => by have := (nI_eq (a := k + 1) (b := 2) (by omega) (by omega)).mp y; omega, fun y => by rw [y]; rfl⟩
    have zz : ((if nI z ≤ 0 then 0 else 1) = (if el then (1 : Int32) else 0)) ↔ (if el then 0 < z else z = 0) := by
      by_cases y : z = 0
      · subst y
        cases el <;> decide
      · rw [if_neg (fun q => y (by have := (nI_leI (a := z) (b := 0) (by omega) (by omega)).mp q; omega))]
        cases el with
        | true => exact ⟨fun _ => by show 0 < z; omega, fun _ => rfl⟩
        | false => exact ⟨fun q => absurd q (by decide), fun q => absurd q y⟩
    have ek : kTarget b t S i el = if k = 1 ∧ (if el then 0 < z else z = 0) then zi S 5 i (nI d') else kT (zi S 5 i (nI d')) 5 (S.1 6 i) := by
      unfold kTarget
      rw [ep, e1, if_neg hno, er, cd, q8, q13]
      by_cases y : k = 1 ∧ (if el then 0 < z else z = 0)
      · rw [if_pos y, if_pos ⟨k1.mpr y.1, zz.mpr y.2⟩]
      · rw [if_neg y, if_neg (fun q => y ⟨k1.mp q.1, zz.mp q.2⟩)]
    have r2 : RG l Gr n w d T j (if k = 1 ∧ (if el then 0 < z else z = 0) then T else mF T 5 (T.1 81 j)) (j + 1) := by
      have aux : ∀ X : zS, (if T.1 91 v = 2 ∧ (if T.1 93 v ≤ 0 then 0 else 1) = (if el then (1 : Int32) else 0) then T else X) = (if k = 1 ∧ (if el then 0 < z else z = 0) then T else X) := fun X => by
        rw [q9, q11, q13]
        by_cases y : k = 1 ∧ (if el then 0 < z else z = 0)
        · rw [if_pos y, if_pos ⟨k2.mpr y.1, zz.mpr y.2⟩]
        · rw [if_neg y, if_neg (fun q => y ⟨k2.mp q.1, zz.mp q.2⟩)]
      rw [← aux]
      cases el with
      | true => exact r_33 hg (LX_ri hL hj) t1 hE.2.2.1 (by omega) (by rw [t2]; exact e2) (by omega)
      | false => exact r_31 hg (LX_ri hL hj) t1 hE.2.2.1 (by omega) (by rw [t2]; exact e2) (by omega)
    rw [ek] at g
    by_cases y : k = 1 ∧ (if el then 0 < z else z = 0)
    · left
      rw [if_pos y] at g r2
      have ke := y.1
      subst ke
      exact ⟨d', v, a0, r, z, hv, hd, e2, q8, q12, hr, q13, hz, y.2, q16 (by omega), l0, q17 (vis_k ec q9 (by omega)), q9, q10.trans q12, q11.trans q13, q15, g.2, g.1, r2⟩
    · right
      rw [if_neg y] at g r2
      have x5 : (zi S 5 i (nI d')).1 3 5 = 0 := (zi_c (by decide)).trans h5
      have a := kT_0 (g := 5) (pl := S.1 6 i) x5
      exact FLT_1 (g := 5) (pl := nI p) h5 (by decide) (Nat.le_refl _) g.1 g.2 a.1 (by rw [a.2]; exact s6) r2 mF_f.1 (by rw [t3]; exact mF_f.2)
/-- what an if knows of the words that were assigned -/
theorem st_note {e a z : Nat} (h9 : S.1 39 9 = nI u) (hu : u ≤ 31) (hB : BDS S u lo hi) (h14 : S.1 14 e = nI a) (h13 : S.1 13 e = nI z) (hz : z ≤ 64) (ha : a + max 1 z ≤ 256) : ∃ lo' hi', BDS (kNote S e) u lo' hi' ∧ lo' ≤ lo ∧ hi ≤ hi' ∧ lo' ≤ a ∧ a + max 1 z ≤ hi' ∧ (∀ c k, ¬ ((c = 43 ∨ c = 44) ∧ k + 1 = u) → (kNote S e).1 c k = S.1 c k) ∧ ∀ c k, (kNote S e).2 c k = S.2 c k := by
  rcases hB with ⟨e0, e1, e2⟩ | ⟨u', eu, b1, b2, b3, b4⟩
  · subst e0
    have ek : kNote S e = S := by unfold kNote; rw [h9, if_pos (by decide)]
    rw [ek]
    exact ⟨lo, hi, Or.inl ⟨rfl, e1, e2⟩, Nat.le_refl _, Nat.le_refl _, by omega, by omega, fun _ _ _ => rfl, fun _ _ => rfl⟩
  · subst eu
    have ek : kNote S e = zi (zi S 43 u' (nI (min lo a))) 44 u' (nI (max hi (a + max 1 z))) := by
      unfold kNote
      rw [h9, if_neg (fun y => by have := (nI_leI (a := u' + 1) (b := 0) (by omega) (by omega)).mp y; omega), nI_pred, nI_clamp (by omega), h14, h13]
      unfold kWiden
      rw [b1, ip_min_n (by omega) (by omega), b2, show (1 : Int32) = nI 1 from rfl, ip_max_n (by omega) (by omega), nI_add, ip_max_n (by omega) (by omega)]
    rw [ek]
    refine ⟨min lo a, max hi (a + max 1 z), Or.inr ⟨u', rfl, by rw [zi_c (by decide)]; exact zi_v, zi_v, by omega, by omega⟩, by omega, by omega, by omega, by omega, fun c k q => ?_, fun _ _ => rfl⟩
    rw [zi_get, if_neg (by omega), zi_get, if_neg (by omega)]
end STX
