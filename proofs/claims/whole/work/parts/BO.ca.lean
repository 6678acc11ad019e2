/-! SORTS of one EXPR on both sides: a call's steps -/
/-- an open call: what its NAME means on both sides -/
def CLS (A : Nat → Nat → Prop) (S T : zS) (D m i c mp u d' aa q r : Nat) : Prop := (∃ z a0, z ≤ 64 ∧ a0 < 12000 ∧ A d' a0 ∧ S.1 11 d' = 4 ∧ S.1 13 d' = nI z ∧ S.1 15 d' = nI aa ∧ T.1 91 u = 5 ∧ T.1 93 u = nI z ∧ T.1 94 u = nI a0) ∧ u < m ∧ d' + aa < D ∧ S.1 5 i = nI d' ∧ T.1 108 c = nI u ∧ T.1 109 c = nI mp ∧ T.1 96 u = nI q ∧ q + aa ≤ 900 ∧ (∀ e, e < aa → T.1 110 (q + e) = S.1 12 (d' + 1 + e) ∧ ∃ r, r ≤ 1 ∧ S.1 12 (d' + 1 + e) = nI r) ∧ r ≤ 1 ∧ S.1 12 d' = nI r ∧ T.1 92 u = nI r ∧ S.1 7 i = nI aa
section LCa
variable {l : Launch} {Gr : zG} {n w : Nat} {d : Nat} {A : Nat → Nat → Prop} {b : Nat → Int32} {t N D m f tp mp c sz mz p p1 p2 i i' i1 i2 j j' j1 j2 x o a u d' aa q r k : Nat} {S S' S'' S1 S2 T T' T'' T1 T2 : zS}
theorem CLS_k {i3 tq j3 j4 mq cq : Nat} (h : CLS A S T D m i c mp u d' aa q r) (hS : KKc S S' i3 i' tq) (hT : KKm T T' j3 j4 mq cq) (a1 : i < i3) (a2 : c < cq) : CLS A S' T' D m i c mp u d' aa q r := by
  obtain ⟨⟨z, a0, o1, o2, o3, o4, o5, o6, o7, o8, o9⟩, h1, h2, h3, h4, h5, h6, h7, h8, h9, h10, h11, h12⟩ := h
  have s11 : ∀ cc, 11 ≤ cc → cc ≤ 15 → S'.1 cc d' = S.1 cc d' := fun cc q1 q2 => hS.1 cc d' (by omega) (by omega) (by omega) (by omega)
  have t91 : ∀ cc, 91 ≤ cc → cc ≤ 94 → T'.1 cc u = T.1 cc u := fun cc q1 q2 => hT.1 cc u (by omega) (by omega) (by omega) (by omega)
  have s12 : ∀ e, S'.1 12 e = S.1 12 e := fun e => hS.1 12 e (by omega) (by omega) (by omega) (by omega)
  refine ⟨⟨z, a0, o1, o2, o3, (s11 11 (by omega) (by omega)).trans o4, (s11 13 (by omega) (by omega)).trans o5, (s11 15 (by omega) (by omega)).trans o6, (t91 91 (by omega) (by omega)).trans o7, (t91 93 (by omega) (by omega)).trans o8, (t91 94 (by omega) (by omega)).trans o9⟩, h1, h2, (hS.1 5 i (by omega) (by omega) (by omega) (by omega)).trans h3, (hT.1 108 c (by omega) (by omega) (by omega) (by omega)).trans h4, (hT.1 109 c (by omega) (by omega) (by omega) (by omega)).trans h5, (hT.1 96 u (by omega) (by omega) (by omega) (by omega)).trans h6, h7, fun e he => ?_, h9, (s12 d').trans h10, (hT.1 92 u (by omega) (by omega) (by omega) (by omega)).trans h11, (hS.1 7 i (by omega) (by omega) (by omega) (by omega)).trans h12⟩
  rw [s12, hT.1 110 (q + e) (by omega) (by omega) (by omega) (by omega)]
  exact h8 e he
theorem ex_ca0 (hg : ip_gk (lg_tbl, vwCl, Gr)) (h : LX b t N D m f A tp mp c sz mz S T) (hc : c < 400) (hi : i < sz) (hj : j + 1 < mz) (s1 : S.1 4 i = 28) (s6 : S.1 6 i = nI p) (s7 : S.1 7 i = nI aa) (t1 : T.1 78 j = 1) (t2 : T.1 78 (j + 1) = 8) (t4 : T.1 79 (j + 1) = nI x) (t5 : T.1 80 (j + 1) = nI aa) (t3 : T.1 81 (j + 1) = nI p) (haa : aa < 4000) (hid : nid b t T x p) : (∃ u d' q r S1 T1, CG l Gr n w d S i S1 (i + 1) ∧ S1 = kS b t S i ∧ RG l Gr n w d T j T1 (j + 2) ∧ LX b t N D m f A tp mp (c + 1) sz mz S1 T1 ∧ KKc S S1 i (i + 1) tp ∧ KKm T T1 j (j + 2) mp c ∧ CLS A S1 T1 D m i c mp u d' aa q r) ∨ FLT l Gr n w d b t S T i (i + 1) j := by
  have hE := h.1
  have hT := hE.1
  have ht := hT.2.1
  have hD := hT.2.2.2.2
  have hV := hE.2.1
  have hm := hV.2.1
  have h5 := h.2.1.2.2
  have h7 := h.2.2.2.1.2.2
  have hp : p < t := by
    obtain ⟨_, _, _, _, _, _, _, _, y⟩ := hid
    exact y
  have ep : (S.1 6 i).toNatClampNeg = p := by rw [s6]; exact nI_clamp (by omega)
  have g := g_28 (l := l) (Gr := Gr) (n := n) (w := w) (d := d) (b := b) (t := t) hg (LX_ci h hi) s1 hT hV (Nat.le_of_lt hp) s6
  have r1 := r_1 (l := l) (Gr := Gr) (n := n) (w := w) (d := d) hg (LX_ri h (by omega)) t1
  rcases kFind_eq hE hid with ⟨e1, e2⟩ | ⟨u, dd, hu, hd, e16, e1, e2, ec⟩
  · right
    have r2 := r_8n (l := l) (Gr := Gr) (n := n) (w := w) (d := d) hg (LX_ri (j := j + 1) h hj) t2 hE.2.2.1 (by omega) (by rw [t4]; exact e2)
    have ek : kHead b t S i true = kRes b t S i := by unfold kHead; rw [ep, if_pos e1]
    have er : kRes b t S i = zi (kT S 4 (S.1 6 i)) 5 i (-1) := by unfold kRes; rw [ep, e1, if_pos rfl]
    have v := kT_0 (g := 4) (pl := S.1 6 i) h5
    refine FLT_1 (g := 4) (pl := nI p) h5 (by decide) (Nat.le_refl _) g.1 g.2 ?_ ?_ (RG_tr r1 r2) mF_f.1 (by rw [t3]; exact mF_f.2)
    · rw [ek, er, zi_c (by decide)]; exact v.1
    · rw [ek, er, zi_c (by decide), v.2]; exact s6
  · obtain ⟨⟨d', s', y, k, q1, q2, q3, q4, q5, q6, q7, q8, q9, q10, q11, ⟨r, hr, q12⟩, ⟨z, hz, q13⟩, ⟨a0, l0, q15, q17, q16⟩, q14⟩, h95⟩ := hE.2.2.2.2.2.2 u hu
    have edd : d' = dd := (nI_eq (by omega) (by omega)).mp (q2.symm.trans e16)
    subst edd
    have hno := nI_no (v := d') (by omega)
    have cd : (nI d').toNatClampNeg = d' := nI_clamp (by omega)
    have er : kRes b t S i = zi S 5 i (nI d') := by unfold kRes; rw [ep, e1, if_neg hno]
    obtain ⟨X, eX⟩ : ∃ X, X = zi S 5 i (nI d') := ⟨_, rfl⟩
    have kX : ∀ c k, c ≠ 5 → X.1 c k = S.1 c k := fun c k hc => by rw [eX]; exact zi_c hc
    have x5 : X.1 3 5 = 0 := (kX 3 5 (by decide)).trans h5
    have r2 := r_8 (l := l) (Gr := Gr) (n := n) (w := w) (d := d) hg (LX_ri (j := j + 1) h hj) t2 hE.2.2.1 (by omega) (by rw [t4]; exact e2) (by omega) h.2.2.2.2.2 hc
    have ek : kHead b t S i true = if S.1 11 d' = 4 ∧ S.1 15 d' = nI aa then X else kT X 5 (S.1 6 i) := by
      unfold kHead
      rw [ep, e1, if_neg hno, er, ← eX, cd, s7]
      rfl
    have k4 : nI k = 4 ↔ k = 4 := nI_eq (b := 4) (by omega) (by omega)
    have k5 : nI (k + 1) = 5 ↔ k = 4 := ⟨fun y => by have := (nI_eq (a := k + 1) (b := 5) (by omega) (by omega)).mp y; omega, fun y => by rw [y]; rfl⟩
    rw [ek] at g
    have cC : (S.1 11 d' = 4 ∧ S.1 15 d' = nI aa) ↔ (k = 4 ∧ S.1 15 d' = nI aa) := by rw [q8, k4]
    have cT : (T.1 91 u = 5 ∧ T.1 97 u = T.1 80 (j + 1)) ↔ (k = 4 ∧ T.1 97 u = nI aa) := by rw [q9, t5, k5]
    have same : (k = 4 ∧ S.1 15 d' = nI aa) ↔ (k = 4 ∧ T.1 97 u = nI aa) := by
      refine and_congr_right (fun hk => ?_)
      obtain ⟨aq, q0, g1, g2, -⟩ := q14 hk
      rw [g1, g2]
    by_cases hb : k = 4 ∧ S.1 15 d' = nI aa
    · left
      rw [if_pos (cC.mpr hb)] at g
      rw [if_pos (cT.mpr (same.mp hb)), h.2.2.2.2.1] at r2
      obtain ⟨aq, q0, g1, g2, g3, g4, g5, g6⟩ := q14 hb.1
      have ea : aq = aa := (nI_eq (by omega) (by omega)).mp (g1.symm.trans hb.2)
      subst ea
      obtain ⟨Y, eY⟩ : ∃ Y, Y = zi (zi (zi T 108 c (nI u)) 109 c (nI mp)) 73 56 (nI (c + 1)) := ⟨_, rfl⟩
      rw [← eY] at r2
      have kc : KKc S X i (i + 1) tp := ⟨fun c k a1 a2 a3 a4 => by rw [eX, zi_get, if_neg (by omega)], fun _ _ => by rw [eX]; rfl⟩
      have km : KKm T Y j (j + 2) mp c := ⟨fun c' k a1 a2 a3 a4 => by rw [eY, zi_get, if_neg (by omega), zi_get, if_neg (by omega), zi_get, if_neg (by omega)], fun _ _ => by rw [eY]; rfl⟩
      have yk : ∀ c' k, c' ≠ 73 → c' ≠ 108 → c' ≠ 109 → Y.1 c' k = T.1 c' k := fun c' k a1 a2 a3 => by rw [eY, zi_c a1, zi_c a3, zi_c a2]
      have y7 : ∀ k, k ≠ 56 → Y.1 73 k = T.1 73 k := fun k a1 => by rw [eY, zi_k a1, zi_c (by decide), zi_c (by decide)]
      refine ⟨u, d', q0, r, X, Y, g.2, g.1.symm, RG_tr r1 r2, LX_k h kc km x5 ((kX 39 3 (by decide)).trans h.2.2.1) ((y7 7 (by decide)).trans h7) ((y7 43 (by decide)).trans h.2.2.2.2.1) (by rw [eY]; exact zi_v), kc, km, ⟨z, a0, hz, l0, q17 (vis_k ec q9 q7), (kX 11 d' (by decide)).trans (by rw [q8, hb.1]; rfl), (kX 13 d' (by decide)).trans q13, (kX 15 d' (by decide)).trans g1, (yk 91 u (by decide) (by decide) (by decide)).trans (by rw [q9, hb.1]; rfl), (yk 93 u (by decide) (by decide) (by decide)).trans (q11.trans q13), (yk 94 u (by decide) (by decide) (by decide)).trans q15⟩, hu, g5, by rw [eX]; exact zi_v, ?_, ?_, (yk 96 u (by decide) (by decide) (by decide)).trans g3, g4.1, fun e he => ?_, hr, (kX 12 d' (by decide)).trans q12, (yk 92 u (by decide) (by decide) (by decide)).trans (q10.trans q12), (kX 7 i (by decide)).trans s7⟩
      · rw [eY, zi_c (by decide), zi_c (by decide)]; exact zi_v
      · rw [eY, zi_c (by decide)]; exact zi_v
      · rw [yk 110 _ (by decide) (by decide) (by decide), kX 12 _ (by decide)]
        exact g6 e he
    · right
      rw [if_neg (fun y => hb (cC.mp y))] at g
      rw [if_neg (fun y => hb (same.mpr (cT.mp y)))] at r2
      have v := kT_0 (g := 5) (pl := S.1 6 i) x5
      exact FLT_1 (g := 5) (pl := nI p) h5 (by decide) (Nat.le_refl _) g.1 g.2 v.1 (by rw [v.2]; exact s6) (RG_tr r1 r2) mF_f.1 (by rw [t3]; exact mF_f.2)
end LCa
