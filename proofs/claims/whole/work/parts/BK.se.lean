/-! SORTS of one EXPR on both sides: two and three EXPRs -/
theorem sel_v {r0 b0 r1 b1 r2 b2 : Nat} (h0 : r0 ≤ 1) (g0 : b0 ≤ 1) (h1 : r1 ≤ 1) (g1 : b1 ≤ 1) (h2 : r2 ≤ 1) (g2 : b2 ≤ 1) : (nI r1 ||| (nI (r0 + 2 * b0) &&& nI (r1 + 2 * b1) &&& nI (r2 + 2 * b2) &&& 2)) = nI (r1 + 2 * (b0 * b1 * b2)) ∧ (if nI b0 = 0 ∨ nI b1 = 0 ∨ nI b2 = 0 then (0 : Int32) else 1) = nI (b0 * b1 * b2) ∧ b0 * b1 * b2 ≤ 1 := by
  have e0 : r0 = 0 ∨ r0 = 1 := by omega
  have e1 : r1 = 0 ∨ r1 = 1 := by omega
  have e2 : r2 = 0 ∨ r2 = 1 := by omega
  have f0 : b0 = 0 ∨ b0 = 1 := by omega
  have f1 : b1 = 0 ∨ b1 = 1 := by omega
  have f2 : b2 = 0 ∨ b2 = 1 := by omega
  rcases e0 with rfl | rfl <;> rcases e1 with rfl | rfl <;> rcases e2 with rfl | rfl <;> rcases f0 with rfl | rfl <;> rcases f1 with rfl | rfl <;> rcases f2 with rfl | rfl <;> decide
section LSe
variable {l : Launch} {Gr : zG} {n w : Nat} {d : Nat} {A : Nat → Nat → Prop} {b : Nat → Int32} {t N D m f tp mp c sz mz p p2 p3 i i' i1 i2 i3 j j' j1 j2 j3 x o a : Nat} {S S' S'' S1 S2 T T' T'' T1 T2 : zS}
theorem ex_se (hg : ip_gk (lg_tbl, vwCl, Gr)) (h : LX b t N D m f A (tp + 3) (mp + 3) c sz mz S T) (htp : tp + 2 < 372) (hmp : mp + 2 < 4200) (hi : i < sz) (hj : j < mz) (s4 : S.1 4 i = 37) (s6 : S.1 6 i = nI a) (t2 : T.1 78 j = 14) (t4 : T.1 81 j = nI a) {i0 j0 : Nat} (q0 : PT w D A S T tp mp p i0 i1 j0 j1) (q1 : PT w D A S T (tp + 1) (mp + 1) p2 i1 i2 j1 j2) (q2 : PT w D A S T (tp + 2) (mp + 2) p3 i2 i j2 j) : (∃ S' T', CG l Gr n w d S i S' (i + 1) ∧ S' = kS b t S i ∧ RG l Gr n w d T j T' (j + 1) ∧ LX b t N D m f A (tp + 1) (mp + 1) c sz mz S' T' ∧ KKc S S' i (i + 1) tp ∧ KKm T T' j (j + 1) mp c ∧ PT w D A S' T' tp mp p i0 (i + 1) j0 (j + 1)) ∨ FLT l Gr n w d b t S T i (i + 1) j := by
  obtain ⟨r0, b0, hr0, hb0, a1, a2, a3, a4, a5, a5p⟩ := q0
  obtain ⟨r1, b1, hr1, hb1, c1, c2, c3, c4, c5, c5p⟩ := q1
  obtain ⟨r2, b2, hr2, hb2, e1, e2, e3, e4, e5, e5p⟩ := q2
  have h3 := h.2.2.1
  have h5 := h.2.1.2.2
  have h7 := h.2.2.2.1.2.2
  obtain ⟨V1, V2, V3⟩ := sel_v hr0 hb0 hr1 hb1 hr2 hb2
  have gk := g_37 (l := l) (Gr := Gr) (n := n) (w := w) (d := d) (b := b) (t := t) hg (LX_ci h hi) s4 h3 htp
  have rk := r_14 (l := l) (Gr := Gr) (n := n) (w := w) (d := d) hg (LX_ri h hj) t2 h.2.2.2.2.1 hmp
  have p3' : (kPop S).1 39 3 = nI (tp + 2) := kPop_3 h3
  have p4 : (kPop (kPop S)).1 39 3 = nI (tp + 1) := kPop_3 p3'
  have p5 : (kPop (kPop (kPop S))).1 39 3 = nI tp := kPop_3 p4
  have y0 : kTop S = nI (r2 + 2 * b2) := (kTop_t h3 (by omega)).trans e1
  have x0 : kTop (kPop S) = nI (r1 + 2 * b1) := (kTop_t p3' (by omega)).trans ((kPop_c (by omega)).trans c1)
  have w0 : kTop (kPop (kPop S)) = nI (r0 + 2 * b0) := (kTop_t p4 (by omega)).trans ((kPop_c (by omega)).trans ((kPop_c (by omega)).trans a1))
  obtain ⟨X, eX⟩ : ∃ X, X = kPop (kPop (kPop S)) := ⟨_, rfl⟩
  have kX : ∀ c k, ¬ (c = 39 ∧ k = 3) → X.1 c k = S.1 c k := fun c k hc => by rw [eX, kPop_c hc, kPop_c hc, kPop_c hc]
  rw [← eX] at p5
  have x5 : X.1 3 5 = 0 := (kX 3 5 (by omega)).trans h5
  have x6 : X.1 6 i = nI a := (kX 6 i (by omega)).trans s6
  have n1 : nI r0 = 1 ↔ r0 = 1 := nI_eq (b := 1) (by omega) (by omega)
  have n2 : nI r1 = nI r2 ↔ r1 = r2 := nI_b hr1 hr2
  have eS : kSel S i = kPush (zi (if r0 = 1 ∧ r1 = r2 then X else kT X 5 (nI a)) 5 i (nI r1)) (nI (r1 + 2 * (b0 * b1 * b2))) := by
    unfold kSel
    rw [x0, y0, w0, ← eX, (pt_1 hr0 hb0).1, (pt_1 hr1 hb1).1, (pt_1 hr2 hb2).1, V1, x6]
    by_cases z : r0 = 1 ∧ r1 = r2
    · rw [if_pos z, if_pos ⟨n1.mpr z.1, n2.mpr z.2⟩]
    · rw [if_neg z, if_neg (fun q => z ⟨n1.mp q.1, n2.mp q.2⟩)]
  have eM : (if T.1 98 mp = 1 ∧ T.1 98 (mp + 1) = T.1 98 (mp + 2) then mSe T mp j else mF T 5 (T.1 81 j)) = if r0 = 1 ∧ r1 = r2 then zi (zi (zi (zi T 73 43 (nI (mp + 1))) 98 mp (nI r1)) 100 mp (nI (b0 * b1 * b2))) 80 j (nI r1) else mF T 5 (nI a) := by
    unfold mSe
    rw [a2, c2, e2, t4, a3, c3, e3, V2]
    by_cases z : r0 = 1 ∧ r1 = r2
    · rw [if_pos z, if_pos ⟨n1.mpr z.1, n2.mpr z.2⟩]
    · rw [if_neg z, if_neg (fun q => z ⟨n1.mp q.1, n2.mp q.2⟩)]
  rw [eM] at rk
  rw [eS] at gk
  by_cases z : r0 = 1 ∧ r1 = r2
  · left
    rw [if_pos z] at gk rk
    have z3 : (zi X 5 i (nI r1)).1 39 3 = nI tp := by rw [zi_c (by decide)]; exact p5
    have kp := kPush_t (S := zi X 5 i (nI r1)) (xv := nI (r1 + 2 * (b0 * b1 * b2))) z3 (by omega)
    have kc : KKc S (kPush (zi X 5 i (nI r1)) (nI (r1 + 2 * (b0 * b1 * b2)))) i (i + 1) tp := ⟨fun c k q1 q2 q3 q4 => by rw [kPush_c z3 (by omega) q3 (by omega), zi_get, if_neg (by omega)]; exact kX c k q3, fun _ _ => by rw [eX]; rfl⟩
    have km : KKm T (zi (zi (zi (zi T 73 43 (nI (mp + 1))) 98 mp (nI r1)) 100 mp (nI (b0 * b1 * b2))) 80 j (nI r1)) j (j + 1) mp c := ⟨fun c' k q1 q2 q3 q4 => by rw [zi_get, if_neg (by omega), zi_get, if_neg (by omega), zi_get, if_neg (by omega), zi_get, if_neg (by omega)], fun _ _ => rfl⟩
    have y5 : (kPush (zi X 5 i (nI r1)) (nI (r1 + 2 * (b0 * b1 * b2)))).1 5 i = nI r1 := by
      rw [kPush_c z3 (by omega) (by omega) (by omega)]
      exact zi_v
    rw [z.1] at a5
    rw [← z.2] at e5
    have b5 := aX_bnd a5
    have b6 := aX_bnd c5
    have b7 := aX_bnd e5
    refine ⟨_, _, gk.2, gk.1.symm, rk, LX_k h kc km ?_ kp.1 ?_ ?_ ?_, kc, km, r1, b0 * b1 * b2, hr1, V3, kp.2, ?_, ?_, ?_, aX_sel ⟨i1, j1, i2, j2, i, j, aX_k a5 (anS_k kc (Or.inl (by omega))) (anT_k km (Or.inl (by omega))), aX_k c5 (anS_k kc (Or.inl (by omega))) (anT_k km (Or.inl (by omega))), aX_k e5 (anS_k kc (Or.inl (by omega))) (anT_k km (Or.inl (by omega))), rfl, rfl, (kc.1 4 i (by omega) (by omega) (by omega) (by omega)).trans s4, y5, (km.1 78 j (by omega) (by omega) (by omega) (by omega)).trans t2, zi_v⟩, fun y => ?_⟩
    · rw [kPush_c z3 (by omega) (by omega) (by omega), zi_c (by decide)]; exact x5
    · rw [zi_c (by decide), zi_c (by decide), zi_c (by decide), zi_k (by decide)]; exact h7
    · rw [zi_c (by decide), zi_c (by decide), zi_c (by decide)]; exact zi_v
    · rw [zi_c (by decide), zi_c (by decide), zi_c (by decide), zi_k (by decide)]; exact h.2.2.2.2.2
    · rw [zi_c (by decide), zi_c (by decide)]; exact zi_v
    · rw [zi_c (by decide)]; exact zi_v
    · rw [zi_c (by decide), zi_c (by decide), zi_c (by decide), zi_c (by decide)]; exact a4
    · have yb : b0 = 1 ∧ b1 = 1 ∧ b2 = 1 := by
        have u0 : b0 = 0 ∨ b0 = 1 := by omega
        have u1 : b1 = 0 ∨ b1 = 1 := by omega
        rcases u0 with u0 | u0 <;> rcases u1 with u1 | u1 <;> subst u0 <;> subst u1 <;> omega
      exact PB_cat (PB_k (a5p yb.1) (anT_k (j := j0) (j' := j1) km (Or.inl (by omega))) (Nat.le_refl _) (Nat.le_refl _)) (PB_cat (PB_k (c5p yb.2.1) (anT_k (j := j1) (j' := j2) km (Or.inl (by omega))) (Nat.le_refl _) (Nat.le_refl _)) (PB_cat (PB_k (e5p yb.2.2) (anT_k (j := j2) (j' := j) km (Or.inl (by omega))) (Nat.le_refl _) (Nat.le_refl _)) (PB_1 (k := 14) ((km.1 78 j (by omega) (by omega) (by omega) (by omega)).trans t2) (by omega) (by omega))))
  · right
    rw [if_neg z] at gk rk
    have u := kT_0 (g := 5) (pl := nI a) x5
    have y3 : (zi (kT X 5 (nI a)) 5 i (nI r1)).1 39 3 = nI tp := by rw [zi_c (by decide), kT_c (by omega)]; exact p5
    refine FLT_1 (g := 5) (pl := nI a) h5 (by decide) (Nat.le_refl _) gk.1 gk.2 ?_ ?_ rk mF_f.1 mF_f.2
    · rw [kPush_c y3 (by omega) (by omega) (by omega), zi_c (by decide)]; exact u.1
    · rw [kPush_c y3 (by omega) (by omega) (by omega), zi_c (by decide)]; exact u.2
/-- what was piled before stays -/
theorem PT_k {i1 i2 tq j1 j2 mq cq : Nat} (h : PT w D A S T tp mp p i i' j j') (hS : KKc S S' i1 i2 tq) (hT : KKm T T' j1 j2 mq cq) (a1 : tp < tq) (a2 : mp < mq) (a3 : i' ≤ i1) (a4 : j' ≤ j1) : PT w D A S' T' tp mp p i i' j j' := by
  obtain ⟨r, pb, h1, h2, h3, h4, h5, h6, h7, h8⟩ := h
  exact ⟨r, pb, h1, h2, (hS.1 40 tp (by omega) (by omega) (by omega) (by omega)).trans h3, (hT.1 98 mp (by omega) (by omega) (by omega) (by omega)).trans h4, (hT.1 100 mp (by omega) (by omega) (by omega) (by omega)).trans h5, (hT.1 99 mp (by omega) (by omega) (by omega) (by omega)).trans h6, aX_k h7 (anS_k hS (Or.inl a3)) (anT_k hT (Or.inl a4)), fun y => PB_k (h8 y) (anT_k (j := j) (j' := j') hT (Or.inl a4)) (Nat.le_refl _) (Nat.le_refl _)⟩
theorem ex_bin (hg : ip_gk (lg_tbl, vwCl, Gr)) (htp : tp + 1 < 372) (hmp : mp + 1 < 4200) (hi1 : i ≤ i1) (hi2 : i1 ≤ i2) (hi : i2 < sz) (hj1 : j ≤ j1) (hj2 : j1 ≤ j2) (hj : j2 < mz) (o1 : 1 ≤ o) (o2 : o ≤ 18) (s4 : S.1 4 i2 = nI (37 + o)) (s6 : S.1 6 i2 = nI a) (s7 : S.1 7 i2 = nI p2) (t2 : T.1 78 j2 = 13) (t3 : T.1 79 j2 = nI o) (t4 : T.1 81 j2 = nI a) (sub1 : EXO l Gr n w d b t N D m f A tp mp c sz mz S T p i i1 j j1)
    (sub2 : ∀ S1 T1, LX b t N D m f A (tp + 1) (mp + 1) c sz mz S1 T1 → KKc S S1 i i1 tp → KKm T T1 j j1 mp c → EXO l Gr n w d b t N D m f A (tp + 1) (mp + 1) c sz mz S1 T1 p2 i1 i2 j1 j2) : EXO l Gr n w d b t N D m f A tp mp c sz mz S T p i (i2 + 1) j (j2 + 1) := by
  rcases sub1 with ⟨S1, T1, a1, a2, a3, a4, a5, a6, P1⟩ | hF
  · rcases sub2 S1 T1 a4 a5 a6 with ⟨S2, T2, b1, b2, b3, b4, b5, b6, P2⟩ | hF
    · have kc : KKc S S2 i i2 tp := KKc_tr a5 b5 hi2 hi1 (by omega)
      have km : KKm T T2 j j2 mp c := KKm_tr a6 b6 hj2 hj1 (by omega) (Nat.le_refl _)
      have k2 := kR_cat a2 b2 hi1 hi2
      have sc : ∀ c, c = 4 ∨ c = 6 ∨ c = 7 → S2.1 c i2 = S.1 c i2 := fun c hc => kc.1 c i2 (by omega) (by omega) (by omega) (by omega)
      have tc : ∀ c', c' = 78 ∨ c' = 79 ∨ c' = 81 → T2.1 c' j2 = T.1 c' j2 := fun c' hc => km.1 c' j2 (by omega) (by omega) (by omega) (by omega)
      rcases ex_op (l := l) (Gr := Gr) (n := n) (w := w) (d := d) (i := i2) (j := j2) (o := o) (a := a) hg b4 htp hmp hi hj o1 o2 ((sc 4 (by omega)).trans s4) ((sc 6 (by omega)).trans s6) ((sc 7 (by omega)).trans s7) ((tc 78 (by omega)).trans t2) ((tc 79 (by omega)).trans t3) ((tc 81 (by omega)).trans t4) (PT_k P1 b5 b6 (by omega) (by omega) (Nat.le_refl _) (Nat.le_refl _)) P2 with ⟨S3, T3, g1, g2, g3, g4, g5, g6, P3⟩ | hF
      · refine Or.inl ⟨S3, T3, CG_tr a1 (CG_tr b1 g1), ?_, RG_tr a3 (RG_tr b3 g3), g4, KKc_tr kc g5 (by omega) (by omega) (Nat.le_refl _), KKm_tr km g6 (by omega) (by omega) (Nat.le_refl _) (Nat.le_refl _), P3⟩
        rw [g2]
        exact kR_s k2 b4.2.1.2.2 (by omega)
      · exact Or.inr (FLT_pre (CG_tr a1 b1) k2 (RG_tr a3 b3) (by omega) hF)
    · exact Or.inr (FLT_pre a1 a2 a3 hi1 (FLT_up hF (by omega)))
  · exact Or.inr (FLT_up hF (by omega))
theorem ex_sel (hg : ip_gk (lg_tbl, vwCl, Gr)) (htp : tp + 2 < 372) (hmp : mp + 2 < 4200) (hi1 : i ≤ i1) (hi2 : i1 ≤ i2) (hi3 : i2 ≤ i3) (hi : i3 < sz) (hj1 : j ≤ j1) (hj2 : j1 ≤ j2) (hj3 : j2 ≤ j3) (hj : j3 < mz) (s4 : S.1 4 i3 = 37) (s6 : S.1 6 i3 = nI a) (t2 : T.1 78 j3 = 14) (t4 : T.1 81 j3 = nI a) (sub1 : EXO l Gr n w d b t N D m f A tp mp c sz mz S T p i i1 j j1)
    (sub2 : ∀ S1 T1, LX b t N D m f A (tp + 1) (mp + 1) c sz mz S1 T1 → KKc S S1 i i1 tp → KKm T T1 j j1 mp c → EXO l Gr n w d b t N D m f A (tp + 1) (mp + 1) c sz mz S1 T1 p2 i1 i2 j1 j2)
    (sub3 : ∀ S1 T1, LX b t N D m f A (tp + 2) (mp + 2) c sz mz S1 T1 → KKc S S1 i i2 tp → KKm T T1 j j2 mp c → EXO l Gr n w d b t N D m f A (tp + 2) (mp + 2) c sz mz S1 T1 p3 i2 i3 j2 j3) : EXO l Gr n w d b t N D m f A tp mp c sz mz S T p i (i3 + 1) j (j3 + 1) := by
  rcases sub1 with ⟨S1, T1, a1, a2, a3, a4, a5, a6, P1⟩ | hF
  · rcases sub2 S1 T1 a4 a5 a6 with ⟨S2, T2, b1, b2, b3, b4, b5, b6, P2⟩ | hF
    · have kc : KKc S S2 i i2 tp := KKc_tr a5 b5 hi2 hi1 (by omega)
      have km : KKm T T2 j j2 mp c := KKm_tr a6 b6 hj2 hj1 (by omega) (Nat.le_refl _)
      have k2 := kR_cat a2 b2 hi1 hi2
      rcases sub3 S2 T2 b4 kc km with ⟨S3, T3, d1, d2, d3, d4, d5, d6, P3⟩ | hF
      · have kc3 : KKc S S3 i i3 tp := KKc_tr kc d5 hi3 (by omega) (by omega)
        have km3 : KKm T T3 j j3 mp c := KKm_tr km d6 hj3 (by omega) (by omega) (Nat.le_refl _)
        have k3 := kR_cat k2 d2 (by omega) hi3
        have sc : ∀ c, c = 4 ∨ c = 6 → S3.1 c i3 = S.1 c i3 := fun c hc => kc3.1 c i3 (by omega) (by omega) (by omega) (by omega)
        have tc : ∀ c', c' = 78 ∨ c' = 81 → T3.1 c' j3 = T.1 c' j3 := fun c' hc => km3.1 c' j3 (by omega) (by omega) (by omega) (by omega)
        rcases ex_se (l := l) (Gr := Gr) (n := n) (w := w) (d := d) (i := i3) (j := j3) (a := a) hg d4 htp hmp hi hj ((sc 4 (by omega)).trans s4) ((sc 6 (by omega)).trans s6) ((tc 78 (by omega)).trans t2) ((tc 81 (by omega)).trans t4) (PT_k (PT_k P1 b5 b6 (by omega) (by omega) (Nat.le_refl _) (Nat.le_refl _)) d5 d6 (by omega) (by omega) hi2 hj2) (PT_k P2 d5 d6 (by omega) (by omega) (Nat.le_refl _) (Nat.le_refl _)) P3 with ⟨S4, T4, g1, g2, g3, g4, g5, g6, P4⟩ | hF
        · refine Or.inl ⟨S4, T4, CG_tr a1 (CG_tr b1 (CG_tr d1 g1)), ?_, RG_tr a3 (RG_tr b3 (RG_tr d3 g3)), g4, KKc_tr kc3 g5 (by omega) (by omega) (Nat.le_refl _), KKm_tr km3 g6 (by omega) (by omega) (Nat.le_refl _) (Nat.le_refl _), P4⟩
          rw [g2]
          exact kR_s k3 d4.2.1.2.2 (by omega)
        · exact Or.inr (FLT_pre (CG_tr a1 (CG_tr b1 d1)) k3 (RG_tr a3 (RG_tr b3 d3)) (by omega) hF)
      · exact Or.inr (FLT_pre (CG_tr a1 b1) k2 (RG_tr a3 b3) (by omega) (FLT_up hF (by omega)))
    · exact Or.inr (FLT_pre a1 a2 a3 hi1 (FLT_up hF (by omega)))
  · exact Or.inr (FLT_up hF (by omega))
end LSe
