/-! SORTS of one EXPR on both sides: an element -/
section LEl
variable {l : Launch} {Gr : zG} {n w : Nat} {d : Nat} {A : Nat → Nat → Prop} {b : Nat → Int32} {t N D m f tp mp c sz mz p p1 p2 i i' i1 i2 j j' j1 j2 x o a : Nat} {S S' S'' S1 S2 T T' T'' T1 T2 : zS}
theorem mv_k {v : Int32} {j1 j2 mq cq : Nat} (hT : KKm T T' j1 j2 mq cq) : ∀ u, mv T' v u = mv T v u
  | 0 => rfl
  | u + 1 => by
    show (if _ then _ else _) = (if _ then _ else _)
    rw [mv_k hT u, hT.1 95 u (by omega) (by omega) (by omega) (by omega), hT.1 90 u (by omega) (by omega) (by omega) (by omega), hT.1 73 47 (by omega) (by omega) (by omega) (by omega), hT.1 91 u (by omega) (by omega) (by omega) (by omega)]
theorem nI_and1 {q : Nat} (h : q ≤ 1) : nI q &&& 1 = nI q := by
  have a : q = 0 ∨ q = 1 := by omega
  rcases a with rfl | rfl <;> decide
theorem ex_elt (hg : ip_gk (lg_tbl, vwCl, Gr)) (h : LX b t N D m f A tp mp c sz mz S T) (htp : tp < 372) (hmp : mp < 4200) (hii : i + 1 ≤ i1) (hi : i1 + 1 < sz) (hjj : j + 2 ≤ j1) (hj : j1 < mz) (s1 : S.1 4 i = 25) (s6 : S.1 6 i = nI p) (s2 : S.1 4 i1 = 26) (s3 : S.1 5 i1 = nI i) (s4 : S.1 6 i1 = nI p1) (s5 : S.1 4 (i1 + 1) = 27) (s7 : S.1 5 (i1 + 1) = nI i) (t1 : T.1 78 j = 1) (t2 : T.1 78 (j + 1) = 6) (t4 : T.1 79 (j + 1) = nI x) (t3 : T.1 81 (j + 1) = nI p) (t5 : T.1 78 j1 = 7) (t6 : T.1 79 j1 = nI x) (t7 : T.1 81 j1 = nI p) (hid : nid b t T x p)
    (sub : ∀ S1 T1, LX b t N D m f A tp mp c sz mz S1 T1 → KKc S S1 i (i + 1) tp → KKm T T1 j (j + 2) mp c → EXO l Gr n w d b t N D m f A tp mp c sz mz S1 T1 p1 (i + 1) i1 (j + 2) j1) : EXO l Gr n w d b t N D m f A tp mp c sz mz S T p i (i1 + 2) j (j1 + 1) := by
  have hE := h.1
  have hT := hE.1
  have ht := hT.2.1
  have hD := hT.2.2.2.2
  have hV := hE.2.1
  have hm := hV.2.1
  have h5 := h.2.1.2.2
  have h7 := h.2.2.2.1.2.2
  have hsz := h.2.1.2.1
  have hp : p < t := by
    obtain ⟨_, _, _, _, _, _, _, _, y⟩ := hid
    exact y
  have ep : (S.1 6 i).toNatClampNeg = p := by rw [s6]; exact nI_clamp (by omega)
  have g := g_25 (l := l) (Gr := Gr) (n := n) (w := w) (d := d) (b := b) (t := t) hg (LX_ci h (by omega)) s1 hT hV (Nat.le_of_lt hp) s6
  have r1 := r_1 (l := l) (Gr := Gr) (n := n) (w := w) (d := d) hg (LX_ri h (by omega)) t1
  rcases kFind_eq hE hid with ⟨e1, e2⟩ | ⟨u, dd, hu, hd, e16, e1, e2, ec⟩
  · right
    have r2 := r_6n (l := l) (Gr := Gr) (n := n) (w := w) (d := d) hg (LX_ri (j := j + 1) h (by omega)) t2 hE.2.2.1 (by omega) (by rw [t4]; exact e2)
    have ek : kHead b t S i false = kRes b t S i := by unfold kHead; rw [ep, if_pos e1]
    have er : kRes b t S i = zi (kT S 4 (S.1 6 i)) 5 i (-1) := by unfold kRes; rw [ep, e1, if_pos rfl]
    have a := kT_0 (g := 4) (pl := S.1 6 i) h5
    refine FLT_1 (g := 4) (pl := nI p) h5 (by decide) (by omega) g.1 g.2 ?_ ?_ (RG_tr r1 r2) mF_f.1 (by rw [t3]; exact mF_f.2)
    · rw [ek, er, zi_c (by decide)]; exact a.1
    · rw [ek, er, zi_c (by decide), a.2]; exact s6
  · obtain ⟨⟨d', s', y, k, q1, q2, q3, q4, q5, q6, q7, q8, q9, q10, q11, ⟨r, hr, q12⟩, ⟨z, hz, q13⟩, ⟨a0, l0, q15, q17, q16⟩, -⟩, h95⟩ := hE.2.2.2.2.2.2 u hu
    have edd : d' = dd := (nI_eq (by omega) (by omega)).mp (q2.symm.trans e16)
    subst edd
    have hno := nI_no (v := d') (by omega)
    have cd : (nI d').toNatClampNeg = d' := nI_clamp (by omega)
    have er : kRes b t S i = zi S 5 i (nI d') := by unfold kRes; rw [ep, e1, if_neg hno]
    obtain ⟨X, eX⟩ : ∃ X, X = zi S 5 i (nI d') := ⟨_, rfl⟩
    have kX : ∀ c k, c ≠ 5 → X.1 c k = S.1 c k := fun c k hc => by rw [eX]; exact zi_c hc
    have x5 : X.1 3 5 = 0 := (kX 3 5 (by decide)).trans h5
    have x3 : X.1 39 3 = nI tp := (kX 39 3 (by decide)).trans h.2.2.1
    have a3 : nI z ≤ 0 ↔ z = 0 := ⟨fun y => by have := (nI_leI (a := z) (b := 0) (by omega) (by omega)).mp y; omega, fun y => by rw [y]; exact Int32.le_refl _⟩
    have a4 : nI z = 0 ↔ z = 0 := nI_eq (b := 0) (by omega) (by omega)
    have ek : kHead b t S i false = if z = 0 then kT X 5 (S.1 6 i) else X := by
      unfold kHead
      rw [ep, e1, if_neg hno, er, ← eX, cd, q13]
      by_cases y : z = 0
      · rw [if_pos y, if_neg (fun q => by rw [if_neg (by decide)] at q; exact q (a3.mpr y))]
      · rw [if_neg y, if_pos (by rw [if_neg (by decide)]; exact fun q => y (a3.mp q))]
    have r2 := r_6 (l := l) (Gr := Gr) (n := n) (w := w) (d := d) hg (LX_ri (j := j + 1) h (by omega)) t2 hE.2.2.1 (by omega) (by rw [t4]; exact e2) (by omega)
    rw [q11, q13] at r2
    rw [ek] at g
    by_cases hb : z = 0
    · right
      rw [if_pos hb] at g
      rw [if_pos (a4.mpr hb)] at r2
      have a := kT_0 (g := 5) (pl := S.1 6 i) x5
      exact FLT_1 (g := 5) (pl := nI p) h5 (by decide) (by omega) g.1 g.2 a.1 (by rw [a.2]; exact s6) (RG_tr r1 r2) mF_f.1 (by rw [t3]; exact mF_f.2)
    · rw [if_neg hb] at g
      rw [if_neg (fun q => hb (a4.mp q))] at r2
      have kc : KKc S X i (i + 1) tp := ⟨fun c k a1 a2 a3 a4 => by rw [eX, zi_get, if_neg (by omega)], fun _ _ => by rw [eX]; rfl⟩
      have hX : LX b t N D m f A tp mp c sz mz X T := LX_k h kc (KKm_rfl (j := 0) (j' := 0) (mp := 0) (c := 0)) x5 x3 h7 h.2.2.2.2.1 h.2.2.2.2.2
      have k0 : X = kR b t (i + 1 - i) i S := by rw [show i + 1 - i = 1 by omega, kR_1 h5]; exact g.1.symm
      have rg1 : RG l Gr n w d T j T (j + 2) := RG_tr r1 r2
      rcases sub X T hX kc KKm_rfl with ⟨S2, T2, b1, b2, b3, b4, b5, b6, r', pb, hr', hpb, c1, c2, c3, c4, cx, cxp⟩ | hF
      · have kc2 : KKc S S2 i i1 tp := KKc_tr kc b5 hii (by omega) (Nat.le_refl _)
        have km2 : KKm T T2 j j1 mp c := ⟨fun c' k a1 a2 a3 a4 => b6.1 c' k a1 a2 (by omega) a4, b6.2⟩
        have k2 := kR_cat k0 b2 (by omega) hii
        have u4 : S2.1 4 i1 = 26 := (kc2.1 4 i1 (by omega) (by omega) (by omega) (by omega)).trans s2
        have u5 : S2.1 5 i1 = nI i := (kc2.1 5 i1 (by omega) (by omega) (by omega) (by omega)).trans s3
        have u6 : S2.1 6 i1 = nI p1 := (kc2.1 6 i1 (by omega) (by omega) (by omega) (by omega)).trans s4
        have v4 : S2.1 4 (i1 + 1) = 27 := (kc2.1 4 (i1 + 1) (by omega) (by omega) (by omega) (by omega)).trans s5
        have v5 : S2.1 5 (i1 + 1) = nI i := (kc2.1 5 (i1 + 1) (by omega) (by omega) (by omega) (by omega)).trans s7
        have w5 : S2.1 5 i = nI d' := by
          rw [b5.1 5 i (by omega) (by omega) (by omega) (by omega), eX]
          exact zi_v
        have w12 : S2.1 12 d' = nI r := (kc2.1 12 d' (by omega) (by omega) (by omega) (by omega)).trans q12
        have t78 : T2.1 78 j1 = 7 := (km2.1 78 j1 (by omega) (by omega) (by omega) (by omega)).trans t5
        have t79 : T2.1 79 j1 = nI x := (km2.1 79 j1 (by omega) (by omega) (by omega) (by omega)).trans t6
        have t81 : T2.1 81 j1 = nI p := (km2.1 81 j1 (by omega) (by omega) (by omega) (by omega)).trans t7
        have t92 : T2.1 92 u = nI r := (km2.1 92 u (by omega) (by omega) (by omega) (by omega)).trans (q10.trans q12)
        have l3 := b4.2.2.1
        have l5 := b4.2.1.2.2
        have l7 := b4.2.2.2.1.2.2
        have hv2 : mv T2 (T2.1 79 j1) m = nI u := by rw [t79, mv_k km2]; exact e2
        have gk := g_26 (l := l) (Gr := Gr) (n := n) (w := w) (d := d) (b := b) (t := t) hg (LX_ci (i := i1) b4 (by omega)) u4 l3 htp u5 (by omega)
        have e3 := kMust_v (S := S2) (i := i1) (wt := 0) l3 htp hr' hpb (by omega) c1 u6
        rw [show nI 0 = 0 from rfl] at e3
        rw [e3, u5, nI_clamp (by omega), kTop_t l3 htp, c1, (pt_1 hr' hpb).2] at gk
        have p3 : (kPop S2).1 39 3 = nI tp := kPop_3 l3
        have f5 : (kPop S2).1 3 5 = 0 := (kPop_c (by omega)).trans l5
        have cg2 : CG l Gr n w d S i S2 i1 := CG_tr g.2 b1
        have rg2 : RG l Gr n w d T j T2 j1 := RG_tr rg1 b3
        by_cases zr : r' = 0
        · left
          rw [if_pos zr] at gk
          have rk := r_7 (l := l) (Gr := Gr) (n := n) (w := w) (d := d) hg (LX_ri (j := j1) b4 hj) t78 b4.1.2.2.1 (by omega) hv2 (by omega) b4.2.2.2.2.1 hmp (by rw [c2, zr]; rfl)
          rw [c4, c3, t92, t81] at rk
          obtain ⟨S3, eS3⟩ : ∃ S3, S3 = zi (kPop S2) 7 i (nI (2 * pb)) := ⟨_, rfl⟩
          rw [← eS3] at gk
          have k3c : ∀ c k, ¬ (c = 7 ∧ k = i) → ¬ (c = 39 ∧ k = 3) → S3.1 c k = S2.1 c k := fun c k a1 a2 => by rw [eS3, zi_get, if_neg a1]; exact kPop_c a2
          have m3 : S3.1 39 3 = nI tp := by rw [eS3, zi_c (by decide)]; exact p3
          have m5 : S3.1 3 5 = 0 := (k3c 3 5 (by omega) (by omega)).trans l5
          have kc3 : KKc S2 S3 i (i1 + 2) tp := ⟨fun c k a1 a2 a3 a4 => k3c c k (by omega) a3, fun _ _ => by rw [eS3]; rfl⟩
          obtain ⟨Y, eY⟩ : ∃ Y, Y = zi (zi (zi (mRf T2 j1 u) 106 j1 (nI p1)) 107 j1 (nI pb &&& 1)) 73 43 (nI mp) := ⟨_, rfl⟩
          rw [← eY] at rk
          have yk : ∀ c' k, ¬ (c' = 73 ∧ k = 43) → ¬ ((102 ≤ c' ∧ c' ≤ 107) ∧ k = j1) → Y.1 c' k = T2.1 c' k := fun c' k a1 a2 => by
            rw [eY, zi_get, if_neg a1, zi_get, if_neg (by omega), zi_get, if_neg (by omega)]
            unfold mRf
            rw [zi_get, if_neg (by omega), zi_get, if_neg (by omega), zi_get, if_neg (by omega), zi_get, if_neg (by omega)]
          have km3 : KKm T2 Y j (j1 + 1) mp c := ⟨fun c' k a1 a2 a3 a4 => yk c' k (by omega) (by omega), fun _ _ => by rw [eY]; rfl⟩
          have L3 : LX b t N D m f A tp mp c sz mz S3 Y := LX_k b4 kc3 km3 m5 m3 ((yk 73 7 (by omega) (by omega)).trans l7) (by rw [eY]; exact zi_v) ((yk 73 56 (by omega) (by omega)).trans b4.2.2.2.2.2)
          have n5 : S3.1 5 (i1 + 1) = nI i := (k3c 5 (i1 + 1) (by omega) (by omega)).trans v5
          have n6 : S3.1 5 i = nI d' := (k3c 5 i (by omega) (by omega)).trans w5
          have ge := g_27 (l := l) (Gr := Gr) (n := n) (w := w) (d := d) (b := b) (t := t) hg (LX_ci (i := i1 + 1) L3 (by omega)) ((k3c 4 (i1 + 1) (by omega) (by omega)).trans v4) m3 htp n5 (by omega) n6 (by omega)
          rw [n5, nI_clamp (by omega), n6, cd, k3c 12 d' (by omega) (by omega), w12] at ge
          rw [zr] at cx
          have kcF : KKc S S3 i (i1 + 2) tp := KKc_tr kc2 kc3 (by omega) (Nat.le_refl _) (Nat.le_refl _)
          have kmF : KKm T Y j (j1 + 1) mp c := KKm_tr km2 km3 (by omega) (Nat.le_refl _) (Nat.le_refl _) (Nat.le_refl _)
          have bx := aX_bnd cx
          have s7v : S3.1 7 i = nI (2 * pb) := by rw [eS3]; exact zi_v
          have yR : ∀ c', 102 ≤ c' → c' ≤ 105 → Y.1 c' j1 = (mRf T2 j1 u).1 c' j1 := fun c' q1 q2 => by rw [eY, zi_c (by omega), zi_c (by omega), zi_c (by omega)]
          have mR := mRf_v (T := T2) (j := j1) (s := u)
          have x1 : aX w D A 0 S3 Y (i + 1) i1 (j + 2) j1 := aX_k cx (fun c k q => k3c c k (by omega) (by omega)) ⟨fun c' k q => yk c' k (by omega) (by omega), fun _ => by rw [eY]; rfl⟩
          have s11 : ∀ cc, 11 ≤ cc → cc ≤ 15 → S3.1 cc d' = S.1 cc d' := fun cc q1 q2 => kcF.1 cc d' (by omega) (by omega) (by omega) (by omega)
          have u9 : ∀ cc, 91 ≤ cc → cc ≤ 94 → T2.1 cc u = T.1 cc u := fun cc q1 q2 => km2.1 cc u (by omega) (by omega) (by omega) (by omega)
          have hx : aX w D A r S3 Y i (i1 + 2) j (j1 + 1) := aX_elt ⟨d', k, z, a0, pb, p1, i1, j1, ⟨hd, q7, hr, hz, l0, q17 (vis_k ec q9 q7), (s11 11 (by omega) (by omega)).trans q8, (s11 12 (by omega) (by omega)).trans q12, (s11 13 (by omega) (by omega)).trans q13, fun q => (s11 14 (by omega) (by omega)).trans (q16 q), (yR 102 (by omega) (by omega)).trans (mR.1.trans ((u9 91 (by omega) (by omega)).trans q9)), (yR 103 (by omega) (by omega)).trans (mR.2.1.trans ((u9 94 (by omega) (by omega)).trans q15)), (yR 104 (by omega) (by omega)).trans (mR.2.2.1.trans ((u9 93 (by omega) (by omega)).trans (q11.trans q13))), (yR 105 (by omega) (by omega)).trans (mR.2.2.2.trans ((u9 92 (by omega) (by omega)).trans (q10.trans q12)))⟩, by omega, hpb, x1, rfl, rfl, (kcF.1 4 i (by omega) (by omega) (by omega) (by omega)).trans s1, n6, s7v, (k3c 4 i1 (by omega) (by omega)).trans u4, (k3c 5 i1 (by omega) (by omega)).trans u5, (k3c 6 i1 (by omega) (by omega)).trans u6, (k3c 4 (i1 + 1) (by omega) (by omega)).trans v4, n5, (kmF.1 78 j (by omega) (by omega) (by omega) (by omega)).trans t1, (kmF.1 78 (j + 1) (by omega) (by omega) (by omega) (by omega)).trans t2, (kmF.1 78 j1 (by omega) (by omega) (by omega) (by omega)).trans t5, by rw [eY, zi_c (by decide), zi_c (by decide)]; exact zi_v, by rw [eY, zi_c (by decide)]; exact zi_v.trans (nI_and1 hpb), fun y => PB_k (cxp y) (j := j + 2) (j' := j1) ⟨fun c' k q => yk c' k (by omega) (by omega), fun _ => by rw [eY]; rfl⟩ (Nat.le_refl _) (Nat.le_refl _)⟩
          obtain ⟨f1, f2, f3, f4⟩ := lx_push (p := p) (i := i) (i' := i1 + 2) (j := j) (j' := j1 + 1) (r := r) (pb := 0) (xv := nI r) (q := nI p) (pv := 0) L3 htp hr (by omega) rfl (by decide) rfl hx (fun y => absurd y (by decide))
          have k3 : S3 = kR b t (i1 + 1 - i) i S := by
            have ek3 := kR_s (b := b) (t := t) k2 l5 (by omega)
            rw [gk.1] at ek3
            exact ek3
          have k4 := kR_s (b := b) (t := t) k3 m5 (by omega)
          rw [ge.1] at k4
          exact ⟨_, _, CG_tr cg2 (CG_tr gk.2 ge.2), k4, RG_tr rg2 rk, f1, KKc_tr kc2 (KKc_tr kc3 f2 (Nat.le_refl _) (Nat.le_refl _) (Nat.le_refl _)) (by omega) (Nat.le_refl _) (Nat.le_refl _), KKm_tr km2 (KKm_tr km3 f3 (Nat.le_refl _) (Nat.le_refl _) (Nat.le_refl _) (Nat.le_refl _)) (by omega) (Nat.le_refl _) (Nat.le_refl _) (Nat.le_refl _), f4⟩
        · right
          rw [if_neg zr] at gk
          have rk := r_7a (l := l) (Gr := Gr) (n := n) (w := w) (d := d) hg (LX_ri (j := j1) b4 hj) t78 b4.1.2.2.1 (by omega) b4.2.2.2.2.1 hmp (fun q => zr ((nI_eq (a := r') (b := 0) (by omega) (by omega)).mp (c2.symm.trans q)))
          rw [c4] at rk
          have uu := kT_0 (g := 5) (pl := nI p1) f5
          refine FLT_pre cg2 k2 rg2 (by omega) (FLT_1 (g := 5) (pl := nI p1) l5 (by decide) (by omega) gk.1 gk.2 ?_ ?_ rk mF_f.1 mF_f.2)
          · rw [zi_c (by decide)]; exact uu.1
          · rw [zi_c (by decide)]; exact uu.2
      · exact Or.inr (FLT_pre g.2 k0 rg1 (by omega) (FLT_up hF (by omega)))
end LEl
