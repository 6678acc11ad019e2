/-! SORTS of one EXPR on both sides: bit() -/
section LBt
variable {l : Launch} {Gr : zG} {n w : Nat} {d : Nat} {A : Nat → Nat → Prop} {b : Nat → Int32} {t N D m f tp mp c sz mz p p1 p2 i i' i1 i2 j j' j1 j2 x o a : Nat} {S S' S'' S1 S2 T T' T'' T1 T2 : zS}
theorem ex_bit (hg : ip_gk (lg_tbl, vwCl, Gr)) (h : LX b t N D m f A tp mp c sz mz S T) (htp : tp + 1 < 372) (hmp : mp + 1 < 4200) (hc : c ≤ 400) (hii : i + 1 ≤ i1) (hi2 : i1 + 1 ≤ i2) (hi : i2 < sz) (hjj : j + 1 ≤ j1) (hj2 : j1 + 1 ≤ j2) (hj : j2 < mz) (s1 : S.1 4 i = 21) (s2 : S.1 4 i1 = 32) (s3 : S.1 6 i1 = nI p1) (s4 : S.1 4 i2 = 33) (s5 : S.1 6 i2 = nI p2) (t1 : T.1 78 j = 1) (t2 : T.1 78 j1 = 16) (t3 : T.1 79 j1 = -1) (t4 : T.1 78 j2 = 11) (t5 : T.1 81 j2 = nI p) (sub1 : EXO l Gr n w d b t N D m f A tp mp c sz mz S T p1 (i + 1) i1 (j + 1) j1)
    (sub2 : ∀ S1 T1, LX b t N D m f A (tp + 1) (mp + 1) c sz mz S1 T1 → KKc S S1 i (i1 + 1) tp → KKm T T1 j (j1 + 1) mp c → EXO l Gr n w d b t N D m f A (tp + 1) (mp + 1) c sz mz S1 T1 p2 (i1 + 1) i2 (j1 + 1) j2) : EXO l Gr n w d b t N D m f A tp mp c sz mz S T p i (i2 + 1) j (j2 + 1) := by
  have g := g_21 (l := l) (Gr := Gr) (n := n) (w := w) (d := d) (b := b) (t := t) hg (LX_ci h (by omega)) s1
  have r1 := r_1 (l := l) (Gr := Gr) (n := n) (w := w) (d := d) hg (LX_ri h (by omega)) t1
  have k0 : S = kR b t (i + 1 - i) i S := by rw [show i + 1 - i = 1 by omega, kR_1 h.2.1.2.2]; exact g.1.symm
  rcases sub1 with ⟨S1, T1, a1, a2, a3, a4, a5, a6, r, pb, hr, hpb, b1, b2, b3, b4, b5, b5p⟩ | hF
  · have kc1 : KKc S S1 i i1 tp := ⟨fun c k q1 q2 q3 q4 => a5.1 c k q1 (by omega) q3 q4, a5.2⟩
    have km1 : KKm T T1 j j1 mp c := ⟨fun c' k q1 q2 q3 q4 => a6.1 c' k q1 q2 (by omega) q4, a6.2⟩
    have u4 : S1.1 4 i1 = 32 := (kc1.1 4 i1 (by omega) (by omega) (by omega) (by omega)).trans s2
    have u6 : S1.1 6 i1 = nI p1 := (kc1.1 6 i1 (by omega) (by omega) (by omega) (by omega)).trans s3
    have t78 : T1.1 78 j1 = 16 := (km1.1 78 j1 (by omega) (by omega) (by omega) (by omega)).trans t2
    have t79 : T1.1 79 j1 = -1 := (km1.1 79 j1 (by omega) (by omega) (by omega) (by omega)).trans t3
    have h3 := a4.2.2.1
    have h5 := a4.2.1.2.2
    have h7 := a4.2.2.2.1.2.2
    have k1 := kR_cat k0 a2 (by omega) hii
    have gk := g_32 (l := l) (Gr := Gr) (n := n) (w := w) (d := d) (b := b) (t := t) hg (LX_ci (i := i1) a4 (by omega)) u4 h3 (by omega)
    have rk := r_16i (l := l) (Gr := Gr) (n := n) (w := w) (d := d) hg (LX_ri (j := j1) a4 (by omega)) t78 a4.2.2.2.2.1 (by omega) t79 a4.2.2.2.2.2 hc
    have e1 := kMust_v (S := S1) (i := i1) (wt := 0) h3 (by omega) hr hpb (by omega) b1 u6
    have e2 := mMu_v (T := T1) (mp := mp) (wt := 0) h7 hr (by omega) b2 b4
    rw [show nI 0 = 0 from rfl] at e1 e2
    rw [e1, kTop_t h3 (by omega), b1, (or_v hr hpb).2] at gk
    rw [e2] at rk
    have p3 : (kPop S1).1 39 3 = nI tp := kPop_3 h3
    by_cases z : r = 0
    · rw [if_pos z] at gk rk
      obtain ⟨S2, eS2⟩ : ∃ S2, S2 = kPush (kPop S1) (nI (1 + 2 * pb)) := ⟨_, rfl⟩
      have kp := kPush_t (S := kPop S1) (xv := nI (1 + 2 * pb)) p3 (by omega)
      rw [← eS2] at gk kp
      have kc2 : KKc S1 S2 i (i1 + 1) tp := ⟨fun c k q1 q2 q3 q4 => by rw [eS2, kPush_c p3 (by omega) q3 (by omega), kPop_c q3], fun _ _ => by rw [eS2]; rfl⟩
      have f2 : S2.1 3 5 = 0 := by rw [eS2, kPush_c p3 (by omega) (by omega) (by omega), kPop_c (by omega)]; exact h5
      have L2 : LX b t N D m f A (tp + 1) (mp + 1) c sz mz S2 T1 := LX_k a4 kc2 (KKm_rfl (j := 0) (j' := 0) (mp := 0) (c := 0)) f2 kp.1 h7 a4.2.2.2.2.1 a4.2.2.2.2.2
      have k2 : S2 = kR b t (i1 + 1 - i) i S := by
        have ek := kR_s (b := b) (t := t) k1 h5 (by omega)
        rw [gk.1] at ek
        exact ek
      have kc02 : KKc S S2 i (i1 + 1) tp := KKc_tr kc1 kc2 (by omega) (Nat.le_refl _) (Nat.le_refl _)
      have km02 : KKm T T1 j (j1 + 1) mp c := ⟨fun c' k q1 q2 q3 q4 => km1.1 c' k q1 q2 (by omega) q4, km1.2⟩
      have cg2 : CG l Gr n w d S i S2 (i1 + 1) := CG_tr g.2 (CG_tr a1 gk.2)
      have rg2 : RG l Gr n w d T j T1 (j1 + 1) := RG_tr r1 (RG_tr a3 rk)
      rcases sub2 S2 T1 L2 kc02 km02 with ⟨S3, T3, c1, c2, c3, c4, c5, c6, r', pb', hr', hpb', d1, d2, d3, d4, d5, d5p⟩ | hF
      · have kc03 : KKc S S3 i i2 tp := KKc_tr kc02 c5 (by omega) (by omega) (by omega)
        have km03 : KKm T T3 j j2 mp c := KKm_tr km02 c6 (by omega) (by omega) (by omega) (Nat.le_refl _)
        have k3 := kR_cat k2 c2 (by omega) hi2
        have v4 : S3.1 4 i2 = 33 := (kc03.1 4 i2 (by omega) (by omega) (by omega) (by omega)).trans s4
        have v6 : S3.1 6 i2 = nI p2 := (kc03.1 6 i2 (by omega) (by omega) (by omega) (by omega)).trans s5
        have w78 : T3.1 78 j2 = 11 := (km03.1 78 j2 (by omega) (by omega) (by omega) (by omega)).trans t4
        have w81 : T3.1 81 j2 = nI p := (km03.1 81 j2 (by omega) (by omega) (by omega) (by omega)).trans t5
        have l3 := c4.2.2.1
        have l5 := c4.2.1.2.2
        have l7 := c4.2.2.2.1.2.2
        have gb := g_33 (l := l) (Gr := Gr) (n := n) (w := w) (d := d) (b := b) (t := t) hg (LX_ci (i := i2) c4 hi) v4 l3 (by omega)
        have e3 := kMust_v (S := S3) (i := i2) (wt := 0) l3 (by omega) hr' hpb' (by omega) d1 v6
        rw [show nI 0 = 0 from rfl] at e3
        rw [kMust_c (c := 6) (by omega) (by omega), v6, e3, kTop_t l3 (by omega), d1] at gb
        have p5 : (kPop S3).1 39 3 = nI (tp + 1) := kPop_3 l3
        have f5 : (kPop S3).1 3 5 = 0 := (kPop_c (by omega)).trans l5
        have cg3 : CG l Gr n w d S i S3 i2 := CG_tr cg2 c1
        have rg3 : RG l Gr n w d T j T3 j2 := RG_tr rg2 c3
        have pubs : nI (r' + 2 * pb') &&& 2 = 0 ↔ pb' = 0 := by
          rw [(pt_1 hr' hpb').2]
          exact ⟨fun q => by have := (nI_eq (a := 2 * pb') (b := 0) (by omega) (by omega)).mp q; omega, fun q => by rw [q]; rfl⟩
        have pubT : T3.1 100 (mp + 1) = 0 ↔ pb' = 0 := by
          rw [d3]
          exact nI_eq (a := pb') (b := 0) (by omega) (by omega)
        have srt : T3.1 98 (mp + 1) = 0 ↔ r' = 0 := by
          rw [d2]
          exact nI_eq (a := r') (b := 0) (by omega) (by omega)
        by_cases zr : r' = 0
        · rw [if_pos zr] at gb
          by_cases zp : pb' = 0
          · right
            have rb := r_11b (l := l) (Gr := Gr) (n := n) (w := w) (d := d) hg (LX_ri (j := j2) c4 hj) w78 c4.2.2.2.2.1 hmp (srt.mpr zr) (pubT.mpr zp)
            rw [d4] at rb
            have ek : kPub (kPop S3) (nI (r' + 2 * pb')) (nI p2) = kT (kPop S3) 6 (nI p2) := by unfold kPub; rw [if_pos (pubs.mpr zp)]
            rw [ek] at gb
            have u := kT_0 (g := 6) (pl := nI p2) f5
            exact FLT_pre cg3 k3 rg3 (by omega) (FLT_1 (g := 6) (pl := nI p2) l5 (by decide) (Nat.le_refl _) gb.1 gb.2 u.1 u.2 rb mF_f.1 mF_f.2)
          · left
            have rb := r_11 (l := l) (Gr := Gr) (n := n) (w := w) (d := d) hg (LX_ri (j := j2) c4 hj) w78 c4.2.2.2.2.1 hmp (srt.mpr zr) (fun q => zp (pubT.mp q))
            rw [d4, w81] at rb
            have ek : kPub (kPop S3) (nI (r' + 2 * pb')) (nI p2) = kPop S3 := by unfold kPub; rw [if_neg (fun q => zp (pubs.mp q))]
            rw [ek] at gb
            have kc4 : KKc S3 (kPop S3) i (i2 + 1) tp := ⟨fun c k q1 q2 q3 q4 => kPop_c q3, fun _ _ => rfl⟩
            have km4 : KKm T3 (zi (zi (zi (zi T3 106 j2 (nI p2)) 73 43 (nI (mp + 1))) 98 mp 1) 99 mp (nI p)) j (j2 + 1) mp c := ⟨fun c' k q1 q2 q3 q4 => by rw [zi_get, if_neg (by omega), zi_get, if_neg (by omega), zi_get, if_neg (by omega), zi_get, if_neg (by omega)], fun _ _ => rfl⟩
            have ek2 := kR_s (b := b) (t := t) k3 l5 (by omega)
            rw [gb.1] at ek2
            have h40 : (kPop S3).1 40 tp = nI (1 + 2 * pb) := by
              rw [kPop_c (by omega), c5.1 40 tp (by omega) (by omega) (by omega) (by omega)]
              exact kp.2
            have h100 : T3.1 100 mp = nI pb := (c6.1 100 mp (by omega) (by omega) (by omega) (by omega)).trans b3
            rw [z] at b5
            rw [zr] at d5
            have kcF : KKc S (kPop S3) i (i2 + 1) tp := KKc_tr kc03 kc4 (by omega) (Nat.le_refl _) (Nat.le_refl _)
            have anS3 : anS S3 (kPop S3) i (i2 + 1) := fun c k q => kPop_c (by omega)
            have anT3 : anT T3 (zi (zi (zi (zi T3 106 j2 (nI p2)) 73 43 (nI (mp + 1))) 98 mp 1) 99 mp (nI p)) j j2 := ⟨fun c' k q => by rw [zi_get, if_neg (by omega), zi_get, if_neg (by omega), zi_get, if_neg (by omega), zi_get, if_neg (by omega)], fun _ => rfl⟩
            have kmF : KKm T (zi (zi (zi (zi T3 106 j2 (nI p2)) 73 43 (nI (mp + 1))) 98 mp 1) 99 mp (nI p)) j (j2 + 1) mp c := KKm_tr km03 km4 (by omega) (Nat.le_refl _) (Nat.le_refl _) (Nat.le_refl _)
            have bx5 := aX_bnd b5
            have bx6 := aX_bnd d5
            have x1 : aX w D A 0 S2 T1 (i + 1) i1 (j + 1) j1 := aX_k b5 (fun c k q => by rw [eS2, kPush_c p3 (by omega) (by omega) (by omega), kPop_c (by omega)]) anT_rfl
            have x2 : aX w D A 0 S3 T3 (i + 1) i1 (j + 1) j1 := aX_k x1 (anS_k c5 (Or.inl (by omega))) (anT_k c6 (Or.inl (by omega)))
            refine ⟨_, _, CG_tr cg3 gb.2, ek2, RG_tr rg3 rb, LX_k c4 kc4 km4 f5 p5 ?_ ?_ ?_, kcF, kmF, 1, pb, by omega, hpb, h40, ?_, ?_, zi_v, aX_bit ⟨p2, i1, j1, i2, j2, aX_k x2 (anS_sub anS3 (by omega) (by omega)) (anT_sub anT3 (by omega) (by omega)), aX_k d5 (anS_sub anS3 (by omega) (by omega)) (anT_sub anT3 (by omega) (by omega)), rfl, rfl, rfl, (kcF.1 4 i (by omega) (by omega) (by omega) (by omega)).trans s1, (kcF.1 4 i1 (by omega) (by omega) (by omega) (by omega)).trans s2, (kcF.1 4 i2 (by omega) (by omega) (by omega) (by omega)).trans s4, (kcF.1 6 i2 (by omega) (by omega) (by omega) (by omega)).trans s5, (kmF.1 78 j (by omega) (by omega) (by omega) (by omega)).trans t1, (kmF.1 78 j1 (by omega) (by omega) (by omega) (by omega)).trans t2, (kmF.1 78 j2 (by omega) (by omega) (by omega) (by omega)).trans t4, by rw [zi_c (by decide), zi_c (by decide), zi_c (by decide)]; exact zi_v, PB_k (d5p (by omega)) anT3 (by omega) (Nat.le_refl _)⟩, fun y => PB_cat (PB_1 (k := 1) ((kmF.1 78 j (by omega) (by omega) (by omega) (by omega)).trans t1) (by omega) (by omega)) (PB_cat (PB_k (PB_k (b5p y) (anT_k (j := j + 1) (j' := j1) c6 (Or.inl (by omega))) (Nat.le_refl _) (Nat.le_refl _)) anT3 (by omega) (by omega)) (PB_cat (PB_1 (k := 16) ((kmF.1 78 j1 (by omega) (by omega) (by omega) (by omega)).trans t2) (by omega) (by omega)) (PB_cat (PB_k (d5p (by omega)) anT3 (by omega) (Nat.le_refl _)) (PB_1 (k := 11) ((kmF.1 78 j2 (by omega) (by omega) (by omega) (by omega)).trans t4) (by omega) (by omega)))))⟩
            · rw [zi_c (by decide), zi_c (by decide), zi_k (by decide), zi_c (by decide)]; exact l7
            · rw [zi_c (by decide), zi_c (by decide)]; exact zi_v
            · rw [zi_c (by decide), zi_c (by decide), zi_k (by decide), zi_c (by decide)]; exact c4.2.2.2.2.2
            · rw [zi_c (by decide)]; exact zi_v
            · rw [zi_c (by decide), zi_c (by decide), zi_c (by decide), zi_c (by decide)]; exact h100
        · right
          rw [if_neg zr] at gb
          have rb := r_11a (l := l) (Gr := Gr) (n := n) (w := w) (d := d) hg (LX_ri (j := j2) c4 hj) w78 c4.2.2.2.2.1 hmp (fun q => zr (srt.mp q))
          rw [d4] at rb
          have u := kT_0 (g := 5) (pl := nI p2) f5
          have nf : ¬ (kT (kPop S3) 5 (nI p2)).1 3 5 = 0 := by rw [u.1]; decide
          have ek : kPub (kT (kPop S3) 5 (nI p2)) (nI (r' + 2 * pb')) (nI p2) = kT (kPop S3) 5 (nI p2) := by
            unfold kPub
            split
            · exact if_neg nf
            · rfl
          rw [ek] at gb
          exact FLT_pre cg3 k3 rg3 (by omega) (FLT_1 (g := 5) (pl := nI p2) l5 (by decide) (Nat.le_refl _) gb.1 gb.2 u.1 u.2 rb mF_f.1 mF_f.2)
      · exact Or.inr (FLT_pre cg2 k2 rg2 (by omega) (FLT_up hF (by omega)))
    · right
      rw [if_neg z] at gk rk
      have q5 : (kPop S1).1 3 5 = 0 := (kPop_c (by omega)).trans h5
      have u := kT_0 (g := 5) (pl := nI p1) q5
      have y3 : (kT (kPop S1) 5 (nI p1)).1 39 3 = nI tp := (kT_c (by omega)).trans p3
      refine FLT_pre (CG_tr g.2 a1) k1 (RG_tr r1 a3) (by omega) (FLT_1 (g := 5) (pl := nI p1) h5 (by decide) (by omega) gk.1 gk.2 ?_ ?_ rk mF_f.1 mF_f.2)
      · rw [kPush_c y3 (by omega) (by omega) (by omega)]; exact u.1
      · rw [kPush_c y3 (by omega) (by omega) (by omega)]; exact u.2
  · exact Or.inr (FLT_pre g.2 k0 r1 (by omega) (FLT_up hF (by omega)))
end LBt
