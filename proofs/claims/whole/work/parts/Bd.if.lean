/-! SORTS of statements on both sides: if -/
section STJ
variable {l : Launch} {Gr : zG} {n w : Nat} {d : Nat} {A : Nat → Nat → Prop} {b : Nat → Int32} {t N D m m5 tp mp sz mz sc u vw vw' lo hi lo2 hi2 p q i i' i1 i2 i3 j j' j1 j2 j3 x K hd e a r r' pb z vv p1 s k v : Nat} {S0 T0 S S' S'' S5 T T' T'' T5 : zS}
theorem BDS_s {m1 sc1 i3 i4 : Nat} (h : BDS S u lo hi) (hS : KSc S S' i3 i4 m1 sc1 (u + 1)) : BDS S' u lo hi := by
  rcases h with q | ⟨u', q1, q2, q3, q4⟩
  · exact Or.inl q
  · exact Or.inr ⟨u', q1, (KSc_43 hS (Or.inl rfl) (by omega)).trans q2, (KSc_43 hS (Or.inr rfl) (by omega)).trans q3, q4⟩
theorem BDS_1 (h : BDS S (u + 1) lo hi) : S.1 43 u = nI lo ∧ S.1 44 u = nI hi ∧ lo ≤ 256 ∧ hi ≤ 256 := by
  rcases h with ⟨q, -⟩ | ⟨u', q1, q2⟩
  · omega
  · have : u' = u := by omega
    subst this
    exact q2
/-- the if's end on both sides -/
theorem if_fin (hg : ip_gk (lg_tbl, vwCl, Gr)) (h : LSt b t N D m A 0 0 sz mz sc u vw lo hi S T) (cg : CG l Gr n w d S i S5 i3) (kr : S5 = kR b t (i3 - i) i S) (rg : RG l Gr n w d T j T5 j3) (ksc : KSc S S5 i i3 m sc u) (ksm : KSm T T5 j j3 m sc) (hi1 : i ≤ i1) (hi13 : i1 < i3) (hi3 : i3 < sz) (hj3 : j ≤ j3) (hj3' : j3 + 1 < mz) (hsc : sc < 31) (h5 : S5.1 39 5 = nI (sc + 1)) (h41 : S5.1 41 sc = nI m) (h11 : S5.1 8 11 = nI m5) (hm : m ≤ m5) (hm5 : m5 ≤ 800) (h9 : S5.1 39 9 = nI (u + 1)) (h42 : S5.1 42 u = nI vw) (h43 : S5.1 43 u = nI lo2) (h44 : S5.1 44 u = nI hi2) (hlo : lo2 ≤ 256) (hhi : hi2 ≤ 256) (hB : BDS S5 u lo hi) (h3 : S5.1 39 3 = nI 0) (h10 : S5.1 39 10 = nI vw') (hvw : vw ≤ vw' ∧ vw' ≤ 256) (hf : S5.1 3 5 = 0) (t49 : T5.1 73 49 = nI (sc + 1)) (t101 : T5.1 101 sc = nI m) (t43 : T5.1 73 43 = nI 0) (t56 : T5.1 73 56 = 0) (t7 : T5.1 73 7 = 0) (s4 : S5.1 4 i3 = 16) (s5 : S5.1 5 i3 = nI i1) (t37 : T5.1 78 j3 = 37) (t21 : T5.1 78 (j3 + 1) = 21) :
    ∃ lo' hi' S6 T6, CG l Gr n w d S i S6 (i3 + 1) ∧ S6 = kR b t (i3 + 1 - i) i S ∧ RG l Gr n w d T j T6 (j3 + 2) ∧ LSt b t N D m A 0 0 sz mz sc u vw' lo' hi' S6 T6 ∧ KSc S S6 i (i3 + 1) m sc u ∧ KSm T T6 j (j3 + 2) m sc ∧ lo' ≤ lo ∧ hi ≤ hi' ∧ lo' ≤ lo2 ∧ hi2 ≤ hi' ∧ S6.1 5 i1 = nI lo2 ∧ S6.1 7 i1 = nI (min hi2 vw - lo2) ∧ (∀ c k, ¬ (c = 39 ∧ (k = 5 ∨ k = 9)) → ¬ (c = 8 ∧ k = 11) → ¬ ((c = 5 ∨ c = 7) ∧ k = i1) → ¬ ((c = 43 ∨ c = 44) ∧ k + 1 = u) → S6.1 c k = S5.1 c k) ∧ (∀ c k, ¬ (c = 73 ∧ (k = 34 ∨ k = 49)) → T6.1 c k = T5.1 c k) ∧ (∀ c k, T6.2 c k = T5.2 c k) := by
  have hL := h.1
  have hs4 := hL.2.1.2.1
  have hm4 := hL.2.2.2.1.2.1
  have hus := h.2.2.2.1.2
  have ci : CIx S5 i3 sz := ⟨(ksc.1 3 4 (by omega) (by omega) (by omega) (by omega) (by omega) (by omega) (by omega) (by omega) (by omega)).trans hL.2.1.1, hs4, hf, hi3⟩
  have ri : RIx T5 j3 mz := ⟨(KSm_73 ksm (by omega)).trans hL.2.2.2.1.1, hm4, t7, by omega⟩
  have gk := g_16 (l := l) (Gr := Gr) (n := n) (w := w) (d := d) (b := b) (t := t) hg ci s4 h5 hsc s5 (by omega) h9 (by omega)
  rw [kClose_c (c := 5) (by omega) (by omega), s5, nI_clamp (by omega)] at gk
  have rk := r_37 (l := l) (Gr := Gr) (n := n) (w := w) (d := d) hg ri t37 t49 (by omega)
  rw [t101] at rk
  obtain ⟨lo', hi', n1, n2, n3, n4, n5, n6, n7, n8, n9, n10, n11, n12⟩ := if_16 (hd := i1) h5 hsc h41 h11 hm hm5 h9 hus h42 (by omega) h43 h44 hlo hhi hB
  obtain ⟨S6, eS6⟩ : ∃ S6, S6 = kCloseIf (kClose S5) i1 := ⟨_, rfl⟩
  rw [← eS6] at gk n1 n6 n7 n8 n9 n10 n11 n12
  obtain ⟨T6, eT6⟩ : ∃ T6, T6 = zi (zi T5 73 49 (nI sc)) 73 34 (nI m) := ⟨_, rfl⟩
  rw [← eT6] at rk
  have y3 : ∀ c k, ¬ (c = 73 ∧ (k = 34 ∨ k = 49)) → T6.1 c k = T5.1 c k := fun c k q => by rw [eT6, zi_get, if_neg (by omega), zi_get, if_neg (by omega)]
  have y32 : ∀ c k, T6.2 c k = T5.2 c k := fun _ _ => by rw [eT6]; rfl
  have v34 : T6.1 73 34 = nI m := by rw [eT6]; exact zi_v
  have v49 : T6.1 73 49 = nI sc := by rw [eT6, zi_k (by decide)]; exact zi_v
  have ksc6 : KSc S5 S6 i (i3 + 1) m sc u := ⟨fun c k q1 q2 q3 q4 q5 q6 q7 q8 q9 => n6 c k (fun y => q5 ⟨y.1, by omega⟩) q3 (fun y => q2 ⟨y.1, by omega⟩) (fun y => q9 ⟨y.1, by omega⟩), n7⟩
  have ksm6 : KSm T5 T6 j (j3 + 2) m sc := ⟨fun c k q1 q2 q3 q4 q5 q6 => y3 c k (fun y => q1 ⟨y.1, by omega⟩), y32⟩
  have KC : KSc S S6 i (i3 + 1) m sc u := KSc_tr ksc ksc6 (by omega) (Nat.le_refl _) (Nat.le_refl _) (Nat.le_refl _) (Nat.le_refl _)
  have KM : KSm T T6 j (j3 + 2) m sc := KSm_tr ksm ksm6 (by omega) (Nat.le_refl _) (Nat.le_refl _) (Nat.le_refl _)
  have L6 : LSt b t N D m A 0 0 sz mz sc u vw' lo' hi' S6 T6 := LSt_s h KC KM n10 v34 ((n6 3 5 (by omega) (by omega) (by omega) (by omega)).trans hf) ((n6 39 3 (by omega) (by omega) (by omega) (by omega)).trans h3) ((y3 73 7 (by omega)).trans t7) ((y3 73 43 (by omega)).trans t43) ((y3 73 56 (by omega)).trans t56) n8 v49 n9 ((n6 39 10 (by omega) (by omega) (by omega) (by omega)).trans h10) hvw n1
  have r21 := r_21 (l := l) (Gr := Gr) (n := n) (w := w) (d := d) hg (LSt_ri L6 (j := j3 + 1) hj3') ((y3 78 (j3 + 1) (by omega)).trans t21)
  refine ⟨lo', hi', S6, T6, CG_tr cg gk.2, ?_, RG_tr rg (RG_tr rk r21), L6, KC, KM, n2, n3, n4, n5, n11, n12, n6, y3, y32⟩
  rw [← gk.1]
  exact kR_s kr hf (by omega)
/-- if ( EXPR ) BLOCK else BLOCK -/
theorem st_if (hg : ip_gk (lg_tbl, vwCl, Gr)) (IH : SIH l Gr n w d b t N D sz mz S0 T0 K) (g : sIf w S0 T0 (nid b t T0) (gS w S0 T0 (nid b t T0) D K) vw vw' p i i' j j') (cs : cgS S0 S i i') (ct : cgU T0 T j j') (hn : nmS S0 S D) (hni : ∀ v p, nid b t T0 v p → nid b t T v p) (h : LSt b t N D m A 0 0 sz mz sc u vw lo hi S T) (hsz : i' ≤ sz) (hmz : j' ≤ mz) (hB : HB S0 i i' 0 0 0) (hK : sc + (K + 1) ≤ 31) : STO l Gr n w d b t N D sz mz sc u lo hi vw vw' m A S T p i i' j j' := by
  obtain ⟨p1, i1, j1, k2, i2, j2, k3, i3, j3, vw2, gx, l2, l3, e1, e2, f1, f2, f3, f4, f5, f6, f7, f8, f9, g1, g2, g3, g4, g5, g6, hc⟩ := g
  subst e1 e2
  have bx := gX_bnd gx
  have bd := gS_bnd (w := w) (S := S0) (T := T0) (ni := nid b t T0) (D := D) K
  have b2 := gL_bnd bd _ _ _ _ _ _ _ l2
  have b3 := gL_bnd bd _ _ _ _ _ _ _ l3
  have bJ : j2 ≤ (if k3 = 0 ∧ T0.1 80 j1 = nI j3 then j2 else j2 + 1) := by split <;> omega
  have hL := h.1
  have hs4 := hL.2.1.2.1
  have hm4 := hL.2.2.2.1.2.1
  have h5 := hL.2.1.2.2
  have c0 := cs i (by omega) (by omega)
  have c1 := cs i1 (by omega) (by omega)
  have c2 := cs i2 (by omega) (by omega)
  have c3 := cs i3 (by omega) (by omega)
  have t0 := ct.1 j (by omega) (by omega)
  have t1 := ct.1 j1 (by omega) (by omega)
  have t3 := ct.1 j3 (by omega) (by omega)
  have t4 := ct.1 (j3 + 1) (by omega) (by omega)
  have gs := g_step (l := l) (Gr := Gr) (n := n) (w := w) (d := d) (b := b) (t := t) (LSt_ci h (i := i) (by omega)) (c0.1.trans f1) hg
  have r0 := r_20 (l := l) (Gr := Gr) (n := n) (w := w) (d := d) hg (LSt_ri h (j := j) (by omega)) (t0.1.trans g1)
  have k0 := k_1 h5 gs.1
  have n1 := NE_1 (S := S0) (e1 := 0) (e2 := 0) f1 (by decide) (by decide) (by decide)
  rcases st_x (l := l) (Gr := Gr) (n := n) (w := w) (d := d) hg gx (cgS_sub cs (by omega) (by omega)) (cgT_sub ct.1 (by omega) (by omega)) hni h (by omega) (by omega) (HB_le hB n1 (by omega) (by omega) (by omega)) with ⟨S1, T1, r', pb, a1, a2, a3, a4, a5, a6, hr', hpb, b1, b2', b3', b4, b5, -⟩ | hF
  · have kk1 := kR_cat k0 a2 (by omega) (by omega)
    have cg1 := CG_tr gs.2 a1
    have rg1 := RG_tr r0 a3
    have ksc1 : KSc S S1 i i1 m sc u := KSc_x a5 (by omega) (Nat.le_refl _)
    have ksm1 : KSm T T1 j j1 m sc := KSm_x a6 (by omega) (Nat.le_refl _)
    rcases if_op (l := l) (Gr := Gr) (n := n) (w := w) (d := d) (b := b) (i := i1) (j := j1) hg a4 (by omega) (by omega) (by omega) ((KKc_C a5 (Or.inl rfl)).trans (c1.1.trans f3)) ((KKc_C a5 (Or.inr rfl)).trans (c1.2.2.1.trans f4)) ((KKm_C a6 (by omega)).trans (t1.1.trans g3)) hr' hpb b1 b2' b4 with ⟨S2, T2, d1, d2, d3, d4, x3, x32, x41, x42, y3, y32, y101, zr⟩ | hF
    · have kk2 : S2 = kR b t (i1 + 1 - i) i S := by
        rw [← d2]
        exact kR_s kk1 a4.1.2.1.2.2 (by omega)
      have cg2 := CG_tr cg1 d1
      have rg2 := RG_tr rg1 d3
      have ksc2' : KSc S1 S2 i1 (i1 + 1) m sc u := ⟨fun c k q1 q2 q3 q4 q5 q6 q7 q8 q9 => x3 c k (fun y => q5 ⟨y.1, by omega⟩) (fun y => q7 ⟨y.1, by omega⟩) (fun y => by
        rcases y.1 with e | e | e
        · exact q8 ⟨e, by omega⟩
        · exact q9 ⟨Or.inl e, by omega⟩
        · exact q9 ⟨Or.inr e, by omega⟩), x32⟩
      have ksm2' : KSm T1 T2 j1 (j1 + 1) m sc := ⟨fun c k q1 q2 q3 q4 q5 q6 => y3 c k (fun y => q1 ⟨y.1, by omega⟩) (fun y => q3 ⟨y.1, by omega⟩), y32⟩
      have ksc2 : KSc S S2 i (i1 + 1) m sc u := KSc_tr ksc1 ksc2' (by omega) (by omega) (Nat.le_refl _) (Nat.le_refl _) (Nat.le_refl _)
      have ksm2 : KSm T T2 j (j1 + 1) m sc := KSm_tr ksm1 ksm2' (by omega) (by omega) (Nat.le_refl _) (Nat.le_refl _)
      have B1 : BDS S1 u lo hi := a4.2.2.2.2.2.1
      have B2 : BDS S2 u lo hi := by
        rcases B1 with q | ⟨u', q1, q2, q3, q4⟩
        · exact Or.inl q
        · exact Or.inr ⟨u', q1, (x3 43 u' (by omega) (by omega) (by omega)).trans q2, (x3 44 u' (by omega) (by omega) (by omega)).trans q3, q4⟩
      have n2 := NE_app (NE_app n1 (gX_ne gx (by omega))) (NE_1 (S := S0) (e1 := -1) (e2 := 0) f3 (by decide) (by decide) (by decide))
      have cs2 := cs_s (cgS_sb cs (i1 := i1 + 1) (i2 := i3 + 1) (by omega) (Nat.le_refl _)) ksc2 (Nat.le_refl _)
      have ct2 := cu_s (cgU_sb ct (j1 := j1 + 1) (j2 := j3 + 2) (by omega) (Nat.le_refl _)) ksm2 (Nat.le_refl _)
      have anX2 : aX w D A 1 S2 T2 (i + 1) i1 (j + 1) j1 := by
        rw [zr] at b5
        exact aX_k b5 (anS_s ksc2' (Or.inl (Nat.le_refl _))) (anU_T (anU_s ksm2' (Or.inl (Nat.le_refl _))))
      rcases st_lst (l := l) (Gr := Gr) (n := n) (w := w) (d := d) IH k2 vw vw2 (i1 + 1) i2 (j1 + 1) j2 l2 (cgS_sb cs2 (Nat.le_refl _) (by omega)) (cgU_sb ct2 (Nat.le_refl _) (by omega)) (nm_s hn ksc2) (fun v p y => nid_s (hni v p y) ksm2) d4 (by omega) (by omega) (HB_le hB n2 (by omega) (by omega) (by omega)) (by omega) with ⟨m3, A3, lo1, hi1, S3, T3, o1, o2, o3, o4, o5, o6, o7, o8, o9, o10⟩ | hF
      · have kk3 := kR_cat kk2 o2 (by omega) (by omega)
        have cg3 := CG_tr cg2 o1
        have rg3 := RG_tr rg2 o3
        have cs3 := cs_s (cgS_sb cs2 (i1 := i2) (i2 := i3 + 1) (by omega) (Nat.le_refl _)) o5 (Nat.le_refl _)
        have ct3 := cu_s (cgU_sb ct2 (j1 := j2) (j2 := j3 + 2) (by omega) (Nat.le_refl _)) o6 (Nat.le_refl _)
        have hL3 := o4.1
        have m38 := hL3.1.2.1.2.1
        have q3 := cs3 i2 (by omega) (by omega)
        have v41 : S3.1 41 sc = nI m := (KSc_41 o5 (by omega)).trans x41
        have v42 : S3.1 42 u = nI vw := (KSc_42 o5 (by omega)).trans x42
        have w101 : T3.1 101 sc = nI m := (KSm_101 o6 (by omega)).trans y101
        have B3 := BDS_s B2 o5
        have gk := g_15 (l := l) (Gr := Gr) (n := n) (w := w) (d := d) (b := b) (t := t) hg (LSt_ci o4 (i := i2) (by omega)) (q3.1.trans f5) o4.2.2.1.1 (by omega)
        obtain ⟨z1, z2, z3⟩ := if_15 o4.2.2.1.1 (by omega) v41 hL3.1.2.1.1 o7 m38
        obtain ⟨S4, eS4⟩ : ∃ S4, S4 = kOpen (kClose S3) := ⟨_, rfl⟩
        rw [← eS4] at gk z1 z2 z3
        have kk4 : S4 = kR b t (i2 + 1 - i) i S := by
          rw [← gk.1]
          exact kR_s kk3 hL3.2.1.2.2 (by omega)
        have cg4 := CG_tr cg3 gk.2
        have ksc4' : ∀ {mm scc uu : Nat}, KSc S3 S4 i2 (i2 + 1) mm scc uu := ⟨fun c k q1 q2 q3 q4 q5 q6 q7 q8 q9 => z1 c k q3, z3⟩
        have ksc03 : KSc S S3 i i2 m sc u := KSc_tr ksc2 o5 (by omega) (by omega) (Nat.le_refl _) (by omega) (by omega)
        have ksc04 : KSc S S4 i (i2 + 1) m sc u := KSc_tr ksc03 ksc4' (by omega) (by omega) (Nat.le_refl _) (Nat.le_refl _) (Nat.le_refl _)
        have ksm03 : KSm T T3 j j2 m sc := KSm_tr ksm2 o6 (by omega) (by omega) (Nat.le_refl _) (by omega)
        have B4 : BDS S4 u lo hi := BDS_s (i3 := i2) (i4 := i2 + 1) (m1 := 0) (sc1 := 0) B3 ksc4'
        have ksc24 : KSc S2 S4 (i1 + 1) (i2 + 1) m (sc + 1) (u + 1) := KSc_tr o5 ksc4' (by omega) (by omega) (Nat.le_refl _) (Nat.le_refl _) (Nat.le_refl _)
        have lv := BDS_1 o4.2.2.2.2.2.1
        rcases hc with ⟨hk0, h80⟩ | ⟨h80, hne, g36, g79, g80⟩
        · -- without else
          subst hk0
          rw [if_pos ⟨rfl, h80⟩] at l3
          obtain ⟨ei, ej, ew⟩ := l3
          subst ei ej ew
          have cs4 := cs_s (cgS_sb cs3 (i1 := i2 + 1) (i2 := i2 + 1 + 1) (by omega) (Nat.le_refl _)) (ksc4' (mm := 0) (scc := 0) (uu := 0)) (Nat.le_refl _)
          have q4 := cs4 (i2 + 1) (by omega) (by omega)
          have u4 := ct3.1 j3 (by omega) (by omega)
          have u5 := ct3.1 (j3 + 1) (by omega) (by omega)
          obtain ⟨lo', hi', S6, T6, e1, e2, e3, e4, e5, e6, e7, e8, e9, e10, e11, e12, e13, e14, e15⟩ := if_fin (lo2 := lo1) (hi2 := hi1) (m5 := m) (vw' := vw') hg h cg4 kk4 rg3 ksc04 ksm03 (i1 := i1) (by omega) (by omega) (by omega) (by omega) (by omega) (by omega) ((z1 39 5 (by omega)).trans o4.2.2.1.1) ((z1 41 sc (by omega)).trans v41) z2 (Nat.le_refl _) hL.1.2.1.2.1 ((z1 39 9 (by omega)).trans o4.2.2.2.1.1) ((z1 42 u (by omega)).trans v42) ((z1 43 u (by omega)).trans lv.1) ((z1 44 u (by omega)).trans lv.2.1) lv.2.2.1 lv.2.2.2 B4 ((z1 39 3 (by omega)).trans hL3.2.2.1) ((z1 39 10 (by omega)).trans o4.2.2.2.2.1.1) (by
              have := o4.2.2.2.2.1.2
              have hw := gL_vw (gS_vw (w := w) (S := S0) (T := T0) (ni := nid b t T0) (D := D) K) _ _ _ _ _ _ _ l2
              omega) ((z1 3 5 (by omega)).trans hL3.2.1.2.2) o4.2.2.1.2 w101 hL3.2.2.2.2.1 hL3.2.2.2.2.2 hL3.2.2.2.1.2.2 (q4.1.trans f7) (q4.2.1.trans f8) (u4.1.trans g4) (u5.1.trans g6)
          have anF : anS S2 S6 (i + 1) i1 := fun c k q => (e13 c k (by omega) (by omega) (by omega) (by omega)).trans ((z1 c k (by omega)).trans (anS_s o5 (i := i + 1) (i' := i1) (Or.inl (by omega)) c k q))
          have anG : anU T2 T6 (j + 1) j1 := ⟨fun c k q => (e14 c k (by omega)).trans ((anU_s o6 (j := j + 1) (j' := j1) (Or.inl (by omega))).1 c k q), fun k => (e15 82 k).trans (o6.2 82 k)⟩
          have an2 : anS S3 S6 (i1 + 1) i2 := fun c k q => (e13 c k (by omega) (by omega) (by omega) (by omega)).trans (z1 c k (by omega))
          have an3 : anU T3 T6 (j1 + 1) j3 := ⟨fun c k q => e14 c k (by omega), fun k => e15 82 k⟩
          have t80 : T6.1 80 j1 = nI j3 := (e14 80 j1 (by omega)).trans ((KSm_80 o6 (Or.inl rfl) (Or.inl (by omega))).trans ((y3 80 j1 (by omega) (by omega)).trans ((KKm_80 a6 (Or.inl rfl) (Or.inr (Nat.le_refl _))).trans (t1.2.2.1.trans h80))))
          have s55 : ∀ k, i1 < k → S6.1 5 k = S4.1 5 k := fun k q => e13 5 k (by omega) (by omega) (by omega) (by omega)
          refine Or.inl ⟨m, A, lo', hi', S6, T6, e1, e2, e3, e4, e5, e6, Nat.le_refl _, e7, e8, aT_if ⟨i1, j1, k2, i2, j3, 0, i2 + 1, j3, lo1, hi1, vw', A3, A, aX_k anX2 anF (anU_T anG), aL_T (Nat.le_refl _) (Nat.le_refl _) o10 an2 an3, ?_, rfl, e9, lv.2.2.1, e10, lv.2.2.2, h.2.2.2.2.1.2, rfl, rfl, (KSc_C e5 (Or.inl rfl)).trans (c0.1.trans f1), (KSc_C e5 (Or.inr rfl)).trans (c0.2.2.1.trans f2), (KSc_C e5 (Or.inl rfl)).trans (c1.1.trans f3), e11, e12, (KSc_C e5 (Or.inl rfl)).trans (c2.1.trans f5), (s55 i2 (by omega)).trans ((z1 5 i2 (by omega)).trans (q3.2.1.trans f6)), (KSc_C e5 (Or.inl rfl)).trans (c3.1.trans f7), (s55 (i2 + 1) (by omega)).trans (q4.2.1.trans f8), (KSc_C e5 (Or.inr rfl)).trans (c3.2.2.1.trans f9), (KSm_C e6 (by omega)).trans (t0.1.trans g1), (KSm_C e6 (by omega)).trans (t0.2.2.2.1.trans g2), (KSm_C e6 (by omega)).trans (t1.1.trans g3), (KSm_C e6 (by omega)).trans (t3.1.trans g4), (KSm_C e6 (by omega)).trans (t4.1.trans g6), Or.inl ⟨rfl, t80⟩⟩⟩
          rw [if_pos ⟨rfl, t80⟩]
          exact ⟨rfl, rfl, rfl, rfl⟩
        · -- with else
          rw [if_neg (fun y => hne y.2)] at l3
          have b3 := gL_bnd bd _ _ _ _ _ _ _ l3
          have u2 := ct3.1 j2 (by omega) (by omega)
          have rk := r_36 (l := l) (Gr := Gr) (n := n) (w := w) (d := d) hg (LSt_ri o4 (j := j2) (by omega)) (u2.1.trans g36) o4.2.2.1.2 (by omega)
          rw [w101] at rk
          obtain ⟨T4, eT4⟩ : ∃ T4, T4 = zi T3 73 34 (nI m) := ⟨_, rfl⟩
          rw [← eT4] at rk
          have y4 : ∀ c k, ¬ (c = 73 ∧ k = 34) → T4.1 c k = T3.1 c k := fun c k q => by rw [eT4, zi_get, if_neg q]
          have y42 : ∀ c k, T4.2 c k = T3.2 c k := fun _ _ => by rw [eT4]; rfl
          have rg4 := RG_tr rg3 rk
          have ksm4' : ∀ {mm scc : Nat}, KSm T3 T4 j2 (j2 + 1) mm scc := ⟨fun c k q1 q2 q3 q4 q5 q6 => y4 c k (fun y => q1 ⟨y.1, by omega⟩), y42⟩
          have ksm04 : KSm T T4 j (j2 + 1) m sc := KSm_tr ksm03 ksm4' (by omega) (by omega) (Nat.le_refl _) (Nat.le_refl _)
          have ksm24 : KSm T2 T4 (j1 + 1) (j2 + 1) m (sc + 1) := KSm_tr o6 ksm4' (by omega) (by omega) (Nat.le_refl _) (Nat.le_refl _)
          have hw2 := gL_vw (gS_vw (w := w) (S := S0) (T := T0) (ni := nid b t T0) (D := D) K) _ _ _ _ _ _ _ l2
          have hw3 := gL_vw (gS_vw (w := w) (S := S0) (T := T0) (ni := nid b t T0) (D := D) K) _ _ _ _ _ _ _ l3
          have L4 : LSt b t N D m A 0 0 sz mz (sc + 1) (u + 1) vw2 lo1 hi1 S4 T4 := LSt_s d4 ksc24 ksm24 z2 (by rw [eT4]; exact zi_v) ((z1 3 5 (by omega)).trans hL3.2.1.2.2) ((z1 39 3 (by omega)).trans hL3.2.2.1) ((y4 73 7 (by omega)).trans hL3.2.2.2.1.2.2) ((y4 73 43 (by omega)).trans hL3.2.2.2.2.1) ((y4 73 56 (by omega)).trans hL3.2.2.2.2.2) ((z1 39 5 (by omega)).trans o4.2.2.1.1) ((y4 73 49 (by omega)).trans o4.2.2.1.2) ((z1 39 9 (by omega)).trans o4.2.2.2.1.1) ((z1 39 10 (by omega)).trans o4.2.2.2.2.1.1) ⟨hw2, o4.2.2.2.2.1.2⟩ (BDS_k o4.2.2.2.2.2.1 (fun k => ⟨z1 43 k (by omega), z1 44 k (by omega)⟩))
          have cs4 := cs_s (cgS_sb cs3 (i1 := i2 + 1) (i2 := i3 + 1) (by omega) (Nat.le_refl _)) (ksc4' (mm := 0) (scc := 0) (uu := 0)) (Nat.le_refl _)
          have ct4 := cu_s (cgU_sb ct3 (j1 := j2 + 1) (j2 := j3 + 2) (by omega) (Nat.le_refl _)) (ksm4' (mm := 0) (scc := 0)) (Nat.le_refl _)
          have n3 := NE_app (NE_app n2 (gL_ne (S := S0) (gS_ne (w := w) (T := T0) (ni := nid b t T0) (D := D) K) bd _ _ _ _ _ _ _ l2 (by omega))) (NE_1 (S := S0) (e1 := 0) (e2 := 0) f5 (by decide) (by decide) (by decide))
          rcases st_lst (l := l) (Gr := Gr) (n := n) (w := w) (d := d) IH k3 vw2 vw' (i2 + 1) i3 (j2 + 1) j3 l3 (cgS_sb cs4 (Nat.le_refl _) (by omega)) (cgU_sb ct4 (Nat.le_refl _) (by omega)) (nm_s hn ksc04) (fun v p y => nid_s (hni v p y) ksm04) L4 (by omega) (by omega) (HB_le hB n3 (by omega) (by omega) (by omega)) (by omega) with ⟨m5, A5, lo2, hi2, S5, T5, v1, v2, v3, v4, v5, v6, v7, v8, v9, v10⟩ | hF
          · have kk5 := kR_cat kk4 v2 (by omega) (by omega)
            have cs5 := cs_s (cgS_sb cs4 (i1 := i3) (i2 := i3 + 1) (by omega) (Nat.le_refl _)) v5 (Nat.le_refl _)
            have ct5 := cu_s (cgU_sb ct4 (j1 := j3) (j2 := j3 + 2) (by omega) (Nat.le_refl _)) v6 (Nat.le_refl _)
            have hL5 := v4.1
            have q5 := cs5 i3 (by omega) (by omega)
            have u5 := ct5.1 j3 (by omega) (by omega)
            have u6 := ct5.1 (j3 + 1) (by omega) (by omega)
            have lv5 := BDS_1 v4.2.2.2.2.2.1
            obtain ⟨lo', hi', S6, T6, e1, e2, e3, e4, e5, e6, e7, e8, e9, e10, e11, e12, e13, e14, e15⟩ := if_fin (lo2 := lo2) (hi2 := hi2) (m5 := m5) (vw' := vw') hg h (CG_tr cg4 v1) kk5 (RG_tr rg4 v3) (KSc_tr ksc04 v5 (by omega) (by omega) (Nat.le_refl _) (by omega) (by omega)) (KSm_tr ksm04 v6 (by omega) (by omega) (Nat.le_refl _) (by omega)) (i1 := i1) (by omega) (by omega) (by omega) (by omega) (by omega) (by omega) v4.2.2.1.1 ((KSc_41 v5 (by omega)).trans ((z1 41 sc (by omega)).trans v41)) hL5.1.2.1.1 v7 hL5.1.2.1.2.1 v4.2.2.2.1.1 ((KSc_42 v5 (by omega)).trans ((z1 42 u (by omega)).trans v42)) lv5.1 lv5.2.1 lv5.2.2.1 lv5.2.2.2 (BDS_s B4 v5) hL5.2.2.1 v4.2.2.2.2.1.1 (by
              have := v4.2.2.2.2.1.2
              omega) hL5.2.1.2.2 v4.2.2.1.2 ((KSm_101 v6 (by omega)).trans ((y4 101 sc (by omega)).trans w101)) hL5.2.2.2.2.1 hL5.2.2.2.2.2 hL5.2.2.2.1.2.2 (q5.1.trans f7) (q5.2.1.trans f8) (u5.1.trans g4) (u6.1.trans g6)
            have an45 : ∀ {a c : Nat}, c ≤ i2 → a ≤ c → (i1 < a ∨ c ≤ i1) → anS S3 S6 a c := fun {a c} h1 h2 h3 cc k q => (e13 cc k (by omega) (by omega) (by omega) (by omega)).trans ((anS_s v5 (i := a) (i' := c) (Or.inl (by omega)) cc k q).trans (z1 cc k (by omega)))
            have un45 : ∀ {a c : Nat}, c ≤ j2 → anU T3 T6 a c := fun {a c} h1 => ⟨fun cc k q => (e14 cc k (by omega)).trans (((anU_s v6 (j := a) (j' := c) (Or.inl (by omega))).1 cc k q).trans (y4 cc k (by omega))), fun k => (e15 82 k).trans ((v6.2 82 k).trans (y42 82 k))⟩
            have anF : anS S2 S6 (i + 1) i1 := fun c k q => (an45 (a := i + 1) (c := i1) (by omega) (by omega) (Or.inr (Nat.le_refl _)) c k q).trans (anS_s o5 (i := i + 1) (i' := i1) (Or.inl (by omega)) c k q)
            have anG : anU T2 T6 (j + 1) j1 := ⟨fun c k q => ((un45 (a := j + 1) (c := j1) (by omega)).1 c k q).trans ((anU_s o6 (j := j + 1) (j' := j1) (Or.inl (by omega))).1 c k q), fun k => ((un45 (a := 0) (c := 0) (by omega)).2 k).trans (o6.2 82 k)⟩
            have t80 : ∀ y, y = T0.1 80 j1 → T6.1 80 j1 = y := fun y ey => by
              rw [ey]
              exact (e14 80 j1 (by omega)).trans ((KSm_80 v6 (Or.inl rfl) (Or.inl (by omega))).trans ((y4 80 j1 (by omega)).trans ((KSm_80 o6 (Or.inl rfl) (Or.inl (by omega))).trans ((y3 80 j1 (by omega) (by omega)).trans ((KKm_80 a6 (Or.inl rfl) (Or.inr (Nat.le_refl _))).trans t1.2.2.1)))))
            have t8 := t80 _ rfl
            have t802 : T6.1 80 j2 = nI j3 := (e14 80 j2 (by omega)).trans ((KSm_80 v6 (Or.inl rfl) (Or.inl (by omega))).trans ((y4 80 j2 (by omega)).trans (u2.2.2.1.trans g80)))
            have s55 : ∀ k, i1 < k → S6.1 5 k = S5.1 5 k := fun k q => e13 5 k (by omega) (by omega) (by omega) (by omega)
            have s5i2 : S6.1 5 i2 = nI i1 := (s55 i2 (by omega)).trans ((KSc_O v5 (Or.inl rfl) (Or.inl (by omega))).trans ((z1 5 i2 (by omega)).trans (q3.2.1.trans f6)))
            refine Or.inl ⟨m, A, lo', hi', S6, T6, e1, e2, e3, e4, e5, e6, Nat.le_refl _, e7, e8, aT_if ⟨i1, j1, k2, i2, j2, k3, i3, j3, lo2, hi2, vw2, A3, A5, aX_k anX2 anF (anU_T anG), aL_T v8 v9 o10 (an45 (Nat.le_refl _) (by omega) (Or.inl (by omega))) (un45 (Nat.le_refl _)), ?_, rfl, e9, lv5.2.2.1, e10, lv5.2.2.2, h.2.2.2.2.1.2, rfl, rfl, (KSc_C e5 (Or.inl rfl)).trans (c0.1.trans f1), (KSc_C e5 (Or.inr rfl)).trans (c0.2.2.1.trans f2), (KSc_C e5 (Or.inl rfl)).trans (c1.1.trans f3), e11, e12, (KSc_C e5 (Or.inl rfl)).trans (c2.1.trans f5), s5i2, (KSc_C e5 (Or.inl rfl)).trans (c3.1.trans f7), (s55 i3 (by omega)).trans (q5.2.1.trans f8), (KSc_C e5 (Or.inr rfl)).trans (c3.2.2.1.trans f9), (KSm_C e6 (by omega)).trans (t0.1.trans g1), (KSm_C e6 (by omega)).trans (t0.2.2.2.1.trans g2), (KSm_C e6 (by omega)).trans (t1.1.trans g3), (KSm_C e6 (by omega)).trans (t3.1.trans g4), (KSm_C e6 (by omega)).trans (t4.1.trans g6), Or.inr ⟨t8.trans h80, by rw [t8]; exact hne, ?_, t802⟩⟩⟩
            · rw [if_neg (fun y => hne (by rw [← t8]; exact y.2))]
              exact aL_T (Nat.le_refl _) (Nat.le_refl _) v10 (fun cc k q => e13 cc k (by omega) (by omega) (by omega) (by omega)) ⟨fun cc k q => e14 cc k (by omega), fun k => e15 82 k⟩
            · exact (KSm_C e6 (by omega)).trans ((ct.1 j2 (by omega) (by omega)).1.trans g36)
          · exact Or.inr (FLT_pre cg4 kk4 rg4 (by omega) (FLT_up hF (by omega)))
      · exact Or.inr (FLT_pre cg2 kk2 rg2 (by omega) (FLT_up hF (by omega)))
    · exact Or.inr (FLT_pre cg1 kk1 rg1 (by omega) (FLT_up hF (by omega)))
  · exact Or.inr (FLT_pre gs.2 k0 r0 (by omega) (FLT_up hF (by omega)))
end STJ
