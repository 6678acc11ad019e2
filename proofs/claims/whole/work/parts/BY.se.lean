/-! SORTS of statements on both sides: assignments -/
section STS
variable {l : Launch} {Gr : zG} {n w : Nat} {d : Nat} {A : Nat → Nat → Prop} {b : Nat → Int32} {t N D m tp mp sz mz sc u vw vw' lo hi p q i i' i1 i2 j j' j1 j2 x K hd e a r r' pb z vv p1 : Nat} {S0 T0 S S' S'' T T' T'' : zS}
theorem k_1 (h5 : S.1 3 5 = 0) {X : zS} (h : kS b t S i = X) : X = kR b t (i + 1 - i) i S := by
  rw [show i + 1 - i = 1 by omega, kR_1 h5]
  exact h.symm
theorem st_sto (hg : ip_gk (lg_tbl, vwCl, Gr)) (h : LSt b t N D m A 1 1 sz mz sc u vw lo hi S T) (hi' : i < sz) (hj : j + 1 < mz) (hsc : sc ≤ 31) (s4 : S.1 4 i = 10) (s5 : S.1 5 i = nI hd) (hhd : hd < 4000) (s6 : S.1 6 i = nI p1) (w5 : S.1 5 hd = nI e) (he : e < D) (s11 : S.1 11 e = 1) (s12 : S.1 12 e = nI r) (hr : r ≤ 1) (s13 : S.1 13 e = 0) (s14 : S.1 14 e = nI a) (l0 : a < 12000) (hA : A e a) (t78 : T.1 78 j = 32) (hv : mv T (T.1 79 j) m = nI vv) (hvv : vv < m) (t91 : T.1 91 vv = 2) (t92 : T.1 92 vv = nI r) (t93 : T.1 93 vv = 0) (t94 : T.1 94 vv = nI a) (t21 : T.1 78 (j + 1) = 21) (hr' : r' ≤ 1) (hpb : pb ≤ 1) (b1 : S.1 40 0 = nI (r' + 2 * pb)) (b2 : T.1 98 0 = nI r') (b4 : T.1 99 0 = nI p1) :
    (∃ lo' hi' S' T', CG l Gr n w d S i S' (i + 1) ∧ kS b t S i = S' ∧ RG l Gr n w d T j T' (j + 2) ∧ LSt b t N D m A 0 0 sz mz sc u vw lo' hi' S' T' ∧ (∀ c k, ¬ ((c = 43 ∨ c = 44) ∧ k + 1 = u) → ¬ (c = 39 ∧ k = 3) → S'.1 c k = S.1 c k) ∧ (∀ c k, S'.2 c k = S.2 c k) ∧ (∀ c k, ¬ (c = 73 ∧ k = 43) → ¬ ((102 ≤ c ∧ c ≤ 107) ∧ k = j) → T'.1 c k = T.1 c k) ∧ (∀ c k, T'.2 c k = T.2 c k) ∧ lo' ≤ lo ∧ hi ≤ hi' ∧ lo' ≤ a ∧ a + 1 ≤ hi' ∧ RFA D A S' T' e j 1 r 0 a ∧ r' = r) ∨ FLT l Gr n w d b t S T i (i + 1) j := by
  have hL := h.1
  have hD := hL.1.1.2.2.2.2
  have hm := hL.1.2.1.2.1
  have l3 := hL.2.2.1
  have l5 := hL.2.1.2.2
  have l7 := hL.2.2.2.1.2.2
  have hus := h.2.2.2.1.2
  have hvw := h.2.2.2.2.1.2
  have gk := g_10 (l := l) (Gr := Gr) (n := n) (w := w) (d := d) (b := b) (t := t) hg (LSt_ci h hi') s4 l3 (by omega) s5 hhd w5 (by omega) h.2.2.2.1.1 (by omega)
  have eM := kMust_v (S := S) (i := i) (wt := r) l3 (by omega) hr' hpb hr b1 s6
  rw [s5, nI_clamp (n := hd) (by omega), w5, nI_clamp (n := e) (by omega), s12, kMust_c (c := 5) (by omega) (by omega), w5, nI_clamp (n := e) (by omega), eM] at gk
  have rk := r_32 (l := l) (Gr := Gr) (n := n) (w := w) (d := d) (m := 0) hg (LSt_ri h (j := j) (by omega)) t78 hL.1.2.2.1 (by omega) hv (by omega) hL.2.2.2.2.1 (by omega)
  have eM2 := mMu_v (T := mRf T j vv) (mp := 0) (wt := r) ((mRf_c (by omega)).trans l7) hr' hr ((mRf_c (by omega)).trans b2) ((mRf_c (by omega)).trans b4)
  rw [t92, eM2] at rk
  have p3 : (kPop S).1 39 3 = nI 0 := kPop_3 l3
  have p5 : (kPop S).1 3 5 = 0 := (kPop_c (by omega)).trans l5
  have hav : a + max 1 0 ≤ 256 := by
    obtain ⟨z', hz', q13, hav⟩ := (h.2.2.2.2.2.2.2 e a hA).2 s11
    omega
  have note : ∀ Y : zS, (∀ c k, ¬ c = 3 → ¬ (c = 39 ∧ k = 3) → Y.1 c k = S.1 c k) → _ := fun Y hY => st_note (S := Y) (e := e) (a := a) (z := 0) ((hY 39 9 (by omega) (by omega)).trans h.2.2.2.1.1) (by omega) (BDS_k h.2.2.2.2.2.1 (fun k => ⟨hY 43 k (by omega) (by omega), hY 44 k (by omega) (by omega)⟩)) ((hY 14 e (by omega) (by omega)).trans s14) ((hY 13 e (by omega) (by omega)).trans s13) (by omega) hav
  by_cases zr : r' = r
  · left
    rw [if_pos zr] at gk rk
    obtain ⟨lo', hi', n1, n2, n3, n4, n5, n6, n7⟩ := note (kPop S) (fun c k q1 q2 => kPop_c q2)
    obtain ⟨S3, eS3⟩ : ∃ S3, S3 = kNote (kPop S) e := ⟨_, rfl⟩
    rw [← eS3] at gk n1 n6 n7
    obtain ⟨T3, eT3⟩ : ∃ T3, T3 = zi (mRf T j vv) 73 43 (nI 0) := ⟨_, rfl⟩
    rw [← eT3] at rk
    have x3 : ∀ c k, ¬ ((c = 43 ∨ c = 44) ∧ k + 1 = u) → ¬ (c = 39 ∧ k = 3) → S3.1 c k = S.1 c k := fun c k q1 q2 => (n6 c k q1).trans (kPop_c q2)
    have y3 : ∀ c k, ¬ (c = 73 ∧ k = 43) → ¬ ((102 ≤ c ∧ c ≤ 107) ∧ k = j) → T3.1 c k = T.1 c k := fun c k q1 q2 => by
      rw [eT3, zi_get, if_neg q1]
      unfold mRf
      rw [zi_get, if_neg (by omega), zi_get, if_neg (by omega), zi_get, if_neg (by omega), zi_get, if_neg (by omega)]
    have y32 : ∀ c k, T3.2 c k = T.2 c k := fun c k => by rw [eT3]; rfl
    have L3 : LSt b t N D m A 0 0 sz mz sc u vw lo' hi' S3 T3 := LSt_nt (i := 0) (i' := 0) (jj := j) h (fun c k q1 q2 _ => x3 c k q1 q2) n7 y3 y32 ((n6 39 3 (by omega)).trans p3) (by rw [eT3]; exact zi_v) n1
    have r21 := r_21 (l := l) (Gr := Gr) (n := n) (w := w) (d := d) hg (LSt_ri L3 (j := j + 1) hj) ((y3 78 (j + 1) (by omega) (by omega)).trans t21)
    have yR : ∀ c', 102 ≤ c' → c' ≤ 105 → T3.1 c' j = (mRf T j vv).1 c' j := fun c' q1 q2 => by rw [eT3, zi_c (by omega)]
    have mR := mRf_v (T := T) (j := j) (s := vv)
    have sn : ∀ cc, 11 ≤ cc → cc ≤ 15 → S3.1 cc e = S.1 cc e := fun cc q1 q2 => x3 cc e (by omega) (by omega)
    exact ⟨lo', hi', S3, T3, gk.2, gk.1, RG_tr rk r21, L3, x3, n7, y3, y32, n2, n3, n4, by omega, ⟨he, by omega, hr, by omega, l0, hA, (sn 11 (by omega) (by omega)).trans s11, (sn 12 (by omega) (by omega)).trans s12, (sn 13 (by omega) (by omega)).trans s13, fun _ => (sn 14 (by omega) (by omega)).trans s14, (yR 102 (by omega) (by omega)).trans (mR.1.trans t91), (yR 103 (by omega) (by omega)).trans (mR.2.1.trans t94), (yR 104 (by omega) (by omega)).trans (mR.2.2.1.trans t93), (yR 105 (by omega) (by omega)).trans (mR.2.2.2.trans t92)⟩, zr⟩
  · right
    rw [if_neg zr] at gk rk
    obtain ⟨lo', hi', -, -, -, -, -, n6, -⟩ := note (kT (kPop S) 5 (nI p1)) (fun c k q1 q2 => (kT_c (by omega)).trans (kPop_c q2))
    have uu := kT_0 (g := 5) (pl := nI p1) p5
    refine FLT_1 (g := 5) (pl := nI p1) l5 (by decide) (Nat.le_refl _) gk.1 gk.2 ((n6 3 5 (by omega)).trans uu.1) ((n6 3 6 (by omega)).trans uu.2) rk ?_ ?_
    · rw [zi_k (by decide)]; exact mF_f.1
    · rw [zi_k (by decide)]; exact mF_f.2
/-- NAME = EXPR ; -/
theorem st_set (hg : ip_gk (lg_tbl, vwCl, Gr)) (g : sSet w S0 T0 (nid b t T0) p i i' j j') (cs : cgS S0 S i i') (ct : cgU T0 T j j') (hni : ∀ v p, nid b t T0 v p → nid b t T v p) (h : LSt b t N D m A 0 0 sz mz sc u vw lo hi S T) (hsz : i' ≤ sz) (hmz : j' ≤ mz) (hB : HB S0 i i' 0 0 0) (hsc : sc ≤ 31) : STO l Gr n w d b t N D sz mz sc u lo hi vw vw m A S T p i i' j j' := by
  obtain ⟨v, p1, i1, j1, hv, gx, e1, e2, f1, f2, f3, f4, f5, f6, f7, g1, g2, g3, g4, g5, g6, g7, g8, g9⟩ := g
  subst e1 e2
  have bx := gX_bnd gx
  have hL := h.1
  have hs4 := hL.2.1.2.1
  have hm4 := hL.2.2.2.1.2.1
  have h5 := hL.2.1.2.2
  have h7 := hL.2.2.2.1.2.2
  have c0 := cs i (by omega) (by omega)
  have c1 := cs (i + 1) (by omega) (by omega)
  have c2 := cs i1 (by omega) (by omega)
  have t0 := ct.1 j (by omega) (by omega)
  have t1 := ct.1 (j + 1) (by omega) (by omega)
  have t2 := ct.1 j1 (by omega) (by omega)
  have t3 := ct.1 (j1 + 1) (by omega) (by omega)
  have gs := g_step (l := l) (Gr := Gr) (n := n) (w := w) (d := d) (b := b) (t := t) (LSt_ci h (i := i) (by omega)) (c0.1.trans f1) hg
  have r0 := r_20 (l := l) (Gr := Gr) (n := n) (w := w) (d := d) hg (LSt_ri h (j := j) (by omega)) (t0.1.trans g1)
  have k0 := k_1 h5 gs.1
  rcases st_tg (l := l) (Gr := Gr) (n := n) (w := w) (d := d) (el := false) (i := i + 1) (j := j + 1) hg h (by omega) (by omega) (c1.1.trans f3) (c1.2.2.1.trans f4) (t1.1.trans g3) (t1.2.1.trans g4) (t1.2.2.2.1.trans g5) (hni _ _ hv) with ⟨e, vv, a, r, z, hvv, he, e2, s11, s12, hr, s13, hz, hz0, s14, l0, hA, t91, t92, t93, t94, gX, kX, rX⟩ | hF
  · obtain ⟨X, eX⟩ : ∃ X, X = zi S 5 (i + 1) (nI e) := ⟨_, rfl⟩
    rw [← eX] at gX kX
    have hz0 : z = 0 := hz0
    subst hz0
    have kcX : KKc S X (i + 1) (i + 1 + 1) 0 := ⟨fun c k a1 a2 a3 a4 => by rw [eX, zi_get, if_neg (by omega)], fun _ _ => by rw [eX]; rfl⟩
    have zX : ∀ c k, c ≠ 5 → X.1 c k = S.1 c k := fun c k hc => by rw [eX]; exact zi_c hc
    have LX1 : LX b t N D m 0 A 0 0 0 sz mz X T := LX_k hL kcX (KKm_rfl (j := 0) (j' := 0) (mp := 0) (c := 0)) ((zX 3 5 (by decide)).trans h5) ((zX 39 3 (by decide)).trans hL.2.2.1) h7 hL.2.2.2.2.1 hL.2.2.2.2.2
    have h1 := LSt_x h LX1 kcX (KKm_rfl (j := 0) (j' := 0) (mp := 0) (c := 0))
    have k1 : X = kR b t (i + 1 + 1 - i) i S := by
      rw [← kX]
      exact kR_s k0 h5 (by omega)
    have nE := NE_app (NE_1 (S := S0) (e1 := 0) (e2 := 0) f1 (by decide) (by decide) (by decide)) (NE_1 (S := S0) (e1 := 0) (e2 := 0) f3 (by decide) (by decide) (by decide))
    have cg1 : CG l Gr n w d S i X (i + 2) := CG_tr gs.2 gX
    have rg1 : RG l Gr n w d T j T (j + 2) := RG_tr r0 rX
    rcases st_x (l := l) (Gr := Gr) (n := n) (w := w) (d := d) hg gx (cg_c (cgS_sub cs (by omega) (by omega)) kcX (Nat.le_refl _)) (cgT_sub ct.1 (by omega) (by omega)) hni h1 (by omega) (by omega) (HB_le hB nE (by omega) (by omega) (by omega)) with ⟨S2, T2, r', pb, a1, a2, a3, a4, a5, a6, hr', hpb, b1, b2, b3, b4, b5, -⟩ | hF
    · have k2 := kR_cat k1 a2 (by omega) (by omega)
      have cg2 := CG_tr cg1 a1
      have rg2 := RG_tr rg1 a3
      have w5 : S2.1 5 (i + 1) = nI e := by
        rw [KKc_O a5 (Or.inl rfl) (Or.inl (by omega)), eX]
        exact zi_v
      have sn : ∀ cc k, 8 ≤ cc → cc ≤ 16 → S2.1 cc k = S.1 cc k := fun cc k q1 q2 => (KKc_N a5 q1 q2).trans (zX cc k (by omega))
      have sc4 : ∀ cc k, cc = 4 ∨ cc = 6 → S2.1 cc k = S.1 cc k := fun cc k q => (KKc_C a5 q).trans (zX cc k (by omega))
      have s5i : S2.1 5 i1 = nI (i + 1) := by
        rw [KKc_O a5 (Or.inl rfl) (Or.inr (Nat.le_refl _)), eX, zi_k (by omega)]
        exact c2.2.1.trans f6
      have hv2 : mv T2 (T2.1 79 j1) m = nI vv := by
        rw [KKm_C a6 (by omega), t2.2.1, g7, mv_k a6]
        exact e2
      rcases st_sto (l := l) (Gr := Gr) (n := n) (w := w) (d := d) (b := b) (i := i1) (j := j1) (hd := i + 1) hg a4 (by omega) (by omega) hsc ((sc4 4 i1 (Or.inl rfl)).trans (c2.1.trans f5)) s5i (by omega) ((sc4 6 i1 (Or.inr rfl)).trans (c2.2.2.1.trans f7)) w5 he ((sn 11 e (by omega) (by omega)).trans s11) ((sn 12 e (by omega) (by omega)).trans s12) hr ((sn 13 e (by omega) (by omega)).trans s13) ((sn 14 e (by omega) (by omega)).trans s14) l0 hA ((KKm_C a6 (by omega)).trans (t2.1.trans g6)) hv2 hvv ((KKm_C a6 (by omega)).trans t91) ((KKm_C a6 (by omega)).trans t92) ((KKm_C a6 (by omega)).trans t93) ((KKm_C a6 (by omega)).trans t94) ((KKm_C a6 (by omega)).trans (t3.1.trans g9)) hr' hpb b1 b2 b4 with ⟨lo', hi', S3, T3, c1', c2', c3', L3, x3, x32, y3, y32, n2, n3, n4, n5, hR, zr⟩ | hF
      · have k3 : S3 = kR b t (i1 + 1 - i) i S := by
          rw [← c2']
          exact kR_s k2 a4.1.2.1.2.2 (by omega)
        have ksc : KSc S S3 i (i1 + 1) m sc u := KSc_tr (KSc_tr (KSc_x kcX (i := i) (i' := i + 2) (by omega) (Nat.le_refl _)) (KSc_x a5 (i := i + 2) (i' := i1) (Nat.le_refl _) (Nat.le_refl _)) (by omega) (by omega) (Nat.le_refl _) (Nat.le_refl _) (Nat.le_refl _)) (KSc_nt (i := i1) (i' := i1 + 1) (fun c k q1 q2 _ => x3 c k q1 q2) x32) (by omega) (by omega) (Nat.le_refl _) (Nat.le_refl _) (Nat.le_refl _)
        have ksm : KSm T T3 j (j1 + 2) m sc := KSm_tr (KSm_x a6 (j := j) (j' := j1) (by omega) (Nat.le_refl _)) (KSm_rf (j := j1) (j' := j1 + 2) (jj := j1) (Nat.le_refl _) (by omega) y3 y32) (by omega) (by omega) (Nat.le_refl _) (Nat.le_refl _)
        have s4f : ∀ cc k, cc = 4 ∨ cc = 6 → S3.1 cc k = S.1 cc k := fun cc k q => KSc_C ksc q
        have t4f : ∀ k cc, cc = 78 ∨ cc = 81 → T3.1 cc k = T.1 cc k := fun k cc q => KSm_C ksm (by omega)
        rw [zr] at b5
        exact Or.inl ⟨m, A, lo', hi', S3, T3, CG_tr cg2 c1', k3, RG_tr rg2 c3', L3, ksc, ksm, Nat.le_refl _, n2, n3, 1, Or.inl ⟨⟨e, a, r, i1, j1, hR, n4, n5, aX_k b5 (fun c k q => x3 c k (by omega) (by omega)) ⟨fun c k q => y3 c k (by omega) (by omega), fun _ => y32 _ _⟩, rfl, rfl, (s4f 4 i (Or.inl rfl)).trans (c0.1.trans f1), (s4f 6 i (Or.inr rfl)).trans (c0.2.2.1.trans f2), (s4f 4 (i + 1) (Or.inl rfl)).trans (c1.1.trans f3), (x3 5 (i + 1) (by omega) (by omega)).trans w5, (s4f 4 i1 (Or.inl rfl)).trans (c2.1.trans f5), (x3 5 i1 (by omega) (by omega)).trans s5i, (t4f j 78 (Or.inl rfl)).trans (t0.1.trans g1), (t4f j 81 (Or.inr rfl)).trans (t0.2.2.2.1.trans g2), (t4f (j + 1) 78 (Or.inl rfl)).trans (t1.1.trans g3), (t4f j1 78 (Or.inl rfl)).trans (t2.1.trans g6), (t4f (j1 + 1) 78 (Or.inl rfl)).trans (t3.1.trans g9)⟩, rfl, rfl⟩⟩
      · exact Or.inr (FLT_pre cg2 k2 rg2 (by omega) hF)
    · exact Or.inr (FLT_pre cg1 k1 rg1 (by omega) (FLT_up hF (by omega)))
  · exact Or.inr (FLT_pre gs.2 k0 r0 (by omega) (FLT_up hF (by omega)))
end STS
