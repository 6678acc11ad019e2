/-! SORTS of statements on both sides: assignments to elements -/
section STE
variable {l : Launch} {Gr : zG} {n w : Nat} {d : Nat} {A : Nat → Nat → Prop} {b : Nat → Int32} {t N D m tp mp sz mz sc u vw vw' lo hi p q i i' i1 i2 j j' j1 j2 x K hd e a r r' pb z vv p1 : Nat} {S0 T0 S S' S'' T T' T'' : zS}
theorem st_ix (hg : ip_gk (lg_tbl, vwCl, Gr)) (h : LSt b t N D m A 1 1 sz mz sc u vw lo hi S T) (hi' : i < sz) (hj : j < mz) (s4 : S.1 4 i = 26) (s5 : S.1 5 i = nI hd) (hhd : hd < 4000) (s6 : S.1 6 i = nI p1) (he : e < D) (s11 : S.1 11 e = 1) (s12 : S.1 12 e = nI r) (hr : r ≤ 1) (s13 : S.1 13 e = nI z) (hz : z ≤ 64) (s14 : S.1 14 e = nI a) (l0 : a < 12000) (hA : A e a) (t78 : T.1 78 j = 42) (hv : mv T (T.1 79 j) m = nI vv) (hvv : vv < m) (t91 : T.1 91 vv = 2) (t92 : T.1 92 vv = nI r) (t93 : T.1 93 vv = nI z) (t94 : T.1 94 vv = nI a) (hr' : r' ≤ 1) (hpb : pb ≤ 1) (b1 : S.1 40 0 = nI (r' + 2 * pb)) (b2 : T.1 98 0 = nI r') (b3 : T.1 100 0 = nI pb) (b4 : T.1 99 0 = nI p1) :
    (∃ S' T', CG l Gr n w d S i S' (i + 1) ∧ kS b t S i = S' ∧ RG l Gr n w d T j T' (j + 1) ∧ LSt b t N D m A 0 1 sz mz sc u vw lo hi S' T' ∧ (∀ c k, ¬ (c = 39 ∧ k = 3) → ¬ (c = 7 ∧ k = hd) → S'.1 c k = S.1 c k) ∧ (∀ c k, S'.2 c k = S.2 c k) ∧ S'.1 7 hd = nI (2 * pb) ∧ (∀ c k, ¬ ((102 ≤ c ∧ c ≤ 107) ∧ k = j) → T'.1 c k = T.1 c k) ∧ (∀ c k, T'.2 c k = T.2 c k) ∧ T'.1 106 j = nI p1 ∧ T'.1 107 j = nI pb ∧ RFA D A S' T' e j 1 r z a ∧ r' = 0) ∨ FLT l Gr n w d b t S T i (i + 1) j := by
  have hL := h.1
  have hD := hL.1.1.2.2.2.2
  have hm := hL.1.2.1.2.1
  have l3 := hL.2.2.1
  have l5 := hL.2.1.2.2
  have l7 := hL.2.2.2.1.2.2
  have gk := g_26 (l := l) (Gr := Gr) (n := n) (w := w) (d := d) (b := b) (t := t) hg (LSt_ci h hi') s4 l3 (by omega) s5 hhd
  have eM := kMust_v (S := S) (i := i) (wt := 0) l3 (by omega) hr' hpb (by omega) b1 s6
  rw [show nI 0 = 0 from rfl] at eM
  rw [eM, s5, nI_clamp (by omega), kTop_t l3 (by omega), b1, (pt_1 hr' hpb).2] at gk
  have rk := r_42 (l := l) (Gr := Gr) (n := n) (w := w) (d := d) (m := 0) hg (LSt_ri h hj) t78 hL.1.2.2.1 (by omega) hv (by omega) hL.2.2.2.2.1 (by omega)
  have eM2 := mMu_v (T := T) (mp := 0) (wt := 0) l7 hr' (by omega) b2 b4
  rw [show nI 0 = 0 from rfl] at eM2
  rw [eM2, b4, b3, nI_and1 hpb] at rk
  have p3 : (kPop S).1 39 3 = nI 0 := kPop_3 l3
  have p5 : (kPop S).1 3 5 = 0 := (kPop_c (by omega)).trans l5
  by_cases zr : r' = 0
  · left
    rw [if_pos zr] at gk rk
    obtain ⟨S3, eS3⟩ : ∃ S3, S3 = zi (kPop S) 7 hd (nI (2 * pb)) := ⟨_, rfl⟩
    rw [← eS3] at gk
    obtain ⟨T3, eT3⟩ : ∃ T3, T3 = zi (zi (mRf T j vv) 106 j (nI p1)) 107 j (nI pb) := ⟨_, rfl⟩
    rw [← eT3] at rk
    have x3 : ∀ c k, ¬ (c = 39 ∧ k = 3) → ¬ (c = 7 ∧ k = hd) → S3.1 c k = S.1 c k := fun c k q1 q2 => by
      rw [eS3, zi_get, if_neg q2]
      exact kPop_c q1
    have x32 : ∀ c k, S3.2 c k = S.2 c k := fun c k => by rw [eS3]; rfl
    have y3 : ∀ c k, ¬ ((102 ≤ c ∧ c ≤ 107) ∧ k = j) → T3.1 c k = T.1 c k := fun c k q2 => by
      rw [eT3, zi_get, if_neg (by omega), zi_get, if_neg (by omega)]
      unfold mRf
      rw [zi_get, if_neg (by omega), zi_get, if_neg (by omega), zi_get, if_neg (by omega), zi_get, if_neg (by omega)]
    have y32 : ∀ c k, T3.2 c k = T.2 c k := fun c k => by rw [eT3]; rfl
    have L3 : LSt b t N D m A 0 1 sz mz sc u vw lo hi S3 T3 := LSt_nt (i := hd) (i' := hd + 1) (jj := j) h (fun c k _ q2 q3 => x3 c k q2 (by omega)) x32 (fun c k _ q2 => y3 c k q2) y32 (by rw [eS3, zi_c (by decide)]; exact p3) ((y3 73 43 (by omega)).trans hL.2.2.2.2.1) (BDS_k h.2.2.2.2.2.1 (fun k => ⟨x3 43 k (by omega) (by omega), x3 44 k (by omega) (by omega)⟩))
    have yR : ∀ c', 102 ≤ c' → c' ≤ 105 → T3.1 c' j = (mRf T j vv).1 c' j := fun c' q1 q2 => by rw [eT3, zi_c (by omega), zi_c (by omega)]
    have mR := mRf_v (T := T) (j := j) (s := vv)
    have sn : ∀ cc, 11 ≤ cc → cc ≤ 15 → S3.1 cc e = S.1 cc e := fun cc q1 q2 => x3 cc e (by omega) (by omega)
    exact ⟨S3, T3, gk.2, gk.1, rk, L3, x3, x32, by rw [eS3]; exact zi_v, y3, y32, by rw [eT3, zi_c (by decide)]; exact zi_v, by rw [eT3]; exact zi_v, ⟨he, by omega, hr, hz, l0, hA, (sn 11 (by omega) (by omega)).trans s11, (sn 12 (by omega) (by omega)).trans s12, (sn 13 (by omega) (by omega)).trans s13, fun _ => (sn 14 (by omega) (by omega)).trans s14, (yR 102 (by omega) (by omega)).trans (mR.1.trans t91), (yR 103 (by omega) (by omega)).trans (mR.2.1.trans t94), (yR 104 (by omega) (by omega)).trans (mR.2.2.1.trans t93), (yR 105 (by omega) (by omega)).trans (mR.2.2.2.trans t92)⟩, zr⟩
  · right
    rw [if_neg zr] at gk rk
    have uu := kT_0 (g := 5) (pl := nI p1) p5
    refine FLT_1 (g := 5) (pl := nI p1) l5 (by decide) (Nat.le_refl _) gk.1 gk.2 ?_ ?_ rk ?_ ?_
    · rw [zi_c (by decide)]; exact uu.1
    · rw [zi_c (by decide)]; exact uu.2
    · rw [zi_c (by decide), zi_c (by decide), mRf_c (by omega)]; exact mF_f.1
    · rw [zi_c (by decide), zi_c (by decide), mRf_c (by omega)]; exact mF_f.2
theorem st_stE (hg : ip_gk (lg_tbl, vwCl, Gr)) (h : LSt b t N D m A 1 2 sz mz sc u vw lo hi S T) (hi' : i < sz) (hj : j + 1 < mz) (hsc : sc ≤ 31) (s4 : S.1 4 i = 12) (s5 : S.1 5 i = nI hd) (hhd : hd < 4000) (s6 : S.1 6 i = nI p1) (w5 : S.1 5 hd = nI e) (he : e < D) (s11 : S.1 11 e = 1) (s12 : S.1 12 e = nI r) (hr : r ≤ 1) (s13 : S.1 13 e = nI z) (hz : z ≤ 64) (s14 : S.1 14 e = nI a) (l0 : a < 12000) (hA : A e a) (t78 : T.1 78 j = 34) (hv : mv T (T.1 79 j) m = nI vv) (hvv : vv < m) (t91 : T.1 91 vv = 2) (t92 : T.1 92 vv = nI r) (t93 : T.1 93 vv = nI z) (t94 : T.1 94 vv = nI a) (t21 : T.1 78 (j + 1) = 21) {pb' : Nat} (hpb' : pb' ≤ 1) (b3 : T.1 100 0 = nI pb') (hr' : r' ≤ 1) (hpb : pb ≤ 1) (b1 : S.1 40 0 = nI (r' + 2 * pb)) (b2 : T.1 98 1 = nI r') (b4 : T.1 99 1 = nI p1) :
    (∃ lo' hi' S' T', CG l Gr n w d S i S' (i + 1) ∧ kS b t S i = S' ∧ RG l Gr n w d T j T' (j + 2) ∧ LSt b t N D m A 0 0 sz mz sc u vw lo' hi' S' T' ∧ (∀ c k, ¬ ((c = 43 ∨ c = 44) ∧ k + 1 = u) → ¬ (c = 39 ∧ k = 3) → S'.1 c k = S.1 c k) ∧ (∀ c k, S'.2 c k = S.2 c k) ∧ (∀ c k, ¬ (c = 73 ∧ k = 43) → ¬ ((102 ≤ c ∧ c ≤ 107) ∧ k = j) → T'.1 c k = T.1 c k) ∧ (∀ c k, T'.2 c k = T.2 c k) ∧ T'.1 107 j = nI pb' ∧ lo' ≤ lo ∧ hi ≤ hi' ∧ lo' ≤ a ∧ a + max 1 z ≤ hi' ∧ RFA D A S' T' e j 1 r z a ∧ r' = r) ∨ FLT l Gr n w d b t S T i (i + 1) j := by
  have hL := h.1
  have hD := hL.1.1.2.2.2.2
  have hm := hL.1.2.1.2.1
  have l3 := hL.2.2.1
  have l5 := hL.2.1.2.2
  have l7 := hL.2.2.2.1.2.2
  have hus := h.2.2.2.1.2
  have hvw := h.2.2.2.2.1.2
  have gk := g_12 (l := l) (Gr := Gr) (n := n) (w := w) (d := d) (b := b) (t := t) hg (LSt_ci h hi') s4 l3 (by omega) s5 hhd w5 (by omega) h.2.2.2.1.1 (by omega)
  have eM := kMust_v (S := S) (i := i) (wt := r) l3 (by omega) hr' hpb hr b1 s6
  rw [s5, nI_clamp (n := hd) (by omega), w5, nI_clamp (n := e) (by omega), s12, kMust_c (c := 5) (by omega) (by omega), w5, nI_clamp (n := e) (by omega), eM] at gk
  have rk := r_34 (l := l) (Gr := Gr) (n := n) (w := w) (d := d) (m := 0) hg (LSt_ri h (j := j) (by omega)) t78 hL.1.2.2.1 (by omega) hv (by omega) hL.2.2.2.2.1 (by omega)
  have eM2 := mMu_v (T := T) (mp := 1) (wt := r) l7 hr' hr b2 b4
  rw [show 0 + 1 = 1 from rfl, t92, eM2, b3, nI_and1 hpb'] at rk
  have p3 : (kPop S).1 39 3 = nI 0 := kPop_3 l3
  have p5 : (kPop S).1 3 5 = 0 := (kPop_c (by omega)).trans l5
  have hav : a + max 1 z ≤ 256 := by
    obtain ⟨z', hz', q13, hav⟩ := (h.2.2.2.2.2.2.2 e a hA).2 s11
    have : z' = z := (nI_eq (by omega) (by omega)).mp (q13.symm.trans s13)
    omega
  have note : ∀ Y : zS, (∀ c k, ¬ c = 3 → ¬ (c = 39 ∧ k = 3) → Y.1 c k = S.1 c k) → _ := fun Y hY => st_note (S := Y) (e := e) (a := a) (z := z) ((hY 39 9 (by omega) (by omega)).trans h.2.2.2.1.1) (by omega) (BDS_k h.2.2.2.2.2.1 (fun k => ⟨hY 43 k (by omega) (by omega), hY 44 k (by omega) (by omega)⟩)) ((hY 14 e (by omega) (by omega)).trans s14) ((hY 13 e (by omega) (by omega)).trans s13) hz hav
  by_cases zr : r' = r
  · left
    rw [if_pos zr] at gk rk
    obtain ⟨lo', hi', n1, n2, n3, n4, n5, n6, n7⟩ := note (kPop S) (fun c k q1 q2 => kPop_c q2)
    obtain ⟨S3, eS3⟩ : ∃ S3, S3 = kNote (kPop S) e := ⟨_, rfl⟩
    rw [← eS3] at gk n1 n6 n7
    obtain ⟨T3, eT3⟩ : ∃ T3, T3 = zi (mRf (zi T 73 43 (nI 0)) j vv) 107 j (nI pb') := ⟨_, rfl⟩
    rw [← eT3] at rk
    have x3 : ∀ c k, ¬ ((c = 43 ∨ c = 44) ∧ k + 1 = u) → ¬ (c = 39 ∧ k = 3) → S3.1 c k = S.1 c k := fun c k q1 q2 => (n6 c k q1).trans (kPop_c q2)
    have y3 : ∀ c k, ¬ (c = 73 ∧ k = 43) → ¬ ((102 ≤ c ∧ c ≤ 107) ∧ k = j) → T3.1 c k = T.1 c k := fun c k q1 q2 => by
      rw [eT3, zi_get, if_neg (by omega)]
      unfold mRf
      rw [zi_get, if_neg (by omega), zi_get, if_neg (by omega), zi_get, if_neg (by omega), zi_get, if_neg (by omega), zi_get, if_neg q1]
    have y32 : ∀ c k, T3.2 c k = T.2 c k := fun c k => by rw [eT3]; rfl
    have L3 : LSt b t N D m A 0 0 sz mz sc u vw lo' hi' S3 T3 := LSt_nt (i := 0) (i' := 0) (jj := j) h (fun c k q1 q2 _ => x3 c k q1 q2) n7 y3 y32 ((n6 39 3 (by omega)).trans p3) (by rw [eT3, zi_c (by decide), mRf_c (by omega)]; exact zi_v) n1
    have r21 := r_21 (l := l) (Gr := Gr) (n := n) (w := w) (d := d) hg (LSt_ri L3 (j := j + 1) hj) ((y3 78 (j + 1) (by omega) (by omega)).trans t21)
    have yR : ∀ c', 102 ≤ c' → c' ≤ 105 → T3.1 c' j = (mRf (zi T 73 43 (nI 0)) j vv).1 c' j := fun c' q1 q2 => by rw [eT3, zi_c (by omega)]
    have mR := mRf_v (T := zi T 73 43 (nI 0)) (j := j) (s := vv)
    have tz : ∀ cc, 91 ≤ cc → (zi T 73 43 (nI 0)).1 cc vv = T.1 cc vv := fun cc q => zi_c (by omega)
    have sn : ∀ cc, 11 ≤ cc → cc ≤ 15 → S3.1 cc e = S.1 cc e := fun cc q1 q2 => x3 cc e (by omega) (by omega)
    exact ⟨lo', hi', S3, T3, gk.2, gk.1, RG_tr rk r21, L3, x3, n7, y3, y32, by rw [eT3]; exact zi_v, n2, n3, n4, n5, ⟨he, by omega, hr, hz, l0, hA, (sn 11 (by omega) (by omega)).trans s11, (sn 12 (by omega) (by omega)).trans s12, (sn 13 (by omega) (by omega)).trans s13, fun _ => (sn 14 (by omega) (by omega)).trans s14, (yR 102 (by omega) (by omega)).trans (mR.1.trans ((tz 91 (by omega)).trans t91)), (yR 103 (by omega) (by omega)).trans (mR.2.1.trans ((tz 94 (by omega)).trans t94)), (yR 104 (by omega) (by omega)).trans (mR.2.2.1.trans ((tz 93 (by omega)).trans t93)), (yR 105 (by omega) (by omega)).trans (mR.2.2.2.trans ((tz 92 (by omega)).trans t92))⟩, zr⟩
  · right
    rw [if_neg zr] at gk rk
    obtain ⟨lo', hi', -, -, -, -, -, n6, -⟩ := note (kT (kPop S) 5 (nI p1)) (fun c k q1 q2 => (kT_c (by omega)).trans (kPop_c q2))
    have uu := kT_0 (g := 5) (pl := nI p1) p5
    refine FLT_1 (g := 5) (pl := nI p1) l5 (by decide) (Nat.le_refl _) gk.1 gk.2 ((n6 3 5 (by omega)).trans uu.1) ((n6 3 6 (by omega)).trans uu.2) rk ?_ ?_
    · rw [zi_c (by decide), mRf_c (by omega), zi_k (by decide)]; exact mF_f.1
    · rw [zi_c (by decide), mRf_c (by omega), zi_k (by decide)]; exact mF_f.2
/-- NAME [ EXPR ] = EXPR ; -/
theorem st_elt (hg : ip_gk (lg_tbl, vwCl, Gr)) (g : sElt w S0 T0 (nid b t T0) p i i' j j') (cs : cgS S0 S i i') (ct : cgU T0 T j j') (hni : ∀ v p, nid b t T0 v p → nid b t T v p) (h : LSt b t N D m A 0 0 sz mz sc u vw lo hi S T) (hsz : i' ≤ sz) (hmz : j' ≤ mz) (hB : HB S0 i i' 0 0 0) (hsc : sc ≤ 31) : STO l Gr n w d b t N D sz mz sc u lo hi vw vw m A S T p i i' j j' := by
  obtain ⟨v, p1, i1, j1, p2, i2, j2, hv, gx, gy, e1, e2, f1, f2, f3, f4, f5, f6, f7, f8, f9, f10, g1, g2, g3, g4, g5, g6, g7, g8, g9, g10, g11, g12⟩ := g
  subst e1 e2
  have bx := gX_bnd gx
  have by' := gX_bnd gy
  have hL := h.1
  have hs4 := hL.2.1.2.1
  have hm4 := hL.2.2.2.1.2.1
  have h5 := hL.2.1.2.2
  have h7 := hL.2.2.2.1.2.2
  have c0 := cs i (by omega) (by omega)
  have c1 := cs (i + 1) (by omega) (by omega)
  have c2 := cs i1 (by omega) (by omega)
  have c3 := cs i2 (by omega) (by omega)
  have t0 := ct.1 j (by omega) (by omega)
  have t1 := ct.1 (j + 1) (by omega) (by omega)
  have t2 := ct.1 j1 (by omega) (by omega)
  have t3 := ct.1 j2 (by omega) (by omega)
  have t4 := ct.1 (j2 + 1) (by omega) (by omega)
  have gs := g_step (l := l) (Gr := Gr) (n := n) (w := w) (d := d) (b := b) (t := t) (LSt_ci h (i := i) (by omega)) (c0.1.trans f1) hg
  have r0 := r_20 (l := l) (Gr := Gr) (n := n) (w := w) (d := d) hg (LSt_ri h (j := j) (by omega)) (t0.1.trans g1)
  have k0 := k_1 h5 gs.1
  rcases st_tg (l := l) (Gr := Gr) (n := n) (w := w) (d := d) (el := true) (i := i + 1) (j := j + 1) hg h (by omega) (by omega) (c1.1.trans f3) (c1.2.2.1.trans f4) (t1.1.trans g3) (t1.2.1.trans g4) (t1.2.2.2.1.trans g5) (hni _ _ hv) with ⟨e, vv, a, r, z, hvv, he, e2, s11, s12, hr, s13, hz, hz0, s14, l0, hA, t91, t92, t93, t94, gX, kX, rX⟩ | hF
  · obtain ⟨X, eX⟩ : ∃ X, X = zi S 5 (i + 1) (nI e) := ⟨_, rfl⟩
    rw [← eX] at gX kX
    have hz0 : 0 < z := hz0
    have kcX : KKc S X (i + 1) (i + 1 + 1) 0 := ⟨fun c k a1 a2 a3 a4 => by rw [eX, zi_get, if_neg (by omega)], fun _ _ => by rw [eX]; rfl⟩
    have zX : ∀ c k, c ≠ 5 → X.1 c k = S.1 c k := fun c k hc => by rw [eX]; exact zi_c hc
    have LX1 : LX b t N D m 0 A 0 0 0 sz mz X T := LX_k hL kcX (KKm_rfl (j := 0) (j' := 0) (mp := 0) (c := 0)) ((zX 3 5 (by decide)).trans h5) ((zX 39 3 (by decide)).trans hL.2.2.1) h7 hL.2.2.2.2.1 hL.2.2.2.2.2
    have h1 := LSt_x h LX1 kcX (KKm_rfl (j := 0) (j' := 0) (mp := 0) (c := 0))
    have k1 : X = kR b t (i + 1 + 1 - i) i S := by
      rw [← kX]
      exact kR_s k0 h5 (by omega)
    have nE := NE_app (NE_1 (S := S0) (e1 := 0) (e2 := 0) f1 (by decide) (by decide) (by decide)) (NE_1 (S := S0) (e1 := 0) (e2 := 0) f3 (by decide) (by decide) (by decide))
    have cg1 : CG l Gr n w d S i X (i + 2) := CG_tr gs.2 gX
    have rg1 : RG l Gr n w d T j T (j + 2) := RG_tr r0 rX
    have csX := cg_c (cgS_sub cs (i1 := i + 2) (i2 := i2 + 1) (by omega) (by omega)) kcX (Nat.le_refl _)
    rcases st_x (l := l) (Gr := Gr) (n := n) (w := w) (d := d) hg gx (cgS_sub csX (by omega) (by omega)) (cgT_sub ct.1 (by omega) (by omega)) hni h1 (by omega) (by omega) (HB_le hB nE (by omega) (by omega) (by omega)) with ⟨S2, T2, r', pb, a1, a2, a3, a4, a5, a6, hr', hpb, b1, b2, b3, b4, b5, b5p⟩ | hF
    · have k2 := kR_cat k1 a2 (by omega) (by omega)
      have cg2 := CG_tr cg1 a1
      have rg2 := RG_tr rg1 a3
      have w5 : S2.1 5 (i + 1) = nI e := by
        rw [KKc_O a5 (Or.inl rfl) (Or.inl (by omega)), eX]
        exact zi_v
      have sn : ∀ cc k, 8 ≤ cc → cc ≤ 16 → S2.1 cc k = S.1 cc k := fun cc k q1 q2 => (KKc_N a5 q1 q2).trans (zX cc k (by omega))
      have cs2 := cg_c (cgS_sub csX (i1 := i1) (i2 := i2 + 1) (by omega) (by omega)) a5 (Nat.le_refl _)
      have ct2 := cg_m (cgT_sub ct.1 (j1 := j1) (j2 := j2 + 2) (by omega) (by omega)) a6 (Nat.le_refl _)
      have d2 := cs2 i1 (by omega) (by omega)
      have hv2 : mv T2 (T2.1 79 j1) m = nI vv := by
        rw [KKm_C a6 (by omega), t2.2.1, g7, mv_k a6]
        exact e2
      rcases st_ix (l := l) (Gr := Gr) (n := n) (w := w) (d := d) (b := b) (i := i1) (j := j1) (hd := i + 1) (e := e) (r := r) (a := a) (z := z) (vv := vv) hg a4 (by omega) (by omega) (d2.1.trans f5) (d2.2.1.trans f6) (by omega) (d2.2.2.1.trans f7) he ((sn 11 e (by omega) (by omega)).trans s11) ((sn 12 e (by omega) (by omega)).trans s12) hr ((sn 13 e (by omega) (by omega)).trans s13) hz ((sn 14 e (by omega) (by omega)).trans s14) l0 hA ((KKm_C a6 (by omega)).trans (t2.1.trans g6)) hv2 hvv ((KKm_C a6 (by omega)).trans t91) ((KKm_C a6 (by omega)).trans t92) ((KKm_C a6 (by omega)).trans t93) ((KKm_C a6 (by omega)).trans t94) hr' hpb b1 b2 b3 b4 with ⟨S3, T3, c1', c2', c3', L3, x3, x32, x37, y3, y32, y106, y107, hR, zr⟩ | hF
      · have k3 : S3 = kR b t (i1 + 1 - i) i S := by
          rw [← c2']
          exact kR_s k2 a4.1.2.1.2.2 (by omega)
        have cg3 := CG_tr cg2 c1'
        have rg3 := RG_tr rg2 c3'
        have cs3 : cgS S0 S3 (i1 + 1) (i2 + 1) := fun y q1 q2 => by
          obtain ⟨o1, o2, o3, o4⟩ := cs2 y (by omega) q2
          exact ⟨(x3 4 y (by omega) (by omega)).trans o1, (x3 5 y (by omega) (by omega)).trans o2, (x3 6 y (by omega) (by omega)).trans o3, (x3 7 y (by omega) (by omega)).trans o4⟩
        have ct3 : cgT T0 T3 (j1 + 1) (j2 + 2) := fun y q1 q2 => by
          obtain ⟨o1, o2, o3, o4, o5⟩ := ct2 y (by omega) q2
          exact ⟨(y3 78 y (by omega)).trans o1, (y3 79 y (by omega)).trans o2, (y3 80 y (by omega)).trans o3, (y3 81 y (by omega)).trans o4, (y32 82 y).trans o5⟩
        have ni3 : ∀ v p, nid b t T0 v p → nid b t T3 v p := fun v p q => nid_k (nid_m (hni v p q) a6) (y3 73 9 (by omega)) (fun k => y3 76 k (by omega))
        have nE3 := NE_app (NE_app nE (gX_ne gx (by omega))) (NE_1 (S := S0) (e1 := -1) (e2 := 0) f5 (by decide) (by decide) (by decide))
        rcases st_x (l := l) (Gr := Gr) (n := n) (w := w) (d := d) hg gy (cgS_sub cs3 (by omega) (by omega)) (cgT_sub ct3 (by omega) (by omega)) ni3 L3 (by omega) (by omega) (HB_le hB nE3 (by omega) (by omega) (by omega)) with ⟨S4, T4, r4, pb4, d1, dk, d3, d4, d5, d6, hr4, hpb4, o1, o2, o3, o4, o5, -⟩ | hF
        · have k4 := kR_cat k3 dk (by omega) (by omega)
          have cg4 := CG_tr cg3 d1
          have rg4 := RG_tr rg3 d3
          have q3 := cs3 i2 (by omega) (by omega)
          have u3 := ct3 j2 (by omega) (by omega)
          have u4 := ct3 (j2 + 1) (by omega) (by omega)
          have w54 : S4.1 5 (i + 1) = nI e := (KKc_O d5 (Or.inl rfl) (Or.inl (by omega))).trans ((x3 5 (i + 1) (by omega) (by omega)).trans w5)
          have sn4 : ∀ cc k, 8 ≤ cc → cc ≤ 16 → S4.1 cc k = S.1 cc k := fun cc k q1 q2 => (KKc_N d5 q1 q2).trans ((x3 cc k (by omega) (by omega)).trans (sn cc k q1 q2))
          have tn4 : ∀ cc k, (89 ≤ cc ∧ cc ≤ 97) → T4.1 cc k = T.1 cc k := fun cc k q => (KKm_C d6 (by omega)).trans ((y3 cc k (by omega)).trans (KKm_C a6 (by omega)))
          have mv3 : ∀ y k, mv T3 y k = mv T2 y k := fun y k => by
            have kk : KKm T2 T3 j1 (j1 + 1) 0 0 := ⟨fun c k q1 q2 q3 q4 => y3 c k (by omega), y32⟩
            exact mv_k kk k
          have hv4 : mv T4 (T4.1 79 j2) m = nI vv := by
            rw [KKm_C d6 (by omega), u3.2.1, g10, mv_k d6, mv3, mv_k a6]
            exact e2
          have p100 : T4.1 100 0 = nI pb := by
            rw [d6.1 100 0 (by omega) (by omega) (by omega) (by omega), y3 100 0 (by omega)]
            exact b3
          rcases st_stE (l := l) (Gr := Gr) (n := n) (w := w) (d := d) (b := b) (i := i2) (j := j2) (hd := i + 1) (e := e) (r := r) (a := a) (z := z) (vv := vv) hg d4 (by omega) (by omega) hsc ((KKc_C d5 (Or.inl rfl)).trans (q3.1.trans f8)) ((KKc_O d5 (Or.inl rfl) (Or.inr (Nat.le_refl _))).trans (q3.2.1.trans f9)) (by omega) ((KKc_C d5 (Or.inr rfl)).trans (q3.2.2.1.trans f10)) w54 he ((sn4 11 e (by omega) (by omega)).trans s11) ((sn4 12 e (by omega) (by omega)).trans s12) hr ((sn4 13 e (by omega) (by omega)).trans s13) hz ((sn4 14 e (by omega) (by omega)).trans s14) l0 hA ((KKm_C d6 (by omega)).trans (u3.1.trans g9)) hv4 hvv ((tn4 91 vv (by omega)).trans t91) ((tn4 92 vv (by omega)).trans t92) ((tn4 93 vv (by omega)).trans t93) ((tn4 94 vv (by omega)).trans t94) ((KKm_C d6 (by omega)).trans (u4.1.trans g12)) hpb p100 hr4 hpb4 o1 o2 o4 with ⟨lo', hi', S5, T5, m1, m2, m3, L5, x5, x52, y5, y52, y5107, n2, n3, n4, n5, hR5, zr5⟩ | hF
          · have k5 : S5 = kR b t (i2 + 1 - i) i S := by
              rw [← m2]
              exact kR_s k4 d4.1.2.1.2.2 (by omega)
            have ksc3 : KSc S2 S3 (i + 1) (i + 2) m sc u := KSc_nt (fun c k _ q2 q3 => x3 c k q2 (by omega)) x32
            have ksc : KSc S S5 i (i2 + 1) m sc u := KSc_tr (KSc_tr (KSc_tr (KSc_tr (KSc_x kcX (i := i) (i' := i + 2) (by omega) (Nat.le_refl _)) (KSc_x a5 (i := i) (i' := i1) (by omega) (Nat.le_refl _)) (by omega) (Nat.le_refl _) (Nat.le_refl _) (Nat.le_refl _) (Nat.le_refl _)) (KSc_w ksc3 (i := i) (i' := i1) (by omega) (by omega) (Nat.le_refl _) (Nat.le_refl _) (Nat.le_refl _)) (Nat.le_refl _) (Nat.le_refl _) (Nat.le_refl _) (Nat.le_refl _) (Nat.le_refl _)) (KSc_x d5 (i := i) (i' := i2) (by omega) (Nat.le_refl _)) (by omega) (Nat.le_refl _) (Nat.le_refl _) (Nat.le_refl _) (Nat.le_refl _)) (KSc_nt (i := i) (i' := i2 + 1) (fun c k q1 q2 _ => x5 c k q1 q2) x52) (by omega) (Nat.le_refl _) (Nat.le_refl _) (Nat.le_refl _) (Nat.le_refl _)
            have ksm3 : KSm T2 T3 j (j1 + 1) m sc := KSm_rf (jj := j1) (by omega) (by omega) (fun c k _ q2 => y3 c k q2) y32
            have ksm : KSm T T5 j (j2 + 2) m sc := KSm_tr (KSm_tr (KSm_tr (KSm_x a6 (j := j) (j' := j1) (by omega) (Nat.le_refl _)) ksm3 (by omega) (Nat.le_refl _) (Nat.le_refl _) (Nat.le_refl _)) (KSm_x d6 (j := j) (j' := j2) (by omega) (Nat.le_refl _)) (by omega) (Nat.le_refl _) (Nat.le_refl _) (Nat.le_refl _)) (KSm_rf (j := j) (j' := j2 + 2) (jj := j2) (by omega) (by omega) y5 y52) (by omega) (Nat.le_refl _) (Nat.le_refl _) (Nat.le_refl _)
            have s4f : ∀ cc k, cc = 4 ∨ cc = 6 → S5.1 cc k = S.1 cc k := fun cc k q => KSc_C ksc q
            have t4f : ∀ k cc, cc = 78 ∨ cc = 81 → T5.1 cc k = T.1 cc k := fun k cc q => KSm_C ksm (by omega)
            have anX : anS S2 S5 (i + 2) i1 := fun c k q => (x5 c k (by omega) (by omega)).trans ((anS_k d5 (i := i + 2) (i' := i1) (Or.inl (by omega)) c k q).trans (x3 c k (by omega) (by omega)))
            have anY : anT T2 T5 (j + 2) j1 := ⟨fun c k q => (y5 c k (by omega) (by omega)).trans (((anT_k d6 (j := j + 2) (j' := j1) (Or.inl (by omega))).1 c k q).trans (y3 c k (by omega))), fun k => (y52 82 k).trans ((d6.2 82 k).trans (y32 82 k))⟩
            have hR' : RFA D A S5 T5 e j1 1 r z a := RFA_k (Nat.le_refl _) (fun _ _ y => y) hR (i := 0) (i' := 0) (j := j1) (j' := j1 + 1) (fun c k q => (x5 c k (by omega) (by omega)).trans (KKc_N d5 (by omega) (by omega))) ⟨fun c k q => (y5 c k (by omega) (by omega)).trans ((anT_k d6 (j := j1) (j' := j1 + 1) (Or.inl (Nat.le_refl _))).1 c k q), fun k => (y52 82 k).trans (d6.2 82 k)⟩ (Nat.le_refl _) (Nat.lt_succ_self _)
            have tj : ∀ cc, cc = 106 ∨ cc = 107 → T5.1 cc j1 = T3.1 cc j1 := fun cc q => (y5 cc j1 (by omega) (by omega)).trans (KKm_80 d6 (by omega) (Or.inl (by omega)))
            have s57 : S5.1 7 (i + 1) = nI (2 * pb) := (x5 7 (i + 1) (by omega) (by omega)).trans ((KKc_O d5 (Or.inr rfl) (Or.inl (by omega))).trans x37)
            have s55 : ∀ k, i1 ≤ k → k < i1 + 1 → S5.1 5 k = S2.1 5 k := fun k q1 q2 => (x5 5 k (by omega) (by omega)).trans ((KKc_O d5 (Or.inl rfl) (Or.inl (by omega))).trans (x3 5 k (by omega) (by omega)))
            rw [zr] at b5
            rw [zr5] at o5
            exact Or.inl ⟨m, A, lo', hi', S5, T5, CG_tr cg4 m1, k5, RG_tr rg4 m3, L5, ksc, ksm, Nat.le_refl _, n2, n3, 1, Or.inr (Or.inl ⟨⟨e, a, r, z, pb, p1, i1, j1, i2, j2, hR', hR5, hz0, hpb, n4, by omega, aX_k b5 anX anY, aX_k o5 (fun c k q => x5 c k (by omega) (by omega)) ⟨fun c k q => y5 c k (by omega) (by omega), fun _ => y52 _ _⟩, rfl, rfl, (s4f 4 i (Or.inl rfl)).trans (c0.1.trans f1), (s4f 6 i (Or.inr rfl)).trans (c0.2.2.1.trans f2), (s4f 4 (i + 1) (Or.inl rfl)).trans (c1.1.trans f3), (x5 5 (i + 1) (by omega) (by omega)).trans w54, s57, (s4f 4 i1 (Or.inl rfl)).trans (c2.1.trans f5), (s55 i1 (Nat.le_refl _) (by omega)).trans (d2.2.1.trans f6), (s4f 6 i1 (Or.inr rfl)).trans (c2.2.2.1.trans f7), (s4f 4 i2 (Or.inl rfl)).trans (c3.1.trans f8), (x5 5 i2 (by omega) (by omega)).trans ((KKc_O d5 (Or.inl rfl) (Or.inr (Nat.le_refl _))).trans (q3.2.1.trans f9)), (t4f j 78 (Or.inl rfl)).trans (t0.1.trans g1), (t4f j 81 (Or.inr rfl)).trans (t0.2.2.2.1.trans g2), (t4f (j + 1) 78 (Or.inl rfl)).trans (t1.1.trans g3), (t4f j1 78 (Or.inl rfl)).trans (t2.1.trans g6), (tj 106 (Or.inl rfl)).trans y106, (tj 107 (Or.inr rfl)).trans y107, (t4f j2 78 (Or.inl rfl)).trans (t3.1.trans g9), y5107, (t4f (j2 + 1) 78 (Or.inl rfl)).trans (t4.1.trans g12), fun y => PB_k (b5p y) anY (Nat.le_refl _) (Nat.le_refl _)⟩, rfl, rfl⟩)⟩
          · exact Or.inr (FLT_pre cg4 k4 rg4 (by omega) hF)
        · exact Or.inr (FLT_pre cg3 k3 rg3 (by omega) (FLT_up hF (by omega)))
      · exact Or.inr (FLT_pre cg2 k2 rg2 (by omega) (FLT_up hF (by omega)))
    · exact Or.inr (FLT_pre cg1 k1 rg1 (by omega) (FLT_up hF (by omega)))
  · exact Or.inr (FLT_pre gs.2 k0 r0 (by omega) (FLT_up hF (by omega)))
end STE
