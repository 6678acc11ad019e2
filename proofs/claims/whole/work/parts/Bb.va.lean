/-! SORTS of statements on both sides: var -/
section STW
variable {l : Launch} {Gr : zG} {n w : Nat} {d : Nat} {A : Nat → Nat → Prop} {b : Nat → Int32} {t N D m tp mp sz mz sc u vw vw' lo hi p q i i' i1 i2 j j' j1 j2 x K hd e a r r' pb z vv p1 s k v : Nat} {S0 T0 S S' S'' T T' T'' : zS}
/-- var NAME : TYPE, up to its EXPR -/
theorem va_hd (hg : ip_gk (lg_tbl, vwCl, Gr)) (h : LSt b t N D m A 0 0 sz mz sc u vw lo hi S T) (hi' : i + 1 < sz) (hj : j + 1 < mz) (c1 : S.1 4 i = 1) (c2 : S.1 4 (i + 1) = 6) (c3 : S.1 5 (i + 1) = nI e) (c4 : S.1 6 (i + 1) = nI s) (t1 : T.1 78 j = 20) (t2 : T.1 78 (j + 1) = 24) (t3 : T.1 79 (j + 1) = nI v) (t4 : T.1 81 (j + 1) = nI s) (hid : nid b t T v s) (he : e < D) (h9 : S.1 9 e = nI s) (h13 : S.1 13 e = nI z) (hz : z ≤ 64) (hw : vw + max 1 z ≤ 256) :
    (∃ S', CG l Gr n w d S i S' (i + 2) ∧ S' = kR b t (i + 2 - i) i S ∧ RG l Gr n w d T j T (j + 2) ∧ LSt b t N D m A 0 0 sz mz sc u (vw + max 1 z) lo hi S' T ∧ (∀ c k, ¬ (c = 39 ∧ k = 10) → S'.1 c k = S.1 c k) ∧ (∀ c k, S'.2 c k = S.2 c k) ∧ (∀ v, v < m → ¬ S.1 16 v = nI e) ∧ (∀ a, ¬ A e a) ∧ m < 800) ∨ FLT l Gr n w d b t S T i (i + 2) j := by
  have hL := h.1
  have hE := hL.1
  have hT := hE.1
  have ht := hT.2.1
  have hD := hT.2.2.2.2
  have hm := hE.2.1.2.1
  have h5 := hL.2.1.2.2
  have hs : s < t := by
    obtain ⟨_, _, _, _, _, _, _, _, y⟩ := hid
    exact y
  have gs := g_step (l := l) (Gr := Gr) (n := n) (w := w) (d := d) (b := b) (t := t) (LSt_ci h (i := i) (by omega)) c1 hg
  have r0 := r_20 (l := l) (Gr := Gr) (n := n) (w := w) (d := d) hg (LSt_ri h (j := j) (by omega)) t1
  have k0 := k_1 h5 gs.1
  have g6 := g_6 (l := l) (Gr := Gr) (n := n) (w := w) (d := d) (b := b) (t := t) hg (LSt_ci h (i := i + 1) (by omega)) c2 hT hE.2.1 (Nat.le_of_lt hs) c4 c3 (by omega)
  have r1 := r_24 (l := l) (Gr := Gr) (n := n) (w := w) (d := d) hg (LSt_ri h (j := j + 1) hj) t2 hE.2.2.1 (by omega)
  rw [c3, nI_clamp (by omega)] at g6
  rcases st_in (b := b) (i := i + 1) (j := j + 1) h c4 t3 t4 hid he h9 with ⟨q1, q2, q3, q4, q5⟩ | ⟨q1, q2⟩
  · left
    rw [q1, h13, show (1 : Int32) = nI 1 from rfl, ip_max_n (by omega) (by omega), h.2.2.2.2.1.1, nI_add] at g6
    rw [q2] at r1
    obtain ⟨X, eX⟩ : ∃ X, X = zi S 39 10 (nI (vw + max 1 z)) := ⟨_, rfl⟩
    rw [← eX] at g6
    have x3 : ∀ c k, ¬ (c = 39 ∧ k = 10) → X.1 c k = S.1 c k := fun c k y => by rw [eX, zi_get, if_neg y]
    have x32 : ∀ c k, X.2 c k = S.2 c k := fun _ _ => by rw [eX]; rfl
    refine ⟨X, CG_tr gs.2 g6.2, ?_, RG_tr r0 r1, LSt_s (i1 := 0) (i2 := 0) (j1 := 0) (j2 := 0) h (by rw [eX]; exact KSc_zi (Or.inr (Or.inr (Or.inr (Or.inr (Or.inl ⟨rfl, Or.inr (Or.inr (Or.inr rfl))⟩)))))) KSm_rfl ((x3 8 11 (by omega)).trans hE.2.1.1) hE.2.2.1 ((x3 3 5 (by omega)).trans h5) ((x3 39 3 (by omega)).trans hL.2.2.1) hL.2.2.2.1.2.2 hL.2.2.2.2.1 hL.2.2.2.2.2 ((x3 39 5 (by omega)).trans h.2.2.1.1) h.2.2.1.2 ((x3 39 9 (by omega)).trans h.2.2.2.1.1) (by rw [eX]; exact zi_v) ⟨by omega, hw⟩ (BDS_k h.2.2.2.2.2.1 (fun k => ⟨x3 43 k (by omega), x3 44 k (by omega)⟩)), x3, x32, q3, q4, q5⟩
    rw [← g6.1]
    exact kR_s k0 h5 (by omega)
  · right
    rw [q1] at g6
    rw [q2] at r1
    have uu := kT_0 (g := 4) (pl := nI s) h5
    refine FLT_pre gs.2 k0 r0 (by omega) (FLT_1 (g := 4) (pl := nI s) h5 (by decide) (Nat.le_refl _) g6.1 g6.2 ?_ ?_ r1 mF_f.1 mF_f.2)
    · rw [zi_c (by decide)]; exact uu.1
    · rw [zi_c (by decide)]; exact uu.2
/-- a var's EXPR and its being shown -/
theorem va_sh (hg : ip_gk (lg_tbl, vwCl, Gr)) (h : LSt b t N D m A 1 1 sz mz sc u vw lo hi S T) (hi' : i < sz) (hj : j + 1 < mz) (c1 : S.1 4 i = 7) (c3 : S.1 5 i = nI e) (c4 : S.1 6 i = nI p1) (t1 : T.1 78 j = 25) (t2 : T.1 79 j = nI v) (t3 : T.1 80 j = nI r) (t4 : T.1 89 j = nI a) (t5 : T.2 82 j = lN (65536 + 256 * z)) (t6 : T.1 78 (j + 1) = 21) (hid : nid b t T v s) (he : e < D) (h9 : S.1 9 e = nI s) (h11 : S.1 11 e = 1) (hr : r ≤ 1) (h12 : S.1 12 e = nI r) (hz : z ≤ 64) (h13 : S.1 13 e = nI z) (h14 : S.1 14 e = nI a) (ha : a + max 1 z ≤ vw) (hnv : ∀ v, v < m → ¬ S.1 16 v = nI e) (hm : m < 800) (hr' : r' ≤ 1) (hpb : pb ≤ 1) (b1 : S.1 40 0 = nI (r' + 2 * pb)) (b2 : T.1 98 0 = nI r') (b4 : T.1 99 0 = nI p1) :
    (∃ S' T', CG l Gr n w d S i S' (i + 1) ∧ kS b t S i = S' ∧ RG l Gr n w d T j T' (j + 2) ∧ LSt b t N D (m + 1) (adA A e a) 0 0 sz mz sc u vw lo hi S' T' ∧ (∀ c k, ¬ (c = 39 ∧ k = 3) → ¬ (c = 8 ∧ k = 11) → ¬ (c = 16 ∧ k = m) → S'.1 c k = S.1 c k) ∧ (∀ c k, S'.2 c k = S.2 c k) ∧ (∀ c k, ¬ (c = 73 ∧ (k = 34 ∨ k = 43)) → ¬ ((90 ≤ c ∧ c ≤ 95) ∧ k = m) → T'.1 c k = T.1 c k) ∧ (∀ c k, T'.2 c k = T.2 c k) ∧ r' = r) ∨ FLT l Gr n w d b t S T i (i + 1) j := by
  have hL := h.1
  have hE := hL.1
  have hD := hE.1.2.2.2.2
  have l3 := hL.2.2.1
  have l5 := hL.2.1.2.2
  have l7 := hL.2.2.2.1.2.2
  have hvw := h.2.2.2.2.1.2
  have gk := g_7 (l := l) (Gr := Gr) (n := n) (w := w) (d := d) (b := b) (t := t) hg (LSt_ci h hi') c1 l3 (by omega) c3 (by omega) hE.2.1.1 hm
  have eM := kMust_v (S := S) (i := i) (wt := r) l3 (by omega) hr' hpb hr b1 c4
  rw [c3, nI_clamp (by omega), h12, eM] at gk
  have p3 : (kPop S).1 39 3 = nI 0 := kPop_3 l3
  have p5 : (kPop S).1 3 5 = 0 := (kPop_c (by omega)).trans l5
  have wzz := wz hz
  by_cases zr : r' = r
  · left
    rw [if_pos zr] at gk
    have rk := r_25 (l := l) (Gr := Gr) (n := n) (w := w) (d := d) (m := 0) (z := z) hg (LSt_ri h (j := j) (by omega)) t1 hE.2.2.1 (by omega) (by rw [t5]; exact wzz.2.1) (by rw [t5]; exact wzz.2.2.2) hL.2.2.2.2.1 (by omega) (by rw [b2, t3, zr])
    rw [t2, t3, t4, show (2 : Int32) = nI (1 + 1) from rfl] at rk
    have hp := LSt_pop (S' := kPop S) (T' := zi T 73 43 (nI 0)) h (fun c k q => kPop_c q) (fun _ _ => rfl) (fun c k q => by rw [zi_get, if_neg q]) (fun _ _ => rfl) p3 zi_v
    obtain ⟨L, x3, x32, y3, y32⟩ := st_sh (e := e) (x := v) (k := 1) (r := r) (z := z) (a := a) hp he ((kPop_c (by omega)).trans h9) (nid_k hid (zi_k (by decide)) (fun k => zi_c (by decide))) (by omega) ((kPop_c (by omega)).trans h11) hr ((kPop_c (by omega)).trans h12) hz ((kPop_c (by omega)).trans h13) (by omega) (fun _ => (kPop_c (by omega)).trans h14) (fun _ => ha) (fun v hv => by rw [kPop_c (by omega)]; exact hnv v hv) hm
    have r21 := r_21 (l := l) (Gr := Gr) (n := n) (w := w) (d := d) hg (LSt_ri L (j := j + 1) hj) ((y3 78 (j + 1) (by omega) (by omega)).trans ((zi_c (by decide)).trans t6))
    exact ⟨_, _, gk.2, gk.1, RG_tr rk r21, L, fun c k q1 q2 q3 => (x3 c k q2 q3).trans (kPop_c q1), fun c k => x32 c k, fun c k q1 q2 => (y3 c k (by omega) q2).trans (by rw [zi_get, if_neg (by omega)]), fun c k => y32 c k, zr⟩
  · right
    rw [if_neg zr] at gk
    have rk := r_25a (l := l) (Gr := Gr) (n := n) (w := w) (d := d) (m := 0) hg (LSt_ri h (j := j) (by omega)) t1 (by rw [t5]; exact wzz.2.2.2) hL.2.2.2.2.1 (by omega) (by rw [b2, t3]; exact fun y => zr ((nI_b hr' hr).mp y))
    rw [b4] at rk
    have uu := kT_0 (g := 5) (pl := nI p1) p5
    have c8 : ∀ Y : zS, ∀ f, (kShow Y f).1 3 5 = Y.1 3 5 ∧ (kShow Y f).1 3 6 = Y.1 3 6 := fun Y f => by
      unfold kShow
      exact ⟨by rw [zi_c (by decide), zi_c (by decide)], by rw [zi_c (by decide), zi_c (by decide)]⟩
    refine FLT_1 (g := 5) (pl := nI p1) l5 (by decide) (Nat.le_refl _) gk.1 gk.2 ((c8 _ _).1.trans uu.1) ((c8 _ _).2.trans uu.2) rk ?_ ?_
    · rw [zi_k (by decide)]; exact mF_f.1
    · rw [zi_k (by decide)]; exact mF_f.2
/-- var NAME : TYPE = EXPR ; and var NAME : TYPE ; -/
theorem st_var (hg : ip_gk (lg_tbl, vwCl, Gr)) (g : sVar w S0 T0 (nid b t T0) D vw vw' p i i' j j') (cs : cgS S0 S i i') (ct : cgU T0 T j j') (hn : nmS S0 S D) (hni : ∀ v p, nid b t T0 v p → nid b t T v p) (h : LSt b t N D m A 0 0 sz mz sc u vw lo hi S T) (hsz : i' ≤ sz) (hmz : j' ≤ mz) (hB : HB S0 i i' 0 0 0) : STO l Gr n w d b t N D sz mz sc u lo hi vw vw' m A S T p i i' j j' := by
  obtain ⟨e, v, s, r, z, o, j1, he, hv, hdc, hr, hz, ⟨ho, eo, ew⟩, e2, f1, f2, f3, f4, f5, g1, g2, g3, g4, g5, g6, g7, g8, g9, g10, hh⟩ := g
  subst eo ew e2
  obtain ⟨s9, s11, s12, s13, s14⟩ := dcl_cong hdc he hn
  have bj : j + 2 ≤ j1 ∧ i + 2 < i' := by
    rcases hh with ⟨p1, i1, h1, e1, -⟩ | ⟨e0, e1, -⟩
    · have := gX_bnd h1
      omega
    · omega
  have hL := h.1
  have hs4 := hL.2.1.2.1
  have hm4 := hL.2.2.2.1.2.1
  have h5 := hL.2.1.2.2
  have hDD := hL.1.1.2.2.2.2
  have c0 := cs i (by omega) (by omega)
  have c1 := cs (i + 1) (by omega) (by omega)
  have t0 := ct.1 j (by omega) (by omega)
  have t1 := ct.1 (j + 1) (by omega) (by omega)
  have t2 := ct.1 j1 (by omega) (by omega)
  have u2 := ct.2 j1 (by omega) (by omega)
  have t3 := ct.1 (j1 + 1) (by omega) (by omega)
  rcases va_hd (l := l) (Gr := Gr) (n := n) (w := w) (d := d) (b := b) (e := e) (z := z) hg h (by omega) (by omega) (c0.1.trans f1) (c1.1.trans f3) (c1.2.1.trans f4) (c1.2.2.1.trans f5) (t0.1.trans g1) (t1.1.trans g3) (t1.2.1.trans g4) (t1.2.2.2.1.trans g5) (hni _ _ hv) he s9 s13 hz ho with ⟨S1, cg1, k1, rg1, L1, x1, x12, nv, nA, hm⟩ | hF
  · have ksc1 : KSc S S1 i (i + 2) m sc u := ⟨fun c k q1 q2 q3 q4 q5 q6 q7 q8 q9 => x1 c k (fun y => q5 ⟨y.1, by omega⟩), x12⟩
    have nE := NE_app (NE_1 (S := S0) (e1 := 0) (e2 := 0) f1 (by decide) (by decide) (by decide)) (NE_1 (S := S0) (e1 := 0) (e2 := 0) f3 (by decide) (by decide) (by decide))
    have cs1 := cs_s (cgS_sb cs (i1 := i + 2) (i2 := i') (by omega) (Nat.le_refl _)) ksc1 (Nat.le_refl _)
    rcases hh with ⟨p1, i1, gx, e1, k1', k2, k3, k4⟩ | ⟨e0, e1, k1', k2, k3⟩
    · subst e1
      have bx := gX_bnd gx
      rcases st_x (l := l) (Gr := Gr) (n := n) (w := w) (d := d) hg gx (cgS_sub cs1 (Nat.le_refl _) (by omega)) (cgT_sub ct.1 (by omega) (by omega)) hni L1 (by omega) (by omega) (HB_le hB nE (by omega) (by omega) (by omega)) with ⟨S2, T2, r', pb, a1, a2, a3, a4, a5, a6, hr', hpb, b1, b2, b3, b4, b5, -⟩ | hF
      · have kk2 := kR_cat k1 a2 (by omega) (by omega)
        have cg2 := CG_tr cg1 a1
        have rg2 := RG_tr rg1 a3
        have q2 := cs1 i1 (by omega) (by omega)
        have sn : ∀ cc k, 8 ≤ cc → cc ≤ 16 → S2.1 cc k = S.1 cc k := fun cc k y1 y2 => (KKc_N a5 y1 y2).trans (x1 cc k (by omega))
        have s5i : S2.1 5 i1 = nI e := (KKc_O a5 (Or.inl rfl) (Or.inr (Nat.le_refl _))).trans (q2.2.1.trans k2)
        rcases va_sh (l := l) (Gr := Gr) (n := n) (w := w) (d := d) (b := b) (i := i1) (j := j1) (e := e) (v := v) (s := s) (r := r) (z := z) (a := o) hg a4 (by omega) (by omega) ((KKc_C a5 (Or.inl rfl)).trans (q2.1.trans k1')) s5i ((KKc_C a5 (Or.inr rfl)).trans (q2.2.2.1.trans k3)) ((KKm_C a6 (by omega)).trans (t2.1.trans g6)) ((KKm_C a6 (by omega)).trans (t2.2.1.trans g7)) ((KKm_80 a6 (Or.inl rfl) (Or.inr (Nat.le_refl _))).trans (t2.2.2.1.trans g8)) ((KKm_C a6 (by omega)).trans (u2.trans g9)) ((a6.2 82 j1).trans (t2.2.2.2.2.trans k4)) ((KKm_C a6 (by omega)).trans (t3.1.trans g10)) (nid_m (hni _ _ hv) a6) he ((sn 9 e (by omega) (by omega)).trans s9) ((sn 11 e (by omega) (by omega)).trans s11) hr ((sn 12 e (by omega) (by omega)).trans s12) hz ((sn 13 e (by omega) (by omega)).trans s13) ((sn 14 e (by omega) (by omega)).trans s14) (Nat.le_refl _) (fun y hy => by rw [sn 16 y (by omega) (by omega)]; exact nv y hy) hm hr' hpb b1 b2 b4 with ⟨S3, T3, c1', c2', c3', L3, x3, x32, y3, y32, zr⟩ | hF
        · have kk3 : S3 = kR b t (i1 + 1 - i) i S := by
            rw [← c2']
            exact kR_s kk2 a4.1.2.1.2.2 (by omega)
          have ksc : KSc S S3 i (i1 + 1) m sc u := KSc_tr (KSc_tr ksc1 (KSc_x a5 (i := i + 2) (i' := i1) (Nat.le_refl _) (Nat.le_refl _)) (by omega) (by omega) (Nat.le_refl _) (Nat.le_refl _) (Nat.le_refl _)) (i2 := i) (m1 := m) (sc1 := sc) (u1 := u) (i' := i1 + 1) ⟨fun c k q1 q2 q3 q4 q5 q6 q7 q8 q9 => x3 c k (fun y => q5 ⟨y.1, Or.inl y.2⟩) q3 (fun y => q4 ⟨y.1, by omega⟩), x32⟩ (by omega) (Nat.le_refl _) (Nat.le_refl _) (Nat.le_refl _) (Nat.le_refl _)
          have ksm : KSm T T3 j (j1 + 2) m sc := KSm_tr (KSm_x a6 (j := j) (j' := j1) (by omega) (Nat.le_refl _)) (j2 := j) (m1 := m) (sc1 := sc) (j' := j1 + 2) ⟨fun c k q1 q2 q3 q4 q5 q6 => y3 c k (fun y => q1 ⟨y.1, by omega⟩) (fun y => q5 ⟨by omega, by omega⟩), y32⟩ (by omega) (Nat.le_refl _) (Nat.le_refl _) (Nat.le_refl _)
          have sN : ∀ cc, 9 ≤ cc → cc ≤ 15 → S3.1 cc e = S.1 cc e := fun cc y1 y2 => KSc_N ksc y1 y2
          have s4f : ∀ k, S3.1 4 k = S.1 4 k := fun k => KSc_C ksc (Or.inl rfl)
          have t4f : ∀ k cc, cc = 78 ∨ cc = 81 ∨ cc = 89 → T3.1 cc k = T.1 cc k := fun k cc q => KSm_C ksm (by omega)
          have t80 : T3.1 80 j1 = nI r := (y3 80 j1 (by omega) (by omega)).trans ((KKm_80 a6 (Or.inl rfl) (Or.inr (Nat.le_refl _))).trans (t2.2.2.1.trans g8))
          rw [zr] at b5
          exact Or.inl ⟨m + 1, adA A e o, lo, hi, S3, T3, CG_tr cg2 c1', kk3, RG_tr rg2 c3', L3, ksc, ksm, Nat.le_succ _, Nat.le_refl _, Nat.le_refl _, 1, Or.inr (Or.inr (Or.inl ⟨e, r, z, j1, he, (sN 11 (by omega) (by omega)).trans s11, (sN 12 (by omega) (by omega)).trans s12, (sN 13 (by omega) (by omega)).trans s13, (sN 14 (by omega) (by omega)).trans s14, hr, hz, rfl, ho, nA, rfl, rfl, (s4f i).trans (c0.1.trans f1), (KSc_C ksc (Or.inr rfl)).trans (c0.2.2.1.trans f2), (s4f (i + 1)).trans (c1.1.trans f3), (t4f j 78 (by omega)).trans (t0.1.trans g1), (t4f j 81 (by omega)).trans (t0.2.2.2.1.trans g2), (t4f (j + 1) 78 (by omega)).trans (t1.1.trans g3), (t4f j1 78 (by omega)).trans (t2.1.trans g6), t80, (t4f j1 89 (by omega)).trans (u2.trans g9), (t4f (j1 + 1) 78 (by omega)).trans (t3.1.trans g10), Or.inl ⟨i1, aX_k b5 (fun c k q => x3 c k (by omega) (by omega) (by omega)) ⟨fun c k q => y3 c k (by omega) (by omega), fun _ => y32 _ _⟩, rfl, (x3 4 i1 (by omega) (by omega) (by omega)).trans ((KKc_C a5 (Or.inl rfl)).trans (q2.1.trans k1')), (x3 5 i1 (by omega) (by omega) (by omega)).trans s5i, (y32 82 j1).trans ((a6.2 82 j1).trans (t2.2.2.2.2.trans k4))⟩⟩))⟩
        · exact Or.inr (FLT_pre cg2 kk2 rg2 (by omega) hF)
      · exact Or.inr (FLT_pre cg1 k1 rg1 (by omega) (FLT_up hF (by omega)))
    · subst e0 e1
      have q2 := cs1 (i + 2) (by omega) (by omega)
      have gk := g_8 (l := l) (Gr := Gr) (n := n) (w := w) (d := d) (b := b) (t := t) hg (LSt_ci L1 (i := i + 2) (by omega)) (q2.1.trans k1') L1.1.1.2.1.1 hm
      rw [q2.2.1.trans k2] at gk
      have wzz := wz hz
      have rk := r_25z (l := l) (Gr := Gr) (n := n) (w := w) (d := d) (z := z) hg (LSt_ri L1 (j := j + 2) (by omega)) (t2.1.trans g6) L1.1.1.2.2.1 (by omega) (by rw [t2.2.2.2.2.trans k3]; exact wzz.1) (by rw [t2.2.2.2.2.trans k3]; exact wzz.2.2.1)
      rw [t2.2.1.trans g7, t2.2.2.1.trans g8, u2.trans g9, show (2 : Int32) = nI (1 + 1) from rfl] at rk
      obtain ⟨L3, x3, x32, y3, y32⟩ := st_sh (e := e) (x := v) (k := 1) (r := r) (z := z) (a := o) L1 he ((x1 9 e (by omega)).trans s9) (hni _ _ hv) (by omega) ((x1 11 e (by omega)).trans s11) hr ((x1 12 e (by omega)).trans s12) hz ((x1 13 e (by omega)).trans s13) (by omega) (fun _ => (x1 14 e (by omega)).trans s14) (fun _ => Nat.le_refl _) (fun v hv => by rw [x1 16 v (by omega)]; exact nv v hv) hm
      have r21 := r_21 (l := l) (Gr := Gr) (n := n) (w := w) (d := d) hg (LSt_ri L3 (j := j + 2 + 1) (by omega)) ((y3 78 (j + 2 + 1) (by omega) (by omega)).trans (t3.1.trans g10))
      have kk3 : kShow S1 (nI e) = kR b t (i + 2 + 1 - i) i S := by
        rw [← gk.1]
        exact kR_s k1 L1.1.2.1.2.2 (by omega)
      have ksc : KSc S (kShow S1 (nI e)) i (i + 3) m sc u := KSc_tr ksc1 (KSc_sh (i := i) (i' := i + 3) x3 x32) (by omega) (Nat.le_refl _) (Nat.le_refl _) (Nat.le_refl _) (Nat.le_refl _)
      have ksm : KSm T (mSy T m (nI v) (nI (1 + 1)) (nI r) (nI z) (nI o)) j (j + 2 + 2) m sc := KSm_sh y3 y32
      have sN : ∀ cc, 9 ≤ cc → cc ≤ 15 → (kShow S1 (nI e)).1 cc e = S.1 cc e := fun cc y1 y2 => KSc_N ksc y1 y2
      exact Or.inl ⟨m + 1, adA A e o, lo, hi, _, _, CG_tr cg1 gk.2, kk3, RG_tr rg1 (RG_tr rk r21), L3, ksc, ksm, Nat.le_succ _, Nat.le_refl _, Nat.le_refl _, 1, Or.inr (Or.inr (Or.inl ⟨e, r, z, j + 2, he, (sN 11 (by omega) (by omega)).trans s11, (sN 12 (by omega) (by omega)).trans s12, (sN 13 (by omega) (by omega)).trans s13, (sN 14 (by omega) (by omega)).trans s14, hr, hz, rfl, ho, nA, rfl, rfl, (KSc_C ksc (Or.inl rfl)).trans (c0.1.trans f1), (KSc_C ksc (Or.inr rfl)).trans (c0.2.2.1.trans f2), (KSc_C ksc (Or.inl rfl)).trans (c1.1.trans f3), (y3 78 j (by omega) (by omega)).trans (t0.1.trans g1), (y3 81 j (by omega) (by omega)).trans (t0.2.2.2.1.trans g2), (y3 78 (j + 1) (by omega) (by omega)).trans (t1.1.trans g3), (y3 78 (j + 2) (by omega) (by omega)).trans (t2.1.trans g6), (y3 80 (j + 2) (by omega) (by omega)).trans (t2.2.2.1.trans g8), (y3 89 (j + 2) (by omega) (by omega)).trans (u2.trans g9), (y3 78 (j + 2 + 1) (by omega) (by omega)).trans (t3.1.trans g10), Or.inr ⟨rfl, rfl, (x3 4 (i + 2) (by omega) (by omega)).trans (q2.1.trans k1'), (x3 5 (i + 2) (by omega) (by omega)).trans (q2.2.1.trans k2), (y32 82 (j + 2)).trans (t2.2.2.2.2.trans k3)⟩⟩))⟩
  · exact Or.inr (FLT_up hF (by omega))
end STW
