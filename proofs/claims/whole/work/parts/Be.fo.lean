/-! SORTS of statements on both sides: for; every statement -/
section STF
variable {l : Launch} {Gr : zG} {n w : Nat} {d : Nat} {A : Nat → Nat → Prop} {b : Nat → Int32} {t N D m m5 tp mp sz mz sc u vw vw' lo hi lo2 hi2 p q i i' i1 i2 i3 j j' j1 j2 j3 x K hd e a r r' pb z vv p1 s k v : Nat} {S0 T0 S S' S'' S5 T T' T'' T5 : zS}
/-- a bound of a for -/
theorem fo_bd (hg : ip_gk (lg_tbl, vwCl, Gr)) (h : LSt b t N D m A 1 (mp + 1) sz mz sc u vw lo hi S T) (hmp : mp < 4200) (hi' : i < sz) (hj : j < mz) (s4 : S.1 4 i = 18) (s6 : S.1 6 i = nI p1) (t78 : T.1 78 j = 41) (hr' : r' ≤ 1) (hpb : pb ≤ 1) (b1 : S.1 40 0 = nI (r' + 2 * pb)) (b2 : T.1 98 mp = nI r') (b3 : T.1 100 mp = nI pb) (b4 : T.1 99 mp = nI p1) :
    (CG l Gr n w d S i (kPop S) (i + 1) ∧ kS b t S i = kPop S ∧ RG l Gr n w d T j T (j + 1) ∧ LSt b t N D m A 0 (mp + 1) sz mz sc u vw lo hi (kPop S) T ∧ r' = 0 ∧ pb = 1) ∨ FLT l Gr n w d b t S T i (i + 1) j := by
  have hL := h.1
  have l3 := hL.2.2.1
  have l5 := hL.2.1.2.2
  have l7 := hL.2.2.2.1.2.2
  have gk := g_18 (l := l) (Gr := Gr) (n := n) (w := w) (d := d) (b := b) (t := t) hg (LSt_ci h hi') s4 l3 (by omega)
  have rk := r_41 (l := l) (Gr := Gr) (n := n) (w := w) (d := d) (m := mp) hg (LSt_ri h hj) t78 hL.2.2.2.2.1 hmp
  have eM := kMust_v (S := S) (i := i) (wt := 0) l3 (by omega) hr' hpb (by omega) b1 s6
  have eM2 := mMu_v (T := T) (mp := mp) (wt := 0) l7 hr' (by omega) b2 b4
  rw [show nI 0 = 0 from rfl] at eM eM2
  rw [kMust_c (c := 6) (by omega) (by omega), s6, eM, kTop_t l3 (by omega), b1] at gk
  rw [eM2] at rk
  have p3 : (kPop S).1 39 3 = nI 0 := kPop_3 l3
  have p5 : (kPop S).1 3 5 = 0 := (kPop_c (by omega)).trans l5
  have pubs : nI (r' + 2 * pb) &&& 2 = 0 ↔ pb = 0 := by
    rw [(pt_1 hr' hpb).2]
    exact ⟨fun q => by have := (nI_eq (a := 2 * pb) (b := 0) (by omega) (by omega)).mp q; omega, fun q => by rw [q]; rfl⟩
  have pubT : T.1 100 mp = 0 ↔ pb = 0 := by
    rw [b3]
    exact nI_eq (a := pb) (b := 0) (by omega) (by omega)
  by_cases zr : r' = 0
  · rw [if_pos zr] at gk rk
    by_cases zp : pb = 0
    · right
      have ek : kPub (kPop S) (nI (r' + 2 * pb)) (nI p1) = kT (kPop S) 6 (nI p1) := by unfold kPub; rw [if_pos (pubs.mpr zp)]
      have em : mPb T mp = mF T 6 (nI p1) := by unfold mPb; rw [if_pos ⟨l7, pubT.mpr zp⟩, b4]
      rw [ek] at gk
      rw [em] at rk
      have uu := kT_0 (g := 6) (pl := nI p1) p5
      exact FLT_1 (g := 6) (pl := nI p1) l5 (by decide) (Nat.le_refl _) gk.1 gk.2 uu.1 uu.2 rk mF_f.1 mF_f.2
    · left
      have ek : kPub (kPop S) (nI (r' + 2 * pb)) (nI p1) = kPop S := by unfold kPub; rw [if_neg (fun q => zp (pubs.mp q))]
      have em : mPb T mp = T := by unfold mPb; rw [if_neg (fun q => zp (pubT.mp q.2))]
      rw [ek] at gk
      rw [em] at rk
      exact ⟨gk.2, gk.1, rk, LSt_pop h (fun c k q => kPop_c q) (fun _ _ => rfl) (fun _ _ _ => rfl) (fun _ _ => rfl) p3 hL.2.2.2.2.1, zr, by omega⟩
  · right
    rw [if_neg zr] at gk rk
    have uu := kT_0 (g := 5) (pl := nI p1) p5
    have nf : ¬ (kT (kPop S) 5 (nI p1)).1 3 5 = 0 := by rw [uu.1]; decide
    have ek : kPub (kT (kPop S) 5 (nI p1)) (nI (r' + 2 * pb)) (nI p1) = kT (kPop S) 5 (nI p1) := by
      unfold kPub
      split
      · exact if_neg nf
      · rfl
    have nm : ¬ (mF T 5 (nI p1)).1 73 7 = 0 := by rw [mF_f.1]; decide
    have em : mPb (mF T 5 (nI p1)) mp = mF T 5 (nI p1) := by unfold mPb; rw [if_neg (fun q => nm q.1)]
    rw [ek] at gk
    rw [em] at rk
    exact FLT_1 (g := 5) (pl := nI p1) l5 (by decide) (Nat.le_refl _) gk.1 gk.2 uu.1 uu.2 rk mF_f.1 mF_f.2
/-- the for itself -/
theorem fo_op (hg : ip_gk (lg_tbl, vwCl, Gr)) (h : LSt b t N D m A 0 2 sz mz sc u vw lo hi S T) (hi' : i < sz) (hj : j < mz) (hsc : sc < 31) (s4 : S.1 4 i = 19) (s5 : S.1 5 i = nI e) (t78 : T.1 78 j = 39) (t79 : T.1 79 j = nI v) (hid : nid b t T v s) (he : e < D) (h9 : S.1 9 e = nI s) (h11 : S.1 11 e = 2) (h12 : S.1 12 e = 0) (h13 : S.1 13 e = 0) (hnv : ∀ v, v < m → ¬ S.1 16 v = nI e) (hm : m < 800) :
    ∃ S' T', CG l Gr n w d S i S' (i + 1) ∧ kS b t S i = S' ∧ RG l Gr n w d T j T' (j + 1) ∧ LSt b t N D (m + 1) (adA A e j) 0 0 sz mz (sc + 1) u vw lo hi S' T' ∧ (∀ c k, ¬ (c = 39 ∧ k = 5) → ¬ (c = 41 ∧ k = sc) → ¬ (c = 8 ∧ k = 11) → ¬ (c = 16 ∧ k = m) → S'.1 c k = S.1 c k) ∧ (∀ c k, S'.2 c k = S.2 c k) ∧ S'.1 41 sc = nI m ∧ (∀ c k, ¬ (c = 73 ∧ (k = 43 ∨ k = 49 ∨ k = 34)) → ¬ (c = 101 ∧ k = sc) → ¬ ((90 ≤ c ∧ c ≤ 95) ∧ k = m) → T'.1 c k = T.1 c k) ∧ (∀ c k, T'.2 c k = T.2 c k) ∧ T'.1 101 sc = nI m := by
  have hL := h.1
  have hE := hL.1
  have hm4 := hL.2.2.2.1.2.1
  have l5 := hL.2.1.2.2
  have l7 := hL.2.2.2.1.2.2
  obtain ⟨hs5, hs49⟩ := h.2.2.1
  obtain ⟨hu9, hus⟩ := h.2.2.2.1
  obtain ⟨hw10, hvw⟩ := h.2.2.2.2.1
  have gk := g_19 (l := l) (Gr := Gr) (n := n) (w := w) (d := d) (b := b) (t := t) hg (LSt_ci h hi') s4 hs5 hsc hE.2.1.1 hm
  have rk := r_39 (l := l) (Gr := Gr) (n := n) (w := w) (d := d) (m := 0) hg (LSt_ri h hj) t78 hE.2.2.1 (by omega) hL.2.2.2.2.1 (by omega) hs49 (by omega)
  have eO : kOpen S = zi (zi S 39 5 (nI (sc + 1))) 41 sc (nI m) := by
    unfold kOpen
    rw [hs5, nI_1, nI_clamp (by omega), hE.2.1.1]
  rw [eO] at gk
  obtain ⟨X, eX⟩ : ∃ X, X = zi (zi S 39 5 (nI (sc + 1))) 41 sc (nI m) := ⟨_, rfl⟩
  rw [← eX] at gk
  obtain ⟨Y, eY⟩ : ∃ Y, Y = zi (zi (zi T 73 43 (nI 0)) 101 sc (nI m)) 73 49 (nI (sc + 1)) := ⟨_, rfl⟩
  rw [← eY, t79] at rk
  have x3 : ∀ c k, ¬ (c = 39 ∧ k = 5) → ¬ (c = 41 ∧ k = sc) → X.1 c k = S.1 c k := fun c k q1 q2 => by rw [eX, zi_get, if_neg q2, zi_get, if_neg q1]
  have x32 : ∀ c k, X.2 c k = S.2 c k := fun _ _ => by rw [eX]; rfl
  have y3 : ∀ c k, ¬ (c = 73 ∧ (k = 43 ∨ k = 49)) → ¬ (c = 101 ∧ k = sc) → Y.1 c k = T.1 c k := fun c k q1 q2 => by rw [eY, zi_get, if_neg (by omega), zi_get, if_neg (by omega), zi_get, if_neg (by omega)]
  have y32 : ∀ c k, Y.2 c k = T.2 c k := fun _ _ => by rw [eY]; rfl
  have v41 : X.1 41 sc = nI m := by rw [eX]; exact zi_v
  have v5 : X.1 39 5 = nI (sc + 1) := by rw [eX, zi_c (by decide)]; exact zi_v
  have w49 : Y.1 73 49 = nI (sc + 1) := by rw [eY]; exact zi_v
  have w43 : Y.1 73 43 = nI 0 := by rw [eY, zi_k (by decide), zi_c (by decide)]; exact zi_v
  have w101 : Y.1 101 sc = nI m := by rw [eY, zi_c (by decide)]; exact zi_v
  have kc : KSc S X 0 0 m sc u := ⟨fun c k q1 q2 q3 q4 q5 q6 q7 q8 q9 => x3 c k (fun y => q5 ⟨y.1, by omega⟩) (fun y => q7 ⟨y.1, by omega⟩), x32⟩
  have km : KSm T Y 0 0 m sc := ⟨fun c k q1 q2 q3 q4 q5 q6 => y3 c k (fun y => q1 ⟨y.1, by omega⟩) (fun y => q3 ⟨y.1, by omega⟩), y32⟩
  have LO : LSt b t N D m A 0 0 sz mz (sc + 1) u vw lo hi X Y := ⟨⟨EV_s hE kc km ((x3 8 11 (by omega) (by omega)).trans hE.2.1.1) ((y3 73 34 (by omega) (by omega)).trans hE.2.2.1), ⟨(x3 3 4 (by omega) (by omega)).trans hL.2.1.1, hL.2.1.2.1, (x3 3 5 (by omega) (by omega)).trans l5⟩, (x3 39 3 (by omega) (by omega)).trans hL.2.2.1, ⟨(y3 73 13 (by omega) (by omega)).trans hL.2.2.2.1.1, hm4, (y3 73 7 (by omega) (by omega)).trans l7⟩, w43, (y3 73 56 (by omega) (by omega)).trans hL.2.2.2.2.2⟩, (y3 73 47 (by omega) (by omega)).trans h.2.1, ⟨v5, w49⟩, ⟨(x3 39 9 (by omega) (by omega)).trans hu9, by omega⟩, ⟨(x3 39 10 (by omega) (by omega)).trans hw10, hvw⟩, BDS_k h.2.2.2.2.2.1 (fun k => ⟨x3 43 k (by omega) (by omega), x3 44 k (by omega) (by omega)⟩), VSA_s h.2.2.2.2.2.2 kc (Nat.le_refl _)⟩
  rw [x3 5 i (by omega) (by omega), s5] at gk
  rw [show (3 : Int32) = nI (2 + 1) from rfl, show (0 : Int32) = nI 0 from rfl] at rk
  obtain ⟨L, x4, x42, y4, y42⟩ := st_sh (e := e) (x := v) (k := 2) (r := 0) (z := 0) (a := j) LO he ((x3 9 e (by omega) (by omega)).trans h9) (nid_k hid (y3 73 9 (by omega) (by omega)) (fun k => y3 76 k (by omega) (by omega))) (by omega) ((x3 11 e (by omega) (by omega)).trans h11) (by omega) ((x3 12 e (by omega) (by omega)).trans h12) (by omega) ((x3 13 e (by omega) (by omega)).trans h13) (by omega) (fun q => absurd rfl q) (fun q => by omega) (fun v hv => by rw [x3 16 v (by omega) (by omega)]; exact hnv v hv) hm
  exact ⟨_, _, gk.2, gk.1, rk, L, fun c k q1 q2 q3 q4 => (x4 c k q3 q4).trans (x3 c k q1 q2), fun c k => (x42 c k).trans (x32 c k), (x4 41 sc (by omega) (by omega)).trans v41, fun c k q1 q2 q3 => (y4 c k (by omega) q3).trans (y3 c k (by omega) q2), fun c k => (y42 c k).trans (y32 c k), (y4 101 sc (by omega) (by omega)).trans w101⟩
/-- for NAME in EXPR .. EXPR BLOCK -/
theorem st_for (hg : ip_gk (lg_tbl, vwCl, Gr)) (IH : SIH l Gr n w d b t N D sz mz S0 T0 K) (g : sFor w S0 T0 (nid b t T0) D (gS w S0 T0 (nid b t T0) D K) vw vw' p i i' j j') (cs : cgS S0 S i i') (ct : cgU T0 T j j') (hn : nmS S0 S D) (hni : ∀ v p, nid b t T0 v p → nid b t T v p) (h : LSt b t N D m A 0 0 sz mz sc u vw lo hi S T) (hsz : i' ≤ sz) (hmz : j' ≤ mz) (hB : HB S0 i i' 0 0 0) (hK : sc + (K + 1) ≤ 31) : STO l Gr n w d b t N D sz mz sc u lo hi vw vw' m A S T p i i' j j' := by
  obtain ⟨e, v, s, p1, i1, j1, p2, i2, j2, k3, i3, j3, he, hv, hdc, gx, gy, l3, e1, e2, f1, f2, f3, f4, f5, f6, f7, f8, f9, f10, f11, f12, f13, f14, f15, f16, g1, g2, g3, g4, g5, g6, g7, g8, g9, g10, g11, g12, g13, g14⟩ := g
  subst e1 e2
  obtain ⟨s9, s11, s12, s13, s14⟩ := dcl_cong hdc he hn
  have bx := gX_bnd gx
  have by' := gX_bnd gy
  have bd := gS_bnd (w := w) (S := S0) (T := T0) (ni := nid b t T0) (D := D) K
  have b3 := gL_bnd bd _ _ _ _ _ _ _ l3
  have hL := h.1
  have hE := hL.1
  have hs4 := hL.2.1.2.1
  have hm4 := hL.2.2.2.1.2.1
  have h5 := hL.2.1.2.2
  have ht := hE.1.2.1
  have hDD := hE.1.2.2.2.2
  have hs : s < t := by
    obtain ⟨_, _, _, _, _, _, _, _, y⟩ := hv
    exact y
  have c0 := cs i (by omega) (by omega)
  have c1 := cs (i + 1) (by omega) (by omega)
  have c2 := cs i1 (by omega) (by omega)
  have c3 := cs i2 (by omega) (by omega)
  have c4 := cs (i2 + 1) (by omega) (by omega)
  have c5 := cs i3 (by omega) (by omega)
  have t0 := ct.1 j (by omega) (by omega)
  have t1 := ct.1 (j + 1) (by omega) (by omega)
  have t2 := ct.1 j1 (by omega) (by omega)
  have t3 := ct.1 j2 (by omega) (by omega)
  have t4 := ct.1 (j2 + 1) (by omega) (by omega)
  have t5 := ct.1 j3 (by omega) (by omega)
  have t6 := ct.1 (j3 + 1) (by omega) (by omega)
  have gs := g_step (l := l) (Gr := Gr) (n := n) (w := w) (d := d) (b := b) (t := t) (LSt_ci h (i := i) (by omega)) (c0.1.trans f1) hg
  have r0 := r_20 (l := l) (Gr := Gr) (n := n) (w := w) (d := d) hg (LSt_ri h (j := j) (by omega)) (t0.1.trans g1)
  have k0 := k_1 h5 gs.1
  have g17 := g_17 (l := l) (Gr := Gr) (n := n) (w := w) (d := d) (b := b) (t := t) hg (LSt_ci h (i := i + 1) (by omega)) (c1.1.trans f3) hE.1 hE.2.1 (Nat.le_of_lt hs) (c1.2.2.1.trans f5)
  have r38 := r_38 (l := l) (Gr := Gr) (n := n) (w := w) (d := d) hg (LSt_ri h (j := j + 1) (by omega)) (t1.1.trans g3) hE.2.2.1 (by have := hE.2.1.2.1; omega)
  rcases st_in (b := b) (i := i + 1) (j := j + 1) h (c1.2.2.1.trans f5) (t1.2.1.trans g4) (t1.2.2.2.1.trans g5) (hni _ _ hv) he s9 with ⟨z1, z2, nv, nA, hm⟩ | ⟨z1, z2⟩
  · rw [z1] at g17
    rw [z2] at r38
    have k1 : S = kR b t (i + 1 + 1 - i) i S := by
      have := kR_s (b := b) (t := t) k0 h5 (by omega)
      rw [g17.1] at this
      exact this
    have cg1 : CG l Gr n w d S i S (i + 2) := CG_tr gs.2 g17.2
    have rg1 : RG l Gr n w d T j T (j + 2) := RG_tr r0 r38
    have nE := NE_app (NE_1 (S := S0) (e1 := 0) (e2 := 0) f1 (by decide) (by decide) (by decide)) (NE_1 (S := S0) (e1 := 0) (e2 := 0) f3 (by decide) (by decide) (by decide))
    rcases st_x (l := l) (Gr := Gr) (n := n) (w := w) (d := d) hg gx (cgS_sub cs (by omega) (by omega)) (cgT_sub ct.1 (by omega) (by omega)) hni h (by omega) (by omega) (HB_le hB nE (by omega) (by omega) (by omega)) with ⟨S1, T1, r', pb, a1, a2, a3, a4, a5, a6, hr', hpb, b1, b2', b3', b4, b5, b5p⟩ | hF
    · have kk1 := kR_cat k1 a2 (by omega) (by omega)
      have cg2 := CG_tr cg1 a1
      have rg2 := RG_tr rg1 a3
      rcases fo_bd (l := l) (Gr := Gr) (n := n) (w := w) (d := d) (b := b) (mp := 0) (i := i1) (j := j1) hg a4 (by omega) (by omega) (by omega) ((KKc_C a5 (Or.inl rfl)).trans (c2.1.trans f6)) ((KKc_C a5 (Or.inr rfl)).trans (c2.2.2.1.trans f7)) ((KKm_C a6 (by omega)).trans (t2.1.trans g6)) hr' hpb b1 b2' b3' b4 with ⟨d1, d2, d3, d4, zr, zpb⟩ | hF
      · obtain ⟨S2, eS2⟩ : ∃ S2, S2 = kPop S1 := ⟨_, rfl⟩
        rw [← eS2] at d1 d2 d4
        have p2c : ∀ c k, ¬ (c = 39 ∧ k = 3) → S2.1 c k = S1.1 c k := fun c k q => by rw [eS2]; exact kPop_c q
        have kk2 : S2 = kR b t (i1 + 1 - i) i S := by
          rw [← d2]
          exact kR_s kk1 a4.1.2.1.2.2 (by omega)
        have kpop : KKc S1 S2 i1 (i1 + 1) 0 := ⟨fun c k q1 q2 q3 q4 => p2c c k q3, fun _ _ => by rw [eS2]; rfl⟩
        have cg3 := CG_tr cg2 d1
        have rg3 := RG_tr rg2 d3
        have cs2 := cg_c (cg_c (cgS_sub cs (i1 := i1 + 1) (i2 := i3 + 1) (by omega) (Nat.le_refl _)) a5 (by omega)) kpop (Nat.le_refl _)
        have ct2 := cg_m (cgT_sub ct.1 (j1 := j1 + 1) (j2 := j3 + 2) (by omega) (Nat.le_refl _)) a6 (by omega)
        have nE2 := NE_app (NE_app nE (gX_ne gx (by omega))) (NE_1 (S := S0) (e1 := -1) (e2 := 0) f6 (by decide) (by decide) (by decide))
        rcases st_x (l := l) (Gr := Gr) (n := n) (w := w) (d := d) hg gy (cgS_sub cs2 (by omega) (by omega)) (cgT_sub ct2 (by omega) (by omega)) (fun v p y => nid_m (hni v p y) a6) d4 (by omega) (by omega) (HB_le hB nE2 (by omega) (by omega) (by omega)) with ⟨S3, T3, r3, pb3, o1, o2, o3, o4, o5, o6, hr3, hpb3, q1, q2, q3, q4, q5, q5p⟩ | hF
        · have kk3 := kR_cat kk2 o2 (by omega) (by omega)
          have cg4 := CG_tr cg3 o1
          have rg4 := RG_tr rg3 o3
          have w3 := cs2 i2 (by omega) (by omega)
          have u3 := ct2 j2 (by omega) (by omega)
          rcases fo_bd (l := l) (Gr := Gr) (n := n) (w := w) (d := d) (b := b) (mp := 1) (i := i2) (j := j2) hg o4 (by omega) (by omega) (by omega) ((KKc_C o5 (Or.inl rfl)).trans (w3.1.trans f8)) ((KKc_C o5 (Or.inr rfl)).trans (w3.2.2.1.trans f9)) ((KKm_C o6 (by omega)).trans (u3.1.trans g7)) hr3 hpb3 q1 q2 q3 q4 with ⟨d1', d2', d3', d4', zr', zpb'⟩ | hF
          · obtain ⟨S4, eS4⟩ : ∃ S4, S4 = kPop S3 := ⟨_, rfl⟩
            rw [← eS4] at d1' d2' d4'
            have p4c : ∀ c k, ¬ (c = 39 ∧ k = 3) → S4.1 c k = S3.1 c k := fun c k q => by rw [eS4]; exact kPop_c q
            have kk4 : S4 = kR b t (i2 + 1 - i) i S := by
              rw [← d2']
              exact kR_s kk3 o4.1.2.1.2.2 (by omega)
            have kpop4 : KKc S3 S4 i2 (i2 + 1) 0 := ⟨fun c k q1 q2 q3 q4 => p4c c k q3, fun _ _ => by rw [eS4]; rfl⟩
            have cg5 := CG_tr cg4 d1'
            have rg5 := RG_tr rg4 d3'
            have cs4 := cg_c (cg_c (cgS_sub cs2 (i1 := i2 + 1) (i2 := i3 + 1) (by omega) (Nat.le_refl _)) o5 (by omega)) kpop4 (Nat.le_refl _)
            have ct4 := cg_m (cgT_sub ct2 (j1 := j2 + 1) (j2 := j3 + 2) (by omega) (Nat.le_refl _)) o6 (by omega)
            have sn4 : ∀ cc k, 8 ≤ cc → cc ≤ 16 → S4.1 cc k = S.1 cc k := fun cc k y1 y2 => (p4c cc k (by omega)).trans ((KKc_N o5 y1 y2).trans ((p2c cc k (by omega)).trans (KKc_N a5 y1 y2)))
            have w4 := cs4 (i2 + 1) (by omega) (by omega)
            have u4 := ct4 (j2 + 1) (by omega) (by omega)
            obtain ⟨S5, T5, m1, m2, m3, L5, x5, x52, x41, y5, y52, y101⟩ := fo_op (l := l) (Gr := Gr) (n := n) (w := w) (d := d) (b := b) (i := i2 + 1) (j := j2 + 1) (e := e) (v := v) (s := s) hg d4' (by omega) (by omega) (by omega) (w4.1.trans f10) (w4.2.1.trans f11) (u4.1.trans g8) (u4.2.1.trans g9) (nid_m (nid_m (hni _ _ hv) a6) o6) he ((sn4 9 e (by omega) (by omega)).trans s9) ((sn4 11 e (by omega) (by omega)).trans s11) ((sn4 12 e (by omega) (by omega)).trans s12) ((sn4 13 e (by omega) (by omega)).trans s13) (fun y hy => by rw [sn4 16 y (by omega) (by omega)]; exact nv y hy) hm
            have kk5 : S5 = kR b t (i2 + 1 + 1 - i) i S := by
              rw [← m2]
              exact kR_s kk4 d4'.1.2.1.2.2 (by omega)
            have cg6 := CG_tr cg5 m1
            have rg6 := RG_tr rg5 m3
            have kA : KSc S S2 i (i1 + 1) m sc u := KSc_tr (KSc_x a5 (i := i) (i' := i1) (by omega) (Nat.le_refl _)) (KSc_x kpop (i := i) (i' := i1 + 1) (by omega) (Nat.le_refl _)) (by omega) (Nat.le_refl _) (Nat.le_refl _) (Nat.le_refl _) (Nat.le_refl _)
            have kB : KSc S2 S4 i (i2 + 1) m sc u := KSc_tr (KSc_x o5 (i := i) (i' := i2) (by omega) (Nat.le_refl _)) (KSc_x kpop4 (i := i) (i' := i2 + 1) (by omega) (Nat.le_refl _)) (by omega) (Nat.le_refl _) (Nat.le_refl _) (Nat.le_refl _) (Nat.le_refl _)
            have k5 : KSc S4 S5 i (i2 + 2) m sc u := ⟨fun c k q1 q2 q3 q4 q5 q6 q7 q8 q9 => x5 c k (fun y => q5 ⟨y.1, by omega⟩) (fun y => q7 ⟨y.1, by omega⟩) q3 (fun y => q4 ⟨y.1, by omega⟩), x52⟩
            have kC : KSc S S5 i (i2 + 2) m sc u := KSc_tr (KSc_tr kA kB (by omega) (Nat.le_refl _) (Nat.le_refl _) (Nat.le_refl _) (Nat.le_refl _)) k5 (by omega) (Nat.le_refl _) (Nat.le_refl _) (Nat.le_refl _) (Nat.le_refl _)
            have m5' : KSm T3 T5 j (j2 + 2) m sc := ⟨fun c k q1 q2 q3 q4 q5 q6 => y5 c k (fun y => q1 ⟨y.1, by omega⟩) (fun y => q3 ⟨y.1, by omega⟩) (fun y => q5 ⟨by omega, by omega⟩), y52⟩
            have kM : KSm T T5 j (j2 + 2) m sc := KSm_tr (KSm_tr (KSm_x a6 (j := j) (j' := j1) (by omega) (Nat.le_refl _)) (KSm_x o6 (j := j) (j' := j2) (by omega) (Nat.le_refl _)) (by omega) (Nat.le_refl _) (Nat.le_refl _) (Nat.le_refl _)) m5' (by omega) (Nat.le_refl _) (Nat.le_refl _) (Nat.le_refl _)
            have cs5 := cs_s (cgS_sb cs (i1 := i2 + 2) (i2 := i3 + 1) (by omega) (Nat.le_refl _)) kC (Nat.le_refl _)
            have ct5 := cu_s (cgU_sb ct (j1 := j2 + 2) (j2 := j3 + 2) (by omega) (Nat.le_refl _)) kM (Nat.le_refl _)
            have nE4 := NE_app (NE_app (NE_app nE2 (gX_ne gy (by omega))) (NE_1 (S := S0) (e1 := -1) (e2 := 0) f8 (by decide) (by decide) (by decide))) (NE_1 (S := S0) (e1 := 0) (e2 := -2) f10 (by decide) (by decide) (by decide))
            rcases st_lst (l := l) (Gr := Gr) (n := n) (w := w) (d := d) IH k3 vw vw' (i2 + 2) i3 (j2 + 2) j3 l3 (cgS_sb cs5 (Nat.le_refl _) (by omega)) (cgU_sb ct5 (Nat.le_refl _) (by omega)) (nm_s hn kC) (fun v p y => nid_s (hni v p y) kM) L5 (by omega) (by omega) (HB_le hB nE4 (by omega) (by omega) (by omega)) (by omega) with ⟨m6, A6, lo', hi', S6, T6, v1, v2, v3, v4, v5, v6, v7, v8, v9, v10⟩ | hF
            · have kk6 := kR_cat kk5 v2 (by omega) (by omega)
              have hL6 := v4.1
              have m68 := hL6.1.2.1.2.1
              have q6 := cs_s (cgS_sb cs5 (i1 := i3) (i2 := i3 + 1) (by omega) (Nat.le_refl _)) v5 (Nat.le_refl _) i3 (by omega) (by omega)
              have u6 := cu_s (cgU_sb ct5 (j1 := j3) (j2 := j3 + 2) (by omega) (Nat.le_refl _)) v6 (Nat.le_refl _)
              have v41 : S6.1 41 sc = nI m := (KSc_41 v5 (by omega)).trans x41
              have w101 : T6.1 101 sc = nI m := (KSm_101 v6 (by omega)).trans y101
              have gk := g_20 (l := l) (Gr := Gr) (n := n) (w := w) (d := d) (b := b) (t := t) hg (LSt_ci v4 (i := i3) (by omega)) (q6.1.trans f14) v4.2.2.1.1 (by omega)
              have eC : kClose S6 = zi (zi S6 39 5 (nI sc)) 8 11 (nI m) := by
                unfold kClose
                rw [v4.2.2.1.1, nI_pred, nI_clamp (by omega), v41, hL6.1.2.1.1, ip_min_n (by omega) (by omega), Nat.min_eq_right (by omega)]
              rw [eC] at gk
              have rk := r_40 (l := l) (Gr := Gr) (n := n) (w := w) (d := d) hg (LSt_ri v4 (j := j3) (by omega)) ((u6.1 j3 (by omega) (by omega)).1.trans g12) v4.2.2.1.2 (by omega)
              rw [w101] at rk
              obtain ⟨S7, eS7⟩ : ∃ S7, S7 = zi (zi S6 39 5 (nI sc)) 8 11 (nI m) := ⟨_, rfl⟩
              rw [← eS7] at gk
              obtain ⟨T7, eT7⟩ : ∃ T7, T7 = zi (zi T6 73 49 (nI sc)) 73 34 (nI m) := ⟨_, rfl⟩
              rw [← eT7] at rk
              have x7 : ∀ c k, ¬ (c = 39 ∧ k = 5) → ¬ (c = 8 ∧ k = 11) → S7.1 c k = S6.1 c k := fun c k q1 q2 => by rw [eS7, zi_get, if_neg q2, zi_get, if_neg q1]
              have x72 : ∀ c k, S7.2 c k = S6.2 c k := fun _ _ => by rw [eS7]; rfl
              have y7 : ∀ c k, ¬ (c = 73 ∧ (k = 34 ∨ k = 49)) → T7.1 c k = T6.1 c k := fun c k q => by rw [eT7, zi_get, if_neg (by omega), zi_get, if_neg (by omega)]
              have y72 : ∀ c k, T7.2 c k = T6.2 c k := fun _ _ => by rw [eT7]; rfl
              have ksc67 : KSc S6 S7 i (i3 + 1) m sc u := ⟨fun c k q1 q2 q3 q4 q5 q6 q7 q8 q9 => x7 c k (fun y => q5 ⟨y.1, by omega⟩) q3, x72⟩
              have ksm67 : KSm T6 T7 j (j3 + 2) m sc := ⟨fun c k q1 q2 q3 q4 q5 q6 => y7 c k (fun y => q1 ⟨y.1, by omega⟩), y72⟩
              have KC : KSc S S7 i (i3 + 1) m sc u := KSc_tr (KSc_tr kC v5 (by omega) (by omega) (by omega) (by omega) (Nat.le_refl _)) ksc67 (by omega) (Nat.le_refl _) (Nat.le_refl _) (Nat.le_refl _) (Nat.le_refl _)
              have KM : KSm T T7 j (j3 + 2) m sc := KSm_tr (KSm_tr kM v6 (by omega) (by omega) (by omega) (by omega)) ksm67 (by omega) (Nat.le_refl _) (Nat.le_refl _) (Nat.le_refl _)
              have hw3 := gL_vw (gS_vw (w := w) (S := S0) (T := T0) (ni := nid b t T0) (D := D) K) _ _ _ _ _ _ _ l3
              have L7 : LSt b t N D m A 0 0 sz mz sc u vw' lo' hi' S7 T7 := LSt_s h KC KM (by rw [eS7]; exact zi_v) (by rw [eT7]; exact zi_v) ((x7 3 5 (by omega) (by omega)).trans hL6.2.1.2.2) ((x7 39 3 (by omega) (by omega)).trans hL6.2.2.1) ((y7 73 7 (by omega)).trans hL6.2.2.2.1.2.2) ((y7 73 43 (by omega)).trans hL6.2.2.2.2.1) ((y7 73 56 (by omega)).trans hL6.2.2.2.2.2) (by rw [eS7, zi_c (by decide)]; exact zi_v) (by rw [eT7, zi_k (by decide)]; exact zi_v) ((x7 39 9 (by omega) (by omega)).trans v4.2.2.2.1.1) ((x7 39 10 (by omega) (by omega)).trans v4.2.2.2.2.1.1) ⟨hw3, v4.2.2.2.2.1.2⟩ (BDS_k v4.2.2.2.2.2.1 (fun k => ⟨x7 43 k (by omega) (by omega), x7 44 k (by omega) (by omega)⟩))
              have r21 := r_21 (l := l) (Gr := Gr) (n := n) (w := w) (d := d) hg (LSt_ri L7 (j := j3 + 1) (by omega)) ((y7 78 (j3 + 1) (by omega)).trans ((u6.1 (j3 + 1) (by omega) (by omega)).1.trans g14))
              have kk7 : S7 = kR b t (i3 + 1 - i) i S := by
                have := kR_s (b := b) (t := t) kk6 hL6.2.1.2.2 (by omega)
                rw [gk.1] at this
                exact this
              have a67 : ∀ {a c : Nat}, anS S6 S7 a c := fun {a c} cc k q => x7 cc k (by omega) (by omega)
              have b67 : ∀ {a c : Nat}, anU T6 T7 a c := fun {a c} => ⟨fun cc k q => y7 cc k (by omega), fun k => y72 82 k⟩
              have a47 : ∀ {a c : Nat}, c ≤ i2 + 2 → anS S4 S7 a c := fun {a c} hc cc k q => (x7 cc k (by omega) (by omega)).trans ((anS_s v5 (i := a) (i' := c) (Or.inl (by omega)) cc k q).trans (x5 cc k (by omega) (by omega) (by omega) (by omega)))
              have b47 : ∀ {a c : Nat}, c ≤ j2 + 2 → anU T3 T7 a c := fun {a c} hc => ⟨fun cc k q => (y7 cc k (by omega)).trans (((anU_s v6 (j := a) (j' := c) (Or.inl (by omega))).1 cc k q).trans (y5 cc k (by omega) (by omega) (by omega))), fun k => (y72 82 k).trans ((v6.2 82 k).trans (y52 82 k))⟩
              have X1 : aX w D A 0 S7 T7 (i + 2) i1 (j + 2) j1 := by
                rw [zr] at b5
                have A1 := aX_k b5 (anS_k kpop (Or.inl (by omega))) anT_rfl
                have A2 := aX_k A1 (anS_k o5 (Or.inl (by omega))) (anT_k o6 (Or.inl (by omega)))
                have A3 := aX_k A2 (anS_k kpop4 (Or.inl (by omega))) anT_rfl
                exact aX_k A3 (a47 (by omega)) (anU_T (b47 (by omega)))
              have X2 : aX w D A 0 S7 T7 (i1 + 1) i2 (j1 + 1) j2 := by
                rw [zr'] at q5
                have A3 := aX_k q5 (anS_k kpop4 (Or.inl (by omega))) anT_rfl
                exact aX_k A3 (a47 (by omega)) (anU_T (b47 (by omega)))
              have s57 : ∀ cc, cc = 5 ∨ cc = 7 → S7.1 cc (i2 + 1) = S4.1 cc (i2 + 1) := fun cc q => a47 (a := i2 + 1) (c := i2 + 2) (Nat.le_refl _) cc (i2 + 1) (by omega)
              have t80 : T7.1 80 (j2 + 1) = nI j3 := ((b47 (a := j2 + 1) (c := j2 + 2) (Nat.le_refl _)).1 80 (j2 + 1) (by omega)).trans (u4.2.2.1.trans g10)
              exact Or.inl ⟨m, A, lo', hi', S7, T7, CG_tr cg6 (CG_tr v1 gk.2), kk7, RG_tr rg6 (RG_tr v3 (RG_tr rk r21)), L7, KC, KM, Nat.le_refl _, v8, v9, aT_for ⟨e, i1, j1, i2, j2, k3, i3, j3, A6, he, (KSc_N KC (by omega) (by omega)).trans s11, (KSc_N KC (by omega) (by omega)).trans s12, (KSc_N KC (by omega) (by omega)).trans s13, nA, X1, X2, aL_T (Nat.le_refl _) (Nat.le_refl _) v10 a67 b67, rfl, rfl, rfl, (KSc_C KC (Or.inl rfl)).trans (c0.1.trans f1), (KSc_C KC (Or.inr rfl)).trans (c0.2.2.1.trans f2), (KSc_C KC (Or.inl rfl)).trans (c1.1.trans f3), (KSc_C KC (Or.inl rfl)).trans (c2.1.trans f6), (KSc_C KC (Or.inl rfl)).trans (c3.1.trans f8), (KSc_C KC (Or.inl rfl)).trans (c4.1.trans f10), (s57 5 (Or.inl rfl)).trans (w4.2.1.trans f11), (KSc_C KC (Or.inr rfl)).trans (c4.2.2.1.trans f12), (s57 7 (Or.inr rfl)).trans (w4.2.2.2.trans f13), (KSc_C KC (Or.inl rfl)).trans (c5.1.trans f14), (x7 5 i3 (by omega) (by omega)).trans (q6.2.1.trans f15), (x7 7 i3 (by omega) (by omega)).trans (q6.2.2.2.trans f16), (KSm_C KM (by omega)).trans (t0.1.trans g1), (KSm_C KM (by omega)).trans (t0.2.2.2.1.trans g2), (KSm_C KM (by omega)).trans (t1.1.trans g3), (KSm_C KM (by omega)).trans (t2.1.trans g6), (KSm_C KM (by omega)).trans (t3.1.trans g7), (KSm_C KM (by omega)).trans (t4.1.trans g8), t80, (KSm_C KM (by omega)).trans (t4.2.2.2.1.trans g11), (KSm_C KM (by omega)).trans (t5.1.trans g12), (KSm_C KM (by omega)).trans (t5.2.1.trans g13), (KSm_C KM (by omega)).trans (t6.1.trans g14), PB_k (PB_k (b5p zpb) (anT_k (j := j + 2) (j' := j1) o6 (Or.inl (by omega))) (Nat.le_refl _) (Nat.le_refl _)) (anU_T (b47 (a := j + 2) (c := j1) (by omega))) (Nat.le_refl _) (Nat.le_refl _), PB_k (q5p zpb') (anU_T (b47 (a := j1 + 1) (c := j2) (by omega))) (Nat.le_refl _) (Nat.le_refl _)⟩⟩
            · exact Or.inr (FLT_pre cg6 kk5 rg6 (by omega) (FLT_up hF (by omega)))
          · exact Or.inr (FLT_pre cg4 kk3 rg4 (by omega) (FLT_up hF (by omega)))
        · exact Or.inr (FLT_pre cg3 kk2 rg3 (by omega) (FLT_up hF (by omega)))
      · exact Or.inr (FLT_pre cg2 kk1 rg2 (by omega) (FLT_up hF (by omega)))
    · exact Or.inr (FLT_pre cg1 k1 rg1 (by omega) (FLT_up hF (by omega)))
  · right
    rw [z1] at g17
    rw [z2] at r38
    have uu := kT_0 (g := 4) (pl := nI s) h5
    exact FLT_pre gs.2 k0 r0 (by omega) (FLT_1 (g := 4) (pl := nI s) h5 (by decide) (by omega) g17.1 g17.2 uu.1 uu.2 r38 mF_f.1 mF_f.2)
/-- every statement's SORTS goes alike -/
theorem st_all (hg : ip_gk (lg_tbl, vwCl, Gr)) : ∀ K, SIH l Gr n w d b t N D sz mz S0 T0 K
  | 0 => fun vw vw' p i i' j j' m A sc u lo hi S T h _ _ _ _ _ _ _ _ _ => h.elim
  | K + 1 => fun vw vw' p i i' j j' m A sc u lo hi S T g cs ct hn hni h hsz hmz hB hK => by
    have IH := st_all hg K
    rcases g with ⟨g, e⟩ | ⟨g, e⟩ | g | g | g
    · subst e
      exact st_set hg g cs ct hni h hsz hmz hB (by omega)
    · subst e
      exact st_elt hg g cs ct hni h hsz hmz hB (by omega)
    · exact st_var hg g cs ct hn hni h hsz hmz hB
    · exact st_if hg IH g cs ct hn hni h hsz hmz hB hK
    · exact st_for hg IH g cs ct hn hni h hsz hmz hB hK
end STF
