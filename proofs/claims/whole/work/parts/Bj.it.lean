/-! SORTS of ITEMs on both sides: def; every ITEM; the whole PROGRAM -/
section ITH
variable {l : Launch} {Gr : zG} {n w : Nat} {d : Nat} {A A' : Nat → Nat → Prop} {b : Nat → Int32} {t N D D' Dl m m5 tp mp sz mz sc u vw vw' iw iw' P P' lo hi p p' q i i' i1 i2 i3 j j' jj j1 j2 j3 x K e a r r' pb z vv p1 s k v : Nat} {S0 T0 S S' S1 S5 Sa T T' T1 T5 Ta : zS}
theorem it_def (hg : ip_gk (lg_tbl, vwCl, Gr)) (g : sDef w S0 T0 (nid b t T0) Dl D i i' j j') (cs : cgS S0 S i i') (ct : cgU T0 T j j') (hn : nmS S0 S D) (hni : ∀ v p, nid b t T0 v p → nid b t T v p) (h : LIt b t N D m A sz mz vw iw P S T) (hmD : m ≤ Dl) (hPD : P ≤ Dl) (hsz : i' ≤ sz) (hmz : j' ≤ mz) (hB : HB S0 i i' 0 0 0) : ITO l Gr n w d b t N D sz mz vw vw iw iw A S T p i i' j j' := by
  obtain ⟨e, v, s, r, k, pe, i1, j1, ⟨ee, eD⟩, hv, hdc, h15, hr, hp0, gx, e1, e2, f1, f2, f3, f4, f5, f6, f7, g1, g2, g3, g4, g5, g6, g7, g8, g9⟩ := g
  subst e1 e2
  have bx := gX_bnd gx
  obtain ⟨hS, h59, h60, hP⟩ := h
  have hL := hS.1
  have hE := hL.1
  have h5 := hL.2.1.2.2
  have hs4 := hL.2.1.2.1
  have hm4 := hL.2.2.2.1.2.1
  have hDD := hE.1.2.2.2.2
  have ht := hE.1.2.1
  obtain ⟨s9, s11, s12, s13, s14⟩ := dcl_cong hdc (show e < D by omega) hn
  have s15 : S.1 15 e = nI k := (hn e (by omega)).2.2.2.2.2.2.trans h15
  have hs : s < t := by
    obtain ⟨_, _, _, _, _, _, _, _, y⟩ := hv
    exact y
  have c0 := cs i (by omega) (by omega)
  have ci1 := cs i1 (by omega) (by omega)
  have t0 := ct.1 j (by omega) (by omega)
  have tk1 := ct.1 (j + 1 + k) (by omega) (by omega)
  have tj1 := ct.1 j1 (by omega) (by omega)
  have hp : ∀ a, a < k → sPar S T (nid b t T) e i j a := fun a ha => by
    obtain ⟨x, s', r', y1, y2, y3, y4, y5, y6, y7, y8, y9, y10⟩ := hp0 a ha
    have q := cs (i + 1 + a) (by omega) (by omega)
    have o := ct.1 (j + 1 + a) (by omega) (by omega)
    exact ⟨x, s', r', hni _ _ y1, y2, dcl_cong y3 (by omega) hn, q.1.trans y4, q.2.1.trans y5, q.2.2.1.trans y6, o.1.trans y7, o.2.1.trans y8, o.2.2.1.trans y9, o.2.2.2.1.trans y10⟩
  have gk := g_3 (l := l) (Gr := Gr) (n := n) (w := w) (d := d) (b := b) (t := t) hg (LSt_ci hS (i := i) (by omega)) (c0.1.trans f1) hE.1 hE.2.1 (Nat.le_of_lt hs) (c0.2.2.1.trans f3)
  have rk := r_26 (l := l) (Gr := Gr) (n := n) (w := w) (d := d) hg (LSt_ri hS (j := j) (by omega)) (t0.1.trans g1) hE.2.2.1 (by omega)
  rcases st_in (b := b) (i := i) (j := j) hS (c0.2.2.1.trans f3) (t0.2.1.trans g2) (t0.2.2.2.1.trans g4) (hni _ _ hv) (show e < D by omega) s9 with ⟨z1, z2, nv, nA, -⟩ | ⟨z1, z2⟩
  · rw [z1, hE.2.1.1] at gk
    rw [z2, h60] at rk
    obtain ⟨S1, eS1⟩ : ∃ S1, S1 = zi S 8 12 (nI m) := ⟨_, rfl⟩
    rw [← eS1] at gk
    obtain ⟨T1, eT1⟩ : ∃ T1, T1 = zi (zi (zi T 73 61 (nI P)) 73 62 (nI m)) 73 63 (nI j) := ⟨_, rfl⟩
    rw [← eT1] at rk
    have D0 : DPS b t m e P j 0 S T S1 T1 := by
      refine ⟨⟨?_, ?_, fun c hc => absurd hc (Nat.not_lt_zero _), fun c k' q1 q2 => ?_, fun c k' => by rw [eS1]; rfl⟩, ⟨?_, ?_, ?_, ?_, ?_, fun c k' q1 q2 q3 => ?_, fun c k' => by rw [eT1]; rfl⟩, fun c hc => absurd hc (Nat.not_lt_zero _)⟩
      · rw [eS1, zi_k (by decide)]; exact hE.2.1.1
      · rw [eS1]; exact zi_v
      · rw [eS1, zi_get, if_neg (by omega)]
      · rw [eT1, zi_k (by decide), zi_k (by decide), zi_k (by decide)]; exact hE.2.2.1
      · rw [eT1, zi_k (by decide), zi_k (by decide), zi_k (by decide)]; exact h60
      · rw [eT1, zi_k (by decide), zi_k (by decide)]; exact zi_v
      · rw [eT1, zi_k (by decide)]; exact zi_v
      · rw [eT1]; exact zi_v
      · rw [eT1, zi_get, if_neg (by omega), zi_get, if_neg (by omega), zi_get, if_neg (by omega)]
    rcases dp_all (l := l) (Gr := Gr) (n := n) (w := w) (d := d) (k := k) hg hL gk.2 (k_1 h5 gk.1) rk D0 hp (by omega) (by omega) (by omega) (by omega) (by omega) k (Nat.le_refl _) with ⟨Sk, Tk, a1, a2, a3, a4⟩ | hF
    · have LXd := dp_ev (i := i) (jj := j) hS h60 a4 hp (by omega) (by omega) (by omega)
      have sk : ∀ c k', ¬ (c = 8 ∧ (k' = 11 ∨ k' = 12)) → ¬ (c = 16 ∧ m ≤ k') → Sk.1 c k' = S.1 c k' := a4.1.2.2.2.1
      have tk : ∀ c k', ¬ (c = 73 ∧ (k' = 34 ∨ (60 ≤ k' ∧ k' ≤ 63))) → ¬ ((90 ≤ c ∧ c ≤ 95) ∧ m ≤ k') → ¬ (c = 110 ∧ P ≤ k') → Tk.1 c k' = T.1 c k' := a4.2.1.2.2.2.2.2.1
      have ri : RIx Tk (j + 1 + k) mz := ⟨(tk 73 13 (by omega) (by omega) (by omega)).trans hL.2.2.2.1.1, hm4, (tk 73 7 (by omega) (by omega) (by omega)).trans hL.2.2.2.1.2.2, by omega⟩
      have r28 := r_28 (l := l) (Gr := Gr) (n := n) (w := w) (d := d) (F := m) hg ri ((tk 78 _ (by omega) (by omega) (by omega)).trans (tk1.1.trans g6)) a4.2.1.1 (by omega) a4.2.1.2.2.2.1 (by omega)
      rw [show m + k - m = k by omega] at r28
      obtain ⟨Y, eY⟩ : ∃ Y, Y = mSn (zi Tk 73 47 1) m k := ⟨_, rfl⟩
      have yc : ∀ c k', ¬ c = 95 → ¬ (c = 73 ∧ k' = 47) → Y.1 c k' = Tk.1 c k' := fun c k' q1 q2 => by rw [eY, mSn_c q1, zi_get, if_neg q2]
      have yt : ∀ c k', ¬ c = 95 → ¬ (c = 73 ∧ (k' = 34 ∨ k' = 47 ∨ (60 ≤ k' ∧ k' ≤ 63))) → ¬ ((90 ≤ c ∧ c ≤ 95) ∧ m ≤ k') → ¬ (c = 110 ∧ P ≤ k') → Y.1 c k' = T.1 c k' := fun c k' q1 q2 q3 q4 => (yc c k' q1 (by omega)).trans (tk c k' (by omega) q3 q4)
      have y2 : ∀ c k', Y.2 c k' = T.2 c k' := fun c k' => by rw [eY, mSn_2]; exact a4.2.1.2.2.2.2.2.2 c k'
      rw [← eY] at LXd r28
      have csk : cgS S0 Sk (i + 1 + k) i1 := fun y q1 q2 => by
        obtain ⟨o1, o2, o3, o4⟩ := cs y (by omega) (by omega)
        exact ⟨(sk 4 y (by omega) (by omega)).trans o1, (sk 5 y (by omega) (by omega)).trans o2, (sk 6 y (by omega) (by omega)).trans o3, (sk 7 y (by omega) (by omega)).trans o4⟩
      have ctk : cgT T0 Y (j + 2 + k) j1 := fun y q1 q2 => by
        obtain ⟨o1, o2, o3, o4, o5⟩ := ct.1 y (by omega) (by omega)
        exact ⟨(yt 78 y (by omega) (by omega) (by omega) (by omega)).trans o1, (yt 79 y (by omega) (by omega) (by omega) (by omega)).trans o2, (yt 80 y (by omega) (by omega) (by omega) (by omega)).trans o3, (yt 81 y (by omega) (by omega) (by omega) (by omega)).trans o4, (y2 82 y).trans o5⟩
      have nik : ∀ v p, nid b t T0 v p → nid b t Y v p := fun v p y => nid_k (hni v p y) (yt 73 9 (by omega) (by omega) (by omega) (by omega)) (fun k' => yt 76 k' (by omega) (by omega) (by omega) (by omega))
      have nE := NE_app (NE_1 (S := S0) (e1 := 0) (e2 := 0) f1 (by decide) (by decide) (by decide)) (NE_par (S0 := S0) (i := i + 1) (k := k) (fun a ha => by
        obtain ⟨x, s', r', y1, y2, y3, y4, -⟩ := hp0 a ha
        exact y4) k (Nat.le_refl _))
      have rg2 : RG l Gr n w d T j Y (j + 2 + k) := by
        have := RG_tr a3 r28
        rw [show j + 1 + k + 1 = j + 2 + k by omega] at this
        exact this
      obtain ⟨K, gx⟩ := gx
      rcases ex_all (l := l) (Gr := Gr) (n := n) (w := w) (d := d) (A := dfA A S e k) (b := b) (t := t) (N := N) (D := D) (m := m + k) (f := m) (sz := sz) (mz := mz) (S0 := S0) (T0 := T0) hg K pe (i + 1 + k) i1 (j + 2 + k) j1 0 0 0 Sk Y gx csk ctk nik LXd (by omega) (by omega) (HB_le hB nE (by omega) (by omega) (by omega)) with ⟨S5, T5, o1, o2, o3, o4, o5, o6, r', pb, hr', hpb, b1, b2, b3, b4, b5, -⟩ | hF
      · have kk5 := kR_cat a2 o2 (by omega) (by omega)
        have o6' := o6
        rw [eY] at o6'
        have q5i : S5.1 5 i1 = nI e := (KKc_O o5 (Or.inl rfl) (Or.inr (Nat.le_refl _))).trans ((sk 5 i1 (by omega) (by omega)).trans (ci1.2.1.trans f6))
        rcases df_end (l := l) (Gr := Gr) (n := n) (w := w) (d := d) (i := i) (jj := j) (j := j) (i2 := i + 1 + k) (j2 := j + 2 + k) (v := v) (s := s) (r := r) (p1 := pe) hg hS h60 h59 a4 hp (by omega) (by omega) (by omega) (by omega) o4 o5 o6' (by omega) (by omega) (by omega) nv (hni _ _ hv) s9 s11 s12 hr s13 s15 (ci1.1.trans f5) q5i (ci1.2.2.1.trans f7) (tj1.1.trans g7) (tj1.2.1.trans g8) ((KKm_80 o6 (Or.inl rfl) (Or.inr (Nat.le_refl _))).trans ((yt 80 j1 (by omega) (by omega) (by omega) (by omega)).trans (tj1.2.2.1.trans g9))) hr' hpb b1 b2 b4 with ⟨S6, T6, c1, c2, c3, c4, x6, x62, y6, y62, zr⟩ | hF
        · have sx : ∀ c k', ¬ (c = 3 ∧ (k' = 5 ∨ k' = 6)) → ¬ ((c = 5 ∨ c = 7) ∧ i + 1 + k ≤ k' ∧ k' < i1) → ¬ (c = 8 ∧ (k' = 11 ∨ k' = 12)) → ¬ c = 16 → ¬ (c = 39 ∧ k' = 3) → ¬ c = 40 → S6.1 c k' = S.1 c k' := fun c k' q1 q2 q3 q4 q5 q6 => (x6 c k' q3 q4 q5).trans ((o5.1 c k' q1 q2 q5 (fun y => q6 y.1)).trans (sk c k' q3 (fun y => q4 y.1)))
          have tx' : ∀ c k', ¬ (c = 73 ∧ (k' = 7 ∨ k' = 8 ∨ k' = 34 ∨ k' = 43 ∨ k' = 47 ∨ k' = 56 ∨ (60 ≤ k' ∧ k' ≤ 63))) → ¬ (90 ≤ c ∧ c ≤ 100) → ¬ ((c = 80 ∨ (102 ≤ c ∧ c ≤ 107)) ∧ j + 2 + k ≤ k' ∧ k' < j1) → ¬ (108 ≤ c ∧ c ≤ 110) → T6.1 c k' = T.1 c k' := fun c k' q1 q2 q3 q4 => (y6 c k' (fun y => q1 ⟨y.1, by omega⟩) (fun y => q2 (by omega))).trans ((o6.1 c k' (fun y => q1 ⟨y.1, by omega⟩) (fun y => q2 (by omega)) q3 (fun y => q4 (by omega))).trans (yt c k' (fun y => q2 (by omega)) (fun y => q1 ⟨y.1, by omega⟩) (fun y => q2 (by omega)) (fun y => q4 (by omega))))
          have KC : KIc S S6 i (i1 + 1) := ⟨fun c k' q1 q2 q3 q4 q5 q6 => sx c k' q1 (fun y => q2 ⟨y.1, by omega⟩) q3 q4 (fun y => q5 ⟨y.1, Or.inl y.2⟩) (fun y => q6 (by omega)), fun c k' => (x62 c k').trans ((o5.2 c k').trans (a4.1.2.2.2.2 c k'))⟩
          have KM : KIm T T6 j (j1 + 1) := ⟨fun c k' q1 q2 q3 q4 => tx' c k' (fun y => q1 ⟨y.1, by omega⟩) (fun y => q2 (by omega)) (fun y => q3 ⟨by omega, by omega⟩) q4, fun c k' => (y62 c k').trans ((o6.2 c k').trans (y2 c k'))⟩
          have rows : ∀ c k', 9 ≤ c → c ≤ 15 → S6.1 c k' = S.1 c k' := fun c k' q1 q2 => sx c k' (by omega) (by omega) (by omega) (by omega) (by omega) (by omega)
          have cod : ∀ k', S6.1 4 k' = S.1 4 k' := fun k' => sx 4 k' (by omega) (by omega) (by omega) (by omega) (by omega) (by omega)
          have cot : ∀ k', T6.1 78 k' = T.1 78 k' := fun k' => tx' 78 k' (by omega) (by omega) (by omega) (by omega)
          refine Or.inl ⟨m + 1, adA A e j, P + k, S6, T6, CG_tr a1 (CG_tr o1 c1), ?_, RG_tr rg2 (RG_tr o3 c3), c4, KC, KM, Or.inr (Or.inr (Or.inl ⟨⟨e, r, k, i1, j1, by omega, (rows 11 e (by omega) (by omega)).trans s11, (rows 12 e (by omega) (by omega)).trans s12, hr, (rows 13 e (by omega) (by omega)).trans s13, (rows 14 e (by omega) (by omega)).trans s14, (rows 15 e (by omega) (by omega)).trans s15, fun a ha => ?_, ?_, nA, rfl, rfl, rfl, (cod i).trans (c0.1.trans f1), (sx 7 i (by omega) (by omega) (by omega) (by omega) (by omega) (by omega)).trans (c0.2.2.2.trans f4), (cod i1).trans (ci1.1.trans f5), (cot j).trans (t0.1.trans g1), (tx' 80 j (by omega) (by omega) (by omega) (by omega)).trans (t0.2.2.1.trans g3), (KM.2 82 j).trans (t0.2.2.2.2.trans g5), (cot (j + 1 + k)).trans (tk1.1.trans g6), (cot j1).trans (tj1.1.trans g7)⟩, rfl, rfl⟩))⟩
          · rw [← c2]
            exact kR_s kk5 o4.2.1.2.2 (by omega)
          · obtain ⟨x, s', r'', y1, y2', ⟨y9, y11, y12, y13, y14⟩, z4, z5, z6, z78, -⟩ := hp a ha
            exact ⟨(rows 11 _ (by omega) (by omega)).trans y11, (rows 13 _ (by omega) (by omega)).trans y13, (rows 14 _ (by omega) (by omega)).trans y14, ⟨r'', y2', (rows 12 _ (by omega) (by omega)).trans y12⟩, (cod _).trans z4, (cot _).trans z78⟩
          · rw [zr] at b5
            refine aX_cong (Nat.le_refl _) (fun d' a' y => ?_) b5 (fun c k' q => x6 c k' (by omega) (by omega) (by omega)) ⟨fun c k' q => y6 c k' (by omega) (by omega), fun k' => y62 82 k'⟩
            rcases y with y | y
            · exact Or.inl ⟨y.1, (rows 11 d' (by omega) (by omega)).trans y.2⟩
            · exact Or.inr y
        · exact Or.inr (FLT_pre (CG_tr a1 o1) kk5 (RG_tr rg2 o3) (by omega) hF)
      · exact Or.inr (FLT_pre a1 a2 rg2 (by omega) (FLT_up hF (by omega)))
    · exact Or.inr (FLT_up hF (by omega))
  · right
    rw [z1] at gk
    rw [z2] at rk
    have uu := kT_0 (g := 4) (pl := nI s) h5
    refine FLT_1 (g := 4) (pl := nI s) h5 (by decide) (by omega) gk.1 gk.2 ?_ ?_ rk ?_ ?_
    · rw [zi_c (by decide)]; exact uu.1
    · rw [zi_c (by decide)]; exact uu.2
    · rw [zi_k (by decide), zi_k (by decide), zi_k (by decide)]; exact mF_f.1
    · rw [zi_k (by decide), zi_k (by decide), zi_k (by decide)]; exact mF_f.2
/-- every ITEM's SORTS goes alike -/
theorem it_all (hg : ip_gk (lg_tbl, vwCl, Gr)) (hn16 : n ≤ 16) (g : gJ n w S0 T0 (nid b t T0) Dl D vw vw' p i i' j j' iw iw') (cs : cgS S0 S i i') (ct : cgU T0 T j j') (hn : nmS S0 S D) (h18 : ∀ c k, c = 18 ∨ c = 19 → S.1 c k = S0.1 c k) (hni : ∀ v p, nid b t T0 v p → nid b t T v p) (h : LIt b t N Dl m A sz mz vw iw P S T) (hN : NS b t D S) (h8 : D ≤ 800) (hl8 : Dl < 800) (hsz : i' ≤ sz) (hmz : j' ≤ mz) (hB : HB S0 i i' 0 0 0) : ITO l Gr n w d b t N D sz mz vw vw' iw iw' A S T p i i' j j' := by
  have hDl := (gJ_bnd g).2.2.2
  have hmD := m_le h.1.1.1 h.1.2.2.2.2.2.2
  have hPD := h.2.2.2
  have hh := LIt_D h hDl hN h8
  rcases g with ⟨g, e, -⟩ | ⟨g, e, -⟩ | ⟨g, e, e2⟩ | ⟨g, e, e2, -⟩
  · subst e
    exact it_st hg g cs ct hn hni hh hsz hmz hB
  · subst e
    exact it_in hg hn16 g cs ct hn h18 hni hh (by omega) hsz hmz
  · subst e e2
    exact it_def hg g cs ct hn hni hh hmD hPD hsz hmz hB
  · subst e e2
    exact it_out hg g cs ct hni hh hsz hmz hB
end ITH
