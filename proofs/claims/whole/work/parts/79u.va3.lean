section VA3
variable {l : Launch} {Gr : zG} {n w : Nat} {d : Nat} {b : Nat → Int32} {t p i ws dp p' i' q j m N X u k D D' vw iw s e : Nat} {S S' S'' T T' T'' : zS}
theorem fz_n {f : Nat} (h : ¬ f = 0) (h2 : f ≤ 2) : fz (nI f) := fun y => nI_nle (n := f) (by omega) (by omega) y
theorem w_var (hg : ip_gk (lg_tbl, vwCl, Gr)) (ho : ip_old (lg_tbl, vwCl, Gr)) (htx : ∀ k, k < t → tx (b k)) (hD : 8 ≤ D) (hdp : dp ≤ 30) (KE0 : KE l Gr n w d b t dp D) {Dn : Nat} (h : CN b t p i Dn vw S) (hk : tk b t p = 202) : zMv l Gr (zc n w) 168 M_Reader_readVar (D + 1) [.ref 66, .int (nI dp)] S (fun S' => SR l Gr n w d b t S S' p i Dn vw dp) := by
  obtain ⟨e, rfl⟩ : ∃ e, D = e + 8 := ⟨D - 8, by omega⟩
  have h0 := h.1
  have ht := CS_t h0
  have hp := CS_p h0
  have hpt : p < t := tk_pos (by rw [hk]; decide)
  have hip := h.2.2.2.2.1
  have hDp := h.2.2.2.2.2.1
  have hvw := h.2.2.2.2.2.2
  have hnp := np_ok (b := b) hp
  have e3 : te b t p = p + 3 := te_w htx hp (K := kw2) (c := 202) (fun s => wk_2) (by decide) (by decide) hk
  have dsp : ∀ {T T' q j N iw}, HS b t q j dp N vw iw p T → zMv l Gr (zc n w) 168 M_Mo_varStatement (d + 13) [.ref 105, .int (nI p)] (zi T 73 6 (nI p)) (fun A => A = T') → PX l Gr n w d T T' := fun hH hm => px_var hg ho htx hH (by omega) hk hm
  -- the reference behind a FAULT
  have rF : ∀ (Y : zS) (f : Int32) (x3 x4 : Int32), Y.1 73 7 = f → fz f → ∀ Q : zS → Prop, Q Y → zW l Gr (zc n w) 168 M_Mo_varStatement (d + 13) 48 [some (.ref 105), some (.int (nI p)), none, some (.int x3), some (.int x4), none, none, none, none] [] Y (fun v S' => v = none ∧ Q S') := fun Y f x3 x4 y7 hf Q q =>
    b_Mo_varStatement_48 (fun _ => b_Mo_varStatement_59 (fun y => absurd (by rw [← y7]; exact y) hf) (fun _ => b_Mo_varStatement_66 ⟨rfl, q⟩)) (fun y => absurd (y7.symm.trans y) (nz hf))
  have rG : ∀ (Y : zS) (f : Int32) (x3 x4 : Int32), Y.1 73 7 = f → fz f → ∀ Q : zS → Prop, Q Y → zW l Gr (zc n w) 168 M_Mo_varStatement (d + 13) 59 [some (.ref 105), some (.int (nI p)), none, some (.int x3), some (.int x4), none, none, none, none] [] Y (fun v S' => v = none ∧ Q S') := fun Y f x3 x4 y7 hf Q q =>
    b_Mo_varStatement_59 (fun y => absurd (by rw [← y7]; exact y) hf) (fun _ => b_Mo_varStatement_66 ⟨rfl, q⟩)
  refine e_Reader_readVar (b_Reader_readVar_0 hg (w_add hg (CS_f h0) (CS_n h0) (by omega)) (fun v A hv => ?_))
  rw [hv.2, CS_s h0]
  have h1 : CS b t p (i + 1) 0 (cA S i 1 0 (nI p) 0) := CS_cA h0
  obtain ⟨S1, eS1⟩ : ∃ S1, S1 = cA S i 1 0 (nI p) 0 := ⟨_, rfl⟩
  have r1 := cA_r (S := S) (i0 := i) (x1 := 1) (x2 := 0) (x3 := nI p) (x4 := 0)
  have ck1 : CK S S1 i 0 := by rw [eS1]; exact CK_cA (Nat.le_refl _)
  have ck1' : CK S S1 0 0 := CK_le ck1 (Nat.zero_le _) (Nat.le_refl _)
  rw [← eS1] at h1 r1 ⊢
  refine b_Reader_readVar_16 hg (w_adv hg ho h1) (fun A eA => ?_)
  rw [eA]
  have h2 := CS_wS h1
  obtain ⟨p1, ep1⟩ : ∃ p1, p1 = np b t p := ⟨_, rfl⟩
  rw [← ep1] at h2 hnp ⊢
  obtain ⟨S2, eS2⟩ : ∃ S2, S2 = wS b t p1 S1 := ⟨_, rfl⟩
  have ck2 : CK S1 S2 (i + 1) 0 := by rw [eS2]; exact CK_wS
  rw [← eS2] at h2 ⊢
  rw [e3] at hnp
  have hp1 := CS_p h2
  refine b_Reader_readVar_24 hg (w_takeName hg ho h2) (fun v S3 hv => ?_)
  obtain ⟨ev, hv⟩ := hv
  rw [ev]
  have st1 : ∀ T q j N iw, HS b t q j dp N vw iw p T → ∃ T1, MC b t p1 (j + 1) dp 0 N T1 ∧ MK b t T T1 j 0 ∧ nb b t N p1 ∧ p + 3 ≤ p1 ∧ j + 2 * dp ≤ 3 * p ∧ T1.1 78 j = 20 ∧ T1.1 81 j = nI p ∧
    (∀ Q, zW l Gr (zc n w) 168 M_Mo_varStatement (d + 13) 24 (vL p) [] T1 Q → zW l Gr (zc n w) 168 M_Mo_varStatement (d + 13) 0 (vL p) [] (zi T 73 6 (nI p)) Q) := fun T q j N iw hH => by
    have := vs_1 (l := l) (Gr := Gr) (n := n) (w := w) (d := d) hg htx hH hk
    rw [← ep1] at this
    exact this
  rcases hv with ⟨k1, hsz, e3'⟩ | ⟨hbad, e3'⟩
  · rw [e3']
    have h3 := CS_wS h2
    have hpt1 : p1 < t := tk_pos (by rw [k1]; decide)
    have hgt1 := np_gt (b := b) hpt1
    have hnp1 := np_ok (b := b) hp1
    obtain ⟨p2, ep2⟩ : ∃ p2, p2 = np b t p1 := ⟨_, rfl⟩
    rw [← ep2] at h3 hgt1 hnp1 ⊢
    have hp2 := CS_p h3
    have st2 : ∀ T q j N iw, HS b t q j dp N vw iw p T → ∃ v T2 N2, nid b t T2 v p1 ∧ MC b t (te b t p1) (j + 1) dp 0 N2 T2 ∧ MK b t T T2 j 0 ∧ nb b t N2 (te b t p1) ∧ j + 2 * dp ≤ 3 * p ∧ T2.1 78 j = 20 ∧ T2.1 81 j = nI p ∧
      (∀ Q, zW l Gr (zc n w) 168 M_Mo_varStatement (d + 13) 42 [some (.ref 105), some (.int (nI p)), none, some (.int (nI p1)), some (.int (nI v)), none, none, none, none] [] T2 Q → zW l Gr (zc n w) 168 M_Mo_varStatement (d + 13) 0 (vL p) [] (zi T 73 6 (nI p)) Q) := fun T q j N iw hH => by
      obtain ⟨T1, M1, mk1, nb1, -, bj, r0, r0', pre⟩ := st1 T q j N iw hH
      obtain ⟨v, T2, N2, kn, hid, M2, mk2, nb2⟩ := nm_run (l := l) (Gr := Gr) (n := n) (w := w) (d := d + 6) hg ho htx M1 (gp_wb h2.2.2.2.2.2.2.2.2.1) nb1 k1 hsz
      have c0 := mk2.1 j (Nat.zero_le _) (by omega)
      refine ⟨v, T2, N2, hid, M2, MK_tr mk1 (MK_le mk2 (by omega) (Nat.le_refl _)), nb2, bj, c0.1.trans r0, c0.2.2.2.1.trans r0', fun Q kk => pre Q (b_Mo_varStatement_24 hg kn (fun a A hv => ?_))⟩
      rw [hv.1, hv.2, MC_6 M1]
      exact b_Mo_varStatement_33 (fun y => absurd (MC_f M2) y) (fun _ => kk)
    refine b_Reader_readVar_28 hg (w_expect hg ho h3) (fun S4 h4 => ?_)
    obtain ⟨S3', eS3⟩ : ∃ S3', S3' = wS b t p2 S2 := ⟨_, rfl⟩
    have ck3 : CK S2 S3' (i + 1) 0 := by rw [eS3]; exact CK_wS
    rw [← eS3] at h3 h4
    have ck03 : CK S S3' 0 0 := CK_tr ck1' (CK_le (CK_tr ck2 ck3) (Nat.zero_le _) (Nat.le_refl _))
    rcases h4 with ⟨k58, e4⟩ | ⟨k58, e4⟩
    · have h4 := CS_wS h3
      have hpt2 : p2 < t := tk_pos (by rw [k58]; decide)
      have hgt2 := np_gt (b := b) hpt2
      obtain ⟨te2, -⟩ := te_s htx hp2 (c := 58) (by decide) (by decide) (by decide) k58
      obtain ⟨p3, ep3⟩ : ∃ p3, p3 = np b t p2 := ⟨_, rfl⟩
      rw [← ep3] at h4 hgt2 e4
      rw [e4]
      have g23 : gp b t (p2 + 1) = p3 := by rw [ep3, np, te2]
      obtain ⟨S4', eS4⟩ : ∃ S4', S4' = wS b t p3 S3' := ⟨_, rfl⟩
      have ck4 : CK S S4' 0 0 := CK_tr ck03 (by rw [eS4]; exact CK_wS)
      have ck14 : CK S1 S4' (i + 1) 0 := CK_tr (CK_tr ck2 ck3) (by rw [eS4]; exact CK_wS)
      rw [← eS4] at h4 ⊢
      have st3 : ∀ T q j N iw, HS b t q j dp N vw iw p T → ∃ v T3 N2, nid b t T3 v p1 ∧ MC b t (p2 + 1) (j + 1) dp 0 N2 T3 ∧ MK b t T T3 j 0 ∧ nb b t N2 (p2 + 1) ∧ j + 2 * dp ≤ 3 * p ∧ T3.1 78 j = 20 ∧ T3.1 81 j = nI p ∧
        (∀ Q, zW l Gr (zc n w) 168 M_Mo_varStatement (d + 13) 55 [some (.ref 105), some (.int (nI p)), none, some (.int (nI p1)), some (.int (nI v)), none, none, none, none] [] T3 Q → zW l Gr (zc n w) 168 M_Mo_varStatement (d + 13) 0 (vL p) [] (zi T 73 6 (nI p)) Q) := fun T q j N iw hH => by
        obtain ⟨v, T2, N2, hid, M2, mk2, nb2, bj, r0, r0', pre⟩ := st2 T q j N iw hH
        have mk3 : MK b t T2 (zi T2 73 6 (nI (p2 + 1))) (j + 1) 0 := MK_zi (by omega)
        have M3 : MC b t (p2 + 1) (j + 1) dp 0 N2 (zi T2 73 6 (nI (p2 + 1))) := MC_at M2 (by omega)
        refine ⟨v, zi T2 73 6 (nI (p2 + 1)), N2, nid_MK hid mk3, M3, MK_tr mk2 (MK_le mk3 (by omega) (Nat.le_refl _)), nb_le nb2 (by omega), bj, by rw [zi_c (by decide)]; exact r0, by rw [zi_c (by decide)]; exact r0', fun Q kk => pre Q (b_Mo_varStatement_42 hg (wm_sg hg htx (by decide) (by decide) (by decide) M2.1 ep2.symm k58) (fun A eA => ?_))⟩
        rw [eA]
        exact b_Mo_varStatement_48 (fun y => absurd (MC_f M3) y) (fun _ => kk)
      have x81 : S4'.1 8 1 = nI t := (ck4.2.2.1 8 1 (by omega) (by omega)).trans h.2.1
      have x89 : S4'.1 8 9 = nI Dn := (ck4.2.2.1 8 9 (by omega) (by omega)).trans h.2.2.1
      have x34 : S4'.1 34 10 = nI vw := (ck4.2.2.2.1 10 (by omega)).trans h.2.2.2.1
      have typ := w_typed (l := l) (Gr := Gr) (n := n) (w := w) (d := e) (kd := 1) (s := p1) (o := vw) (D := Dn) hg ho htx h4 x81 x89 (by omega) (by omega) (by omega)
      rw [← x34] at typ
      refine b_Reader_readVar_35 hg typ (fun v S5 h5 => ?_)
      rw [x34] at h5
      rcases h5 with ⟨r, z, p4, S5', hT, hw, ev, c5, ck5, e5⟩ | ⟨r, z, p4, S5', hT, hw, ck5, e5⟩ | ⟨f, pl, S5', hT, hf, hf2, ck5, e5⟩
      · obtain ⟨hp34, hp4t, hr, hz⟩ := TYO_le (CS_p h4) htx hT
        rw [ev, e5]
        have cA5 : CS b t p4 (i + 1) 0 (nA S5' Dn 1 (nI p1) (nI (re pn b t p1)) (nI r) (nI z) (nI vw)) := CS_nA c5
        have rN := nA_r (S := S5') (D0 := Dn) (x1 := 1) (x2 := nI p1) (x3 := nI (re pn b t p1)) (x4 := nI r) (x5 := nI z) (x6 := nI vw)
        obtain ⟨S6, eS6⟩ : ∃ S6, S6 = nA S5' Dn 1 (nI p1) (nI (re pn b t p1)) (nI r) (nI z) (nI vw) := ⟨_, rfl⟩
        have cN : ∀ c a, ¬ (9 ≤ c ∧ c ≤ 15) → ¬ (c = 8 ∧ a = 9) → S6.1 c a = S5'.1 c a := fun c a q1 q2 => by rw [eS6]; exact nA_c q1 q2
        rw [← eS6] at cA5 rN ⊢
        refine b_Reader_readVar_45 (fun _ => ?_) (fun y => absurd (CS_f cA5) y)
        refine b_Reader_readVar_57 hg (w_words (by omega) rN.2.2.2.1 hz) (fun v A hv => ?_)
        rw [hv.1, hv.2]
        have s34 : S6.1 34 10 = nI vw := (cN 34 10 (by omega) (by omega)).trans ((ck5.2.2.2.1 10 (by omega)).trans x34)
        rw [s34]
        have cV : CS b t p4 (i + 1) 0 (zi S6 34 10 (nI vw + nI (max 1 z))) := CS_v cA5
        rw [nI_add] at cV
        refine b_Reader_readVar_70 (R := fun v S' => v = nI (i + 1) ∧ S' = cA (zi S6 34 10 (nI (vw + max 1 z))) (i + 1) 6 (nI Dn) (nI p1) 0) hg (by rw [nI_add]; exact w_add hg (CS_f cV) (CS_n cV) (by omega)) (fun v A hv => ?_)
        rw [hv.2]
        have r7 := cA_r (S := zi S6 34 10 (nI (vw + max 1 z))) (i0 := i + 1) (x1 := 6) (x2 := nI Dn) (x3 := nI p1) (x4 := 0)
        have o7 : ∀ a, a < i + 1 → (cA (zi S6 34 10 (nI (vw + max 1 z))) (i + 1) 6 (nI Dn) (nI p1) 0).1 4 a = S1.1 4 a ∧ (cA (zi S6 34 10 (nI (vw + max 1 z))) (i + 1) 6 (nI Dn) (nI p1) 0).1 5 a = S1.1 5 a ∧ (cA (zi S6 34 10 (nI (vw + max 1 z))) (i + 1) 6 (nI Dn) (nI p1) 0).1 6 a = S1.1 6 a ∧ (cA (zi S6 34 10 (nI (vw + max 1 z))) (i + 1) 6 (nI Dn) (nI p1) 0).1 7 a = S1.1 7 a := fun a ha => by
          have x := cA_o (S := zi S6 34 10 (nI (vw + max 1 z))) (i0 := i + 1) (k := a) (x1 := 6) (x2 := nI Dn) (x3 := nI p1) (x4 := 0) (by omega)
          rw [zi_c (by decide), zi_c (by decide), zi_c (by decide), zi_c (by decide), cN 4 a (by omega) (by omega), cN 5 a (by omega) (by omega), cN 6 a (by omega) (by omega), cN 7 a (by omega) (by omega)] at x
          have y := (CK_tr ck14 ck5).1 a (Nat.zero_le _) ha
          exact ⟨x.1.trans y.1, x.2.1.trans y.2.1, x.2.2.1.trans y.2.2.1, x.2.2.2.trans y.2.2.2⟩
        have c7 : CS b t p4 (i + 1 + 1) 0 (cA (zi S6 34 10 (nI (vw + max 1 z))) (i + 1) 6 (nI Dn) (nI p1) 0) := CS_cA cV
        have sk7 : SK S (cA (zi S6 34 10 (nI (vw + max 1 z))) (i + 1) 6 (nI Dn) (nI p1) 0) i Dn := SK_tr (SK_tr (SK_tr (SK_CK (CK_tr ck1 (CK_le (CK_tr ck14 ck5) (by omega) (Nat.le_refl _)))) (by rw [eS6]; exact SK_nA (Nat.le_refl _))) (SK_zi (by omega))) (SK_cA (by omega))
        obtain ⟨S7, eS7⟩ : ∃ S7, S7 = cA (zi S6 34 10 (nI (vw + max 1 z))) (i + 1) 6 (nI Dn) (nI p1) 0 := ⟨_, rfl⟩
        have c7c : ∀ c a, c ≠ 3 ∧ c ≠ 4 ∧ c ≠ 5 ∧ c ≠ 6 ∧ c ≠ 7 → S7.1 c a = (zi S6 34 10 (nI (vw + max 1 z))).1 c a := fun c a hc => by rw [eS7]; exact cA_c hc
        rw [← eS7] at r7 o7 c7 sk7 ⊢
        have o70 := o7 i (by omega)
        refine va_tail (D := e + 8) hg ho htx (by omega) hdp KE0 hk hpt hip hr hz hw ⟨c7, ?_, ?_, ?_, by omega, by omega, hw, NS_S (s := p1) h.2.2.2.2.2.2.2 sk7.2.1 (by omega) (by rw [c7c 9 Dn (by decide), zi_c (by decide)]; exact rN.1) (by rw [c7c 10 Dn (by decide), zi_c (by decide), eS6]; exact nA_10)⟩ sk7 (by omega) ⟨?_, ?_, ?_, ?_, ?_⟩ ⟨o70.1.trans r1.1, o70.2.2.1.trans r1.2.2.1, r7.1, r7.2.1, r7.2.2.1⟩ (fun T q j N iw hH => ?_)
        · rw [c7c 8 1 (by decide), zi_c (by decide), cN 8 1 (by omega) (by omega)]
          exact (ck5.2.2.1 8 1 (by omega) (by omega)).trans x81
        · rw [c7c 8 9 (by decide), zi_c (by decide)]; exact rN.2.2.2.2.2.1
        · rw [c7c 34 10 (by decide)]; exact zi_v
        · rw [c7c 9 Dn (by decide), zi_c (by decide)]; exact rN.1
        · rw [c7c 11 Dn (by decide), zi_c (by decide)]; exact rN.2.1
        · rw [c7c 12 Dn (by decide), zi_c (by decide)]; exact rN.2.2.1
        · rw [c7c 13 Dn (by decide), zi_c (by decide)]; exact rN.2.2.2.1
        · rw [c7c 14 Dn (by decide), zi_c (by decide)]; exact rN.2.2.2.2.1
        · obtain ⟨v, T3, N2, hid, M3, mk3, nb3, bj, r0, r0', pre⟩ := st3 T q j N iw hH
          obtain ⟨Y, q', ky, MY, gY, hq', y31, y32, p3Y, pkY⟩ := wm_type (l := l) (Gr := Gr) (n := n) (w := w) (d := d + 6) hg ho htx M3 g23 hT
          have hq4 : q' ≤ p4 := by rw [← gY]; exact gp_ge (MC_p2 MY)
          have y30 : Y.1 73 30 = nI vw := p3Y.2.2.trans ((P3_MK mk3).2.2.trans hH.1.2.2.1)
          have M4 : MC b t q' (j + 2) dp 0 N2 (mP Y (j + 1) 24 (nI v) 0 (nI p1)) := MC_mP MY
          obtain ⟨T5, eT5⟩ : ∃ T5, T5 = zi (mP Y (j + 1) 24 (nI v) 0 (nI p1)) 73 6 (nI p4) := ⟨_, rfl⟩
          have M5 : MC b t p4 (j + 2) dp 0 N2 T5 := by rw [eT5]; exact MC_at M4 (by omega)
          have mk5 : MK b t Y T5 (j + 1) 0 := by rw [eT5]; exact MK_tr (MK_mP (Nat.le_refl _)) (MK_zi (by omega))
          have rP := mP_r (T := Y) (j0 := j + 1) (x1 := 24) (x2 := nI v) (x3 := 0) (x4 := nI p1)
          have c0 := mk5.1 j (Nat.zero_le _) (by omega)
          have d0 := (pkY (j + 1) dp).1 j (Nat.zero_le _) (by omega)
          refine ⟨v, T5, N2, mk5.2.2.2.2.2 _ _ ((pkY 0 0).2.2.2.2.2.2 _ _ hid), M5, PK_tr (PK_MK mk3) (PK_tr (pkY j dp) (PK_MK (MK_le mk5 (by omega) (Nat.le_refl _)))), P3_tr (P3_MK mk3) (P3_tr p3Y (P3_MK mk5)), nb_le nb3 (by omega), by omega, ⟨c0.1.trans (d0.1.trans r0), c0.2.2.2.1.trans (d0.2.2.2.1.trans r0'), by rw [eT5, zi_c (by decide)]; exact rP.1, by rw [eT5, zi_c (by decide)]; exact rP.2.1, by rw [eT5, zi_c (by decide)]; exact rP.2.2.2⟩, fun Q kk => pre Q (b_Mo_varStatement_55 hg ky (fun A eA => ?_))⟩
          rw [eA]
          refine b_Mo_varStatement_59 (fun _ => ?_) (fun y => absurd (by rw [MC_f MY]; exact Int32.le_refl _) y)
          have k82 : zW l Gr (zc n w) 168 M_Mo_varStatement (d + 13) 82 [some (.ref 105), some (.int (nI p)), none, some (.int (nI p1)), some (.int (nI v)), none, none, none, none] [.int (nI (max 1 z))] Y Q := by
            refine b_Mo_varStatement_82 (fun _ => ?_) (fun y => ?_)
            · rw [y31, y32]
              refine b_Mo_varStatement_116 hg (wm_put (MC_13 MY) (by omega)) (fun a A hv => ?_)
              rw [hv.2]
              refine b_Mo_varStatement_126 hg (wm_gap hg M4.1) (fun A eA => ?_)
              rw [eA, gY, ← eT5]
              exact kk
            · rw [y30, nI_add] at y
              exact absurd (nI_le (a := vw + max 1 z) (b := 256) hw (by omega)) y
          by_cases z0 : z = 0
          · refine b_Mo_varStatement_67 (fun y => absurd (by rw [y31, z0]; rfl) y) (fun _ => b_Mo_varStatement_74 ?_)
            rw [show max 1 z = 1 by omega] at k82
            exact k82
          · refine b_Mo_varStatement_67 (fun _ => b_Mo_varStatement_78 ?_) (fun y => ?_)
            · rw [y31]
              rw [show max 1 z = z by omega] at k82
              exact k82
            · rw [y31] at y
              exact absurd ((nI_eq (a := z) (b := 0) (by omega) (by omega)).mp y) z0
      · rw [e5]
        obtain ⟨hp34, hp4t, hr, hz⟩ := TYO_le (CS_p h4) htx hT
        refine b_Reader_readVar_45 (fun y => absurd (cF_f.1.symm.trans y) (by decide)) (fun _ => b_Reader_readVar_56 ⟨rfl, Or.inr ⟨2, nI p1, SB_F (by decide) (SK_CK (CK_tr ck4 ck5)), fun T q j N iw hH hTB => ?_⟩⟩)
        obtain ⟨v, T3, N2, hid, M3, mk3, nb3, bj, r0, r0', pre⟩ := st3 T q j N iw hH
        obtain ⟨Y, q', ky, MY, gY, hq', y31, y32, p3Y, pkY⟩ := wm_type (l := l) (Gr := Gr) (n := n) (w := w) (d := d + 6) hg ho htx M3 g23 hT
        have y30 : Y.1 73 30 = nI vw := p3Y.2.2.trans ((P3_MK mk3).2.2.trans hH.1.2.2.1)
        refine PZ_of (T' := mF Y 2 (nI p1)) (by decide) (dsp hH (e_Mo_varStatement (pre _ (b_Mo_varStatement_55 hg ky (fun A eA => ?_))))) mF_f.1 mF_f.2 (PK_tr (PK_0 (PK_MK (k := 0) mk3)) (PK_tr (pkY 0 0) PK_mF))
        rw [eA]
        refine b_Mo_varStatement_59 (fun _ => ?_) (fun y => absurd (by rw [MC_f MY]; exact Int32.le_refl _) y)
        have k82 : zW l Gr (zc n w) 168 M_Mo_varStatement (d + 13) 82 [some (.ref 105), some (.int (nI p)), none, some (.int (nI p1)), some (.int (nI v)), none, none, none, none] [.int (nI (max 1 z))] Y (fun v S' => v = none ∧ S' = mF Y 2 (nI p1)) := by
          refine b_Mo_varStatement_82 (fun y => ?_) (fun _ => b_Mo_varStatement_109 hg (wm_fail (MC_f MY)) (fun A eA => b_Mo_varStatement_115 ⟨rfl, eA⟩))
          rw [y30, nI_add] at y
          exact absurd ((nI_leI (a := vw + max 1 z) (b := 256) (by omega) (by omega)).mp y) hw
        by_cases z0 : z = 0
        · refine b_Mo_varStatement_67 (fun y => absurd (by rw [y31, z0]; rfl) y) (fun _ => b_Mo_varStatement_74 ?_)
          rw [show max 1 z = 1 by omega] at k82
          exact k82
        · refine b_Mo_varStatement_67 (fun _ => b_Mo_varStatement_78 ?_) (fun y => ?_)
          · rw [y31]
            rw [show max 1 z = z by omega] at k82
            exact k82
          · rw [y31] at y
            exact absurd ((nI_eq (a := z) (b := 0) (by omega) (by omega)).mp y) z0
      · rw [e5]
        have hfz := fz_n hf hf2
        refine b_Reader_readVar_45 (fun y => absurd (cF_f.1.symm.trans y) (nz hfz)) (fun _ => b_Reader_readVar_56 ⟨rfl, Or.inr ⟨nI f, nI pl, SB_F hfz (SK_CK (CK_tr ck4 ck5)), fun T q j N iw hH hTB => ?_⟩⟩)
        obtain ⟨v, T3, N2, hid, M3, mk3, nb3, bj, r0, r0', pre⟩ := st3 T q j N iw hH
        obtain ⟨Y, ky, y7, y8, pkY⟩ := wm_typeF (l := l) (Gr := Gr) (n := n) (w := w) (d := d + 6) hg ho htx M3 g23 hf hf2 hT
        refine PZ_of (T' := Y) (nz hfz) (dsp hH (e_Mo_varStatement (pre _ (b_Mo_varStatement_55 hg ky (fun A eA => ?_))))) y7 y8 (PK_tr (PK_0 (PK_MK (k := 0) mk3)) (pkY 0 0))
        rw [eA]
        exact rG Y _ _ _ y7 hfz (fun S' => S' = Y) rfl
    · rw [e4]
      have f4 : ¬ (cF S3' 1 (nI p2)).1 3 5 = 0 := by rw [cF_f.1]; decide
      refine b_Reader_readVar_35 hg (w_typedN hg f4) (fun v A hv => ?_)
      rw [hv.2]
      refine b_Reader_readVar_45 (fun y => absurd y f4) (fun _ => b_Reader_readVar_56 ⟨rfl, Or.inr ⟨1, nI p2, SB_F (by decide) (SK_CK ck03), fun T q j N iw hH hTB => ?_⟩⟩)
      obtain ⟨v, T2, N2, hid, M2, mk2, nb2, bj, r0, r0', pre⟩ := st2 T q j N iw hH
      obtain ⟨Y, eY⟩ : ∃ Y, Y = mF (zi T2 73 6 (nI p2)) 1 (nI p2) := ⟨_, rfl⟩
      have y7 : Y.1 73 7 = 1 := by rw [eY]; exact mF_f.1
      refine PZ_of (T' := Y) (by decide) (dsp hH (e_Mo_varStatement (pre _ (b_Mo_varStatement_42 hg (wm_sgF hg htx (by decide) (by decide) (by decide) M2.1 ep2.symm (MC_f M2) k58) (fun A eA => ?_))))) y7 (by rw [eY]; exact mF_f.2) (PK_MK (m := 0) (MK_tr (MK_le mk2 (Nat.zero_le _) (Nat.le_refl _)) (by rw [eY]; exact MK_tr (MK_zi (by omega)) MK_mF)))
      rw [eA, ← eY]
      exact rF Y _ _ _ y7 (by decide) (fun S' => S' = Y) rfl
  · obtain ⟨f, ef⟩ : ∃ f : Int32, f = if tk b t p1 = 1 then 2 else 1 := ⟨_, rfl⟩
    have hfz : fz f := by rw [ef]; split <;> decide
    rw [← ef] at e3'
    rw [e3']
    have f3 : ¬ (cF S2 f (nI p1)).1 3 5 = 0 := by rw [cF_f.1]; exact nz hfz
    refine b_Reader_readVar_28 hg (w_expectN hg f3) (fun A eA => ?_)
    rw [eA]
    refine b_Reader_readVar_35 hg (w_typedN hg f3) (fun v A hv => ?_)
    rw [hv.2]
    refine b_Reader_readVar_45 (fun y => absurd y f3) (fun _ => b_Reader_readVar_56 ⟨rfl, Or.inr ⟨f, nI p1, SB_F hfz (SK_CK (CK_tr ck1' (CK_le ck2 (Nat.zero_le _) (Nat.le_refl _)))), fun T q j N iw hH hTB => ?_⟩⟩)
    obtain ⟨T1, M1, mk1, nb1, -, bj, r0, r0', pre⟩ := st1 T q j N iw hH
    obtain ⟨Y, eY⟩ : ∃ Y, Y = mF (zi T1 73 6 (nI p1)) f (nI p1) := ⟨_, rfl⟩
    have y7 : Y.1 73 7 = f := by rw [eY]; exact mF_f.1
    refine PZ_of (T' := Y) (nz hfz) (dsp hH (e_Mo_varStatement (pre _ (b_Mo_varStatement_24 hg (wm_nameF hg ho htx M1.1 (gp_wb h2.2.2.2.2.2.2.2.2.1) (MC_f M1) hbad) (fun a A hv => ?_))))) y7 (by rw [eY]; exact mF_f.2) (PK_MK (m := 0) (MK_tr (MK_le mk1 (Nat.zero_le _) (Nat.le_refl _)) (by rw [eY]; exact MK_tr (MK_zi (by omega)) MK_mF)))
    rw [← ef] at hv
    rw [hv.2, ← eY]
    exact b_Mo_varStatement_33 (fun _ => rF Y _ _ _ y7 hfz (fun S' => S' = Y) rfl) (fun y => absurd (y7.symm.trans y) (nz hfz))
end VA3
