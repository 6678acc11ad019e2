/-! def on both sides; the whole PROGRAM -/
section DEH
variable {l : Launch} {Gr : zG} {n w : Nat} {d : Nat} {b : Nat → Int32} {t p i ws dp p' i' q j m N X u k D D' vw iw s e : Nat} {S S' S'' T T' T'' : zS}
theorem w_def (hg : ip_gk (lg_tbl, vwCl, Gr)) (ho : ip_old (lg_tbl, vwCl, Gr)) (htx : ∀ k, k < t → tx (b k)) (KE0 : KE l Gr n w d b t 0 (e + 7)) {Dn : Nat} (h : CN b t p i Dn vw S) (hc : Ic n w S iw) (hk : tk b t p = 203) : zMv l Gr (zc n w) 168 M_Reader_readDef (e + 8) [.ref 66] S (fun S' => JR l Gr n w d b t S S' p i Dn vw iw) := by
  have h0 := h.1
  have ht := CS_t h0
  have hp := CS_p h0
  have hpt : p < t := tk_pos (by rw [hk]; decide)
  have hip := h.2.2.2.2.1
  have hDp := h.2.2.2.2.2.1
  have hvw := h.2.2.2.2.2.2
  have e3 : te b t p = p + 3 := te_w htx hp (K := kw3) (c := 203) (fun s => wk_3) (by decide) (by decide) hk
  have hnp := np_ok (b := b) hp
  have tle := te_le (b := b) hp
  have dsp : ∀ {T T' q j N}, HS b t q j 0 N vw iw p T → zMv l Gr (zc n w) 168 M_Mo_defItem (d + 13) [.ref 105, .int (nI p)] (zi T 73 6 (nI p)) (fun A => A = T') → PX l Gr n w d T T' := fun hH hm => px_def hg ho htx hH hk hm
  refine e_Reader_readDef (b_Reader_readDef_0 hg (w_adv (d := e + 2) hg ho h0) (fun A eA => ?_))
  rw [eA]
  have h1 := CS_wS h0
  obtain ⟨p1, ep1⟩ : ∃ p1, p1 = np b t p := ⟨_, rfl⟩
  rw [← ep1] at h1 hnp ⊢
  rw [e3] at hnp
  obtain ⟨S1, eS1⟩ : ∃ S1, S1 = wS b t p1 S := ⟨_, rfl⟩
  have ck1 : CK S S1 i 0 := by rw [eS1]; exact CK_wS
  rw [← eS1] at h1 ⊢
  have hp1 := CS_p h1
  have wb1 := h1.2.2.2.2.2.2.2.2.1
  -- the reference at its NAME
  have st1 : ∀ T q j N, HS b t q j 0 N vw iw p T → ∃ T1, MC b t p1 j 0 0 N T1 ∧ MK b t T T1 j 0 ∧ nb b t N p1 ∧ j ≤ 3 * p ∧ DX l Gr n w d T p 14 [some (.ref 105), some (.int (nI p)), none, none, none, none, none, none, none] T1 := fun T q j N hH => by
    have hqp : q ≤ p := by rw [← hH.2.1]; exact gp_ge (MC_p2 hH.1.1)
    obtain ⟨b1, -, b3⟩ := hH.2.2
    have M0 := MC_p hH.1.1 hH.2.1
    have M2 : MC b t (p + 3) j 0 0 N (zi (zi T 73 6 (nI p)) 73 6 (nI (p + 3))) := MC_at M0 (by omega)
    refine ⟨zi (zi (zi T 73 6 (nI p)) 73 6 (nI (p + 3))) 73 6 (nI p1), MC_at M2 hp1, MK_tr (MK_tr (MK_zi (by omega)) (MK_zi (by omega))) (MK_zi (by omega)), nb_le b3 (by omega), by omega, fun Q kk => ?_⟩
    refine b_Mo_defItem_0 (R := fun A => A = zi (zi (zi T 73 6 (nI p)) 73 6 (nI (p + 3))) 73 6 (nI p1)) hg ?_ (fun A eA => by rw [eA]; exact kk)
    rw [MC_6 M0, show nI p + 3 = nI (p + 3) from nI_add p 3]
    have := wm_gap (l := l) (Gr := Gr) (n := n) (w := w) (d := d + 11) hg M2.1
    rw [show gp b t (p + 3) = p1 from by rw [ep1, np, e3]] at this
    exact this
  refine b_Reader_readDef_7 hg (w_takeName (d := e + 1) hg ho h1) (fun v S2 hv => ?_)
  obtain ⟨ev, hv⟩ := hv
  rw [ev]
  rcases hv with ⟨k1, hsz, e2⟩ | ⟨hbad, e2⟩
  · rw [e2]
    have h2 := CS_wS h1
    have hpt1 : p1 < t := tk_pos (by rw [k1]; decide)
    have hne1 : p + 3 < p1 := by
      have := np_ne htx hp (Or.inr (by rw [hk]; decide)) (Or.inl (by rw [← ep1]; exact k1))
      rw [e3, ← ep1] at this
      exact this
    have hgt1 := np_gt (b := b) hpt1
    obtain ⟨p2, ep2⟩ : ∃ p2, p2 = np b t p1 := ⟨_, rfl⟩
    rw [← ep2] at h2 hgt1 ⊢
    obtain ⟨S2', eS2⟩ : ∃ S2', S2' = wS b t p2 S1 := ⟨_, rfl⟩
    have ck2 : CK S S2' i 0 := CK_tr ck1 (by rw [eS2]; exact CK_wS)
    have ck20 : CK S S2' 0 0 := CK_le ck2 (Nat.zero_le _) (Nat.le_refl _)
    rw [← eS2] at h2 ⊢
    have hp2 := CS_p h2
    have st2 : ∀ T q j N, HS b t q j 0 N vw iw p T → ∃ v T2 N2, nid b t T2 v p1 ∧ MC b t (te b t p1) j 0 0 N2 T2 ∧ MK b t T T2 j 0 ∧ nb b t N2 (te b t p1) ∧ j ≤ 3 * p ∧ DX l Gr n w d T p 31 [some (.ref 105), some (.int (nI p)), some (.int (nI p1)), some (.int (nI v)), none, none, none, none, none] T2 := fun T q j N hH => by
      obtain ⟨T1, M1, mk1, nb1, bj, pre⟩ := st1 T q j N hH
      obtain ⟨v, T2, N2, kn, hid, M2, mk2, nb2⟩ := nm_run (l := l) (Gr := Gr) (n := n) (w := w) (d := d + 6) hg ho htx M1 (gp_wb wb1) nb1 k1 hsz
      refine ⟨v, T2, N2, hid, M2, MK_tr mk1 mk2, nb2, bj, fun Q kk => pre Q (b_Mo_defItem_14 hg kn (fun a A hv => ?_))⟩
      rw [hv.1, hv.2, MC_6 M1]
      exact b_Mo_defItem_23 (fun y => absurd (MC_f M2) y) (fun _ => kk)
    have x81 : S2'.1 8 1 = nI t := (ck20.2.2.1 8 1 (by omega) (by omega)).trans h.2.1
    have x89 : S2'.1 8 9 = nI Dn := (ck20.2.2.1 8 9 (by omega) (by omega)).trans h.2.2.1
    have x34 : S2'.1 34 10 = nI vw := (ck20.2.2.2.1 10 (by omega)).trans h.2.2.2.1
    refine b_Reader_readDef_11 (fun _ => b_Reader_readDef_23 hg (w_nadd (b := b) (d := e + 5) hg ht h2.1 x81 x89 (by omega) hp1) (fun v A hv => ?_)) (fun y => absurd (CS_f h2) y)
    rw [hv.1, hv.2]
    have c3 : CS b t p2 i 0 (nA S2' Dn 4 (nI p1) (nI (re pn b t p1)) 0 0 0) := CS_nA h2
    have rN := nA_r (S := S2') (D0 := Dn) (x1 := 4) (x2 := nI p1) (x3 := nI (re pn b t p1)) (x4 := 0) (x5 := 0) (x6 := 0)
    have cN : ∀ c a, ¬ (9 ≤ c ∧ c ≤ 15) → ¬ (c = 8 ∧ a = 9) → (nA S2' Dn 4 (nI p1) (nI (re pn b t p1)) 0 0 0).1 c a = S2'.1 c a := fun c a q1 q2 => nA_c q1 q2
    have skN : SK S2' (nA S2' Dn 4 (nI p1) (nI (re pn b t p1)) 0 0 0) i Dn := SK_nA (Nat.le_refl _)
    obtain ⟨S3, eS3⟩ : ∃ S3, S3 = nA S2' Dn 4 (nI p1) (nI (re pn b t p1)) 0 0 0 := ⟨_, rfl⟩
    rw [← eS3] at c3 rN cN skN ⊢
    refine b_Reader_readDef_35 hg (w_add (d := e + 6) hg (CS_f c3) (CS_n c3) (by omega)) (fun v A hv => ?_)
    rw [hv.1, hv.2]
    have c4 : CS b t p2 (i + 1) 0 (cA S3 i 3 (nI Dn) (nI p1) 0) := CS_cA c3
    have r4 := cA_r (S := S3) (i0 := i) (x1 := 3) (x2 := nI Dn) (x3 := nI p1) (x4 := 0)
    have k4 : ∀ c a, c ≠ 3 ∧ c ≠ 4 ∧ c ≠ 5 ∧ c ≠ 6 ∧ c ≠ 7 → (cA S3 i 3 (nI Dn) (nI p1) 0).1 c a = S3.1 c a := fun c a hc => cA_c hc
    have sk34 : SK S3 (cA S3 i 3 (nI Dn) (nI p1) 0) i Dn := SK_cA (Nat.le_refl _)
    obtain ⟨S4, eS4⟩ : ∃ S4, S4 = cA S3 i 3 (nI Dn) (nI p1) 0 := ⟨_, rfl⟩
    rw [← eS4] at c4 r4 k4 sk34 ⊢
    have sk4 : SK S S4 i Dn := SK_tr (SK_CK ck2) (SK_tr skN sk34)
    refine b_Reader_readDef_46 hg (w_expect (d := e + 1) hg ho c4) (fun S5 h5 => ?_)
    rcases h5 with ⟨k40, e5⟩ | ⟨k40, e5⟩
    · rw [e5]
      have hpt2 : p2 < t := tk_pos (by rw [k40]; decide)
      have hgt2 := np_gt (b := b) hpt2
      obtain ⟨te2, -⟩ := te_s htx hp2 (c := 40) (by decide) (by decide) (by decide) k40
      have c5 := CS_wS c4
      obtain ⟨p3, ep3⟩ : ∃ p3, p3 = np b t p2 := ⟨_, rfl⟩
      rw [← ep3] at c5 hgt2 ⊢
      have hp3 := CS_p c5
      have wb3 := c5.2.2.2.2.2.2.2.2.1
      obtain ⟨S5', eS5⟩ : ∃ S5', S5' = wS b t p3 S4 := ⟨_, rfl⟩
      have w5 : ∀ c a, c ≠ 38 → S5'.1 c a = S4.1 c a := fun c a hc => by rw [eS5]; exact wS_c hc
      rw [← eS5] at c5 ⊢
      have dc5 : DC b t S S5' p i p1 Dn vw 0 p3 := by
        refine ⟨c5, ?_, ?_, ?_, ?_, SK_tr sk4 (by rw [eS5]; exact SK_wS), ⟨(w5 _ _ (by decide)).trans r4.1, (w5 _ _ (by decide)).trans r4.2.1, (w5 _ _ (by decide)).trans r4.2.2.1⟩, ⟨?_, ?_, ?_⟩, by omega, fun a ha => absurd ha (by omega), NS_S (s := p1) h.2.2.2.2.2.2.2 (SK_tr sk4 (by rw [eS5]; exact SK_wS)).2.1 (by omega) ?_ (by rw [w5 _ _ (by decide), k4 _ _ (by decide), eS3]; exact nA_10)⟩
        · rw [w5 _ _ (by decide), k4 _ _ (by decide), cN 8 1 (by omega) (by omega)]; exact x81
        · rw [w5 _ _ (by decide), k4 _ _ (by decide)]; exact rN.2.2.2.2.2.1
        · rw [w5 _ _ (by decide), k4 _ _ (by decide), cN 34 10 (by omega) (by omega)]; exact x34
        · rw [w5 _ _ (by decide), k4 _ _ (by decide)]; exact rN.2.2.2.2.2.2.1
        · rw [w5 _ _ (by decide), k4 _ _ (by decide)]; exact rN.1
        · rw [w5 _ _ (by decide), k4 _ _ (by decide)]; exact rN.2.1
        · rw [w5 _ _ (by decide), k4 _ _ (by decide)]; exact rN.2.2.2.1
        · rw [w5 _ _ (by decide), k4 _ _ (by decide)]; exact rN.1
      -- the reference behind its (
      have st3 : ∀ T q j N, HS b t q j 0 N vw iw p T → DQ l Gr n w d b t S5' T p i p1 Dn 0 p3 j 60 (fun v => dN p p1 v j) := fun T q j N hH => by
        obtain ⟨v, T2, N2, hid, M2, mk2, nb2, bj, pre⟩ := st2 T q j N hH
        have g12 : te b t p1 ≤ p2 := by rw [ep2]; exact gp_ge (MC_p2 M2)
        have M3 : MC b t (p2 + 1) j 0 0 N2 (zi T2 73 6 (nI (p2 + 1))) := MC_at M2 (by omega)
        have M4 : MC b t (p2 + 1) (j + 1) 0 0 N2 (mP (zi T2 73 6 (nI (p2 + 1))) j 26 (nI v) 0 (nI p1)) := MC_mP M3
        have r4' := mP_r (T := zi T2 73 6 (nI (p2 + 1))) (j0 := j) (x1 := 26) (x2 := nI v) (x3 := 0) (x4 := nI p1)
        have mk4 : MK b t T2 (mP (zi T2 73 6 (nI (p2 + 1))) j 26 (nI v) 0 (nI p1)) j 0 := MK_tr (MK_zi (by omega)) (MK_mP (Nat.le_refl _))
        obtain ⟨T4, eT4⟩ : ∃ T4, T4 = mP (zi T2 73 6 (nI (p2 + 1))) j 26 (nI v) 0 (nI p1) := ⟨_, rfl⟩
        rw [← eT4] at M4 r4' mk4
        have mk5 : MK b t T4 (zi T4 73 6 (nI p3)) (j + 1) 0 := MK_zi (by omega)
        have mk6 : MK b t T (zi T4 73 6 (nI p3)) j 0 := MK_tr mk2 (MK_tr mk4 (MK_le mk5 (by omega) (Nat.le_refl _)))
        refine ⟨v, zi T4 73 6 (nI p3), N2, nid_MK (nid_MK hid mk4) mk5, MC_at M4 hp3, PK_MK mk6, P3_MK mk6, nb_le nb2 (by omega), bj, ⟨by rw [zi_c (by decide)]; exact r4'.1, by rw [zi_c (by decide)]; exact r4'.2.1, by rw [zi_c (by decide)]; exact r4'.2.2.1, by rw [zi_c (by decide)]; exact r4'.2.2.2⟩, fun a ha => absurd ha (Nat.not_lt_zero a), fun Q kk => pre Q (b_Mo_defItem_31 hg (wm_sg hg htx (by decide) (by decide) (by decide) M2.1 ep2.symm k40) (fun A eA => ?_))⟩
        rw [eA]
        refine b_Mo_defItem_37 (fun _ => b_Mo_defItem_45 hg (wm_put (MC_13 M3) (by omega)) (fun a A hv => ?_)) (fun y => absurd (by rw [MC_f M3]; exact Int32.le_refl _) y)
        rw [hv.1, hv.2, ← eT4]
        have kg := wm_gap (l := l) (Gr := Gr) (n := n) (w := w) (d := d + 11) hg M4.1
        rw [show gp b t (p2 + 1) = p3 from by rw [ep3, np, te2]] at kg
        refine b_Mo_defItem_54 hg kg (fun A eA => ?_)
        rw [eA]
        exact kk
      have badJ : ∀ (S' : zS) (f pl : Int32), DF l Gr n w d b t S S' p vw iw f pl → zW l Gr (zc n w) 168 M_Reader_readDef (e + 8) 121 [some (.ref 66), none, some (.int (nI Dn)), some (.int (nI i)), none, none] [] S' (fun v S' => v = none ∧ JR l Gr n w d b t S S' p i Dn vw iw) := fun S' f pl hF =>
        df_121 hg (by omega) (by omega) (by rw [hF.1.2.1]; exact nz hF.1.1) (fun A a5 a6 jk => Or.inr ⟨f, pl, ⟨hF.1.1, a5.trans hF.1.2.1, a6.trans hF.1.2.2.1, JK_tr hF.1.2.2.2 jk⟩, hF.2⟩)
      refine b_Reader_readDef_53 (fun y => ?_) (fun y => ?_)
      · rw [CS_k c5] at y
        have dd : DD l Gr n w d b t S S5' p i p1 Dn vw iw 0 p3 0 := by
          refine ⟨dc5, fun T q j N hH => ?_⟩
          obtain ⟨v, T1, N1, hid, M1, pk1, p31, nb1, bj, rT, pa, pre⟩ := st3 T q j N hH
          refine ⟨v, T1, p3, N1, hid, M1, gp_wb wb3, pk1, p31, nb1, by omega, bj, rT, pa, fun Q kk => pre Q (b_Mo_defItem_60 hg (wm_isSign hg M1.1) (fun a A hv => ?_))⟩
          rw [hv.1, hv.2, if_pos ((tk_sg htx hp3 (by decide) (by decide) (by decide)).mpr y)]
          exact b_Mo_defItem_66 (fun _ => b_Mo_defItem_73 (b_Mo_defItem_74 kk)) (fun z => absurd z (by decide))
        refine b_Reader_readDef_70 (b_Reader_readDef_73 (fun z => absurd z (by decide)) (fun _ => b_Reader_readDef_81 (fun z => absurd (CS_f c5) z) (fun _ => b_Reader_readDef_91 (fun _ => w_dtail hg ho htx hk hip hDp hvw.1 hc KE0 dd) (fun z => ?_))))
        rw [CS_k c5, y] at z
        exact absurd z (by decide)
      · rw [CS_k c5] at y
        have dd : DD l Gr n w d b t S S5' p i p1 Dn vw iw 0 p3 1 := by
          refine ⟨dc5, fun T q j N hH => ?_⟩
          obtain ⟨v, T1, N1, hid, M1, pk1, p31, nb1, bj, rT, pa, pre⟩ := st3 T q j N hH
          refine ⟨v, T1, p3, N1, hid, M1, gp_wb wb3, pk1, p31, nb1, by omega, bj, rT, pa, fun Q kk => pre Q (b_Mo_defItem_60 hg (wm_isSign hg M1.1) (fun a A hv => ?_))⟩
          rw [hv.1, hv.2, if_neg (fun z => y ((tk_sg htx hp3 (by decide) (by decide) (by decide)).mp z))]
          exact b_Mo_defItem_66 (fun z => absurd rfl z) (fun _ => b_Mo_defItem_69 (b_Mo_defItem_74 kk))
        refine b_Reader_readDef_65 hg (w_param hg ho htx hk hip hDp dd) (fun S6 h6 => b_Reader_readDef_70 ?_)
        rcases h6 with ⟨q', hlt, h6⟩ | ⟨f, pl, h6⟩
        · exact wx_dl hg ho htx hk hip hDp (fun S' k' q' hD => w_dtail hg ho htx hk hip hDp hvw.1 hc KE0 hD) badJ (t - q') S6 1 q' 0 (Nat.le_refl _) (by omega) h6
        · have f6 : ¬ S6.1 3 5 = 0 := by rw [h6.1.2.1]; exact nz h6.1.1
          exact b_Reader_readDef_73 (fun z => absurd z (by decide)) (fun _ => b_Reader_readDef_81 (fun _ => badJ S6 f pl h6) (fun z => absurd z f6))
    · rw [e5]
      have f5 : ¬ (cF S4 1 (nI p2)).1 3 5 = 0 := by rw [cF_f.1]; decide
      have fin : ∀ X, X = cF S4 1 (nI p2) → zW l Gr (zc n w) 168 M_Reader_readDef (e + 8) 70 [some (.ref 66), none, some (.int (nI Dn)), some (.int (nI i)), none, none] [] X (fun v S' => v = none ∧ JR l Gr n w d b t S S' p i Dn vw iw) := fun X eX => by
        rw [eX]
        refine b_Reader_readDef_70 (b_Reader_readDef_73 (fun z => absurd z (by decide)) (fun _ => b_Reader_readDef_81 (fun _ => df_121 hg (by omega) (by omega) f5 (fun A a5 a6 jk => ?_)) (fun z => absurd z f5)))
        rw [cF_f.1] at a5
        rw [cF_f.2] at a6
        refine Or.inr ⟨1, nI p2, ⟨by decide, a5, a6, JK_tr (JK_tr (JK_SK (SK_0 sk4)) (JK_SK (SK_CK (ws := 0) CK_cF))) jk⟩, fun T q j N hH => ?_⟩
        obtain ⟨v, T2, N2, hid, M2, mk2, nb2, bj, pre⟩ := st2 T q j N hH
        have y7 : (mF (zi T2 73 6 (nI p2)) 1 (nI p2)).1 73 7 = 1 := mF_f.1
        refine PZ_of (T' := mF (zi T2 73 6 (nI p2)) 1 (nI p2)) (by decide) (dsp hH (e_Mo_defItem (pre _ (b_Mo_defItem_31 hg (wm_sgF hg htx (by decide) (by decide) (by decide) M2.1 ep2.symm (MC_f M2) k40) (fun A eA => ?_))))) y7 mF_f.2 (PK_MK (m := 0) (MK_tr (MK_le mk2 (Nat.zero_le _) (Nat.le_refl _)) (MK_tr (MK_zi (by omega)) MK_mF)))
        rw [eA]
        exact b_Mo_defItem_37 (fun y => absurd (by rw [← y7]; exact y) (show fz 1 by decide)) (fun _ => b_Mo_defItem_44 ⟨rfl, rfl⟩)
      refine b_Reader_readDef_53 (fun _ => fin _ rfl) (fun _ => b_Reader_readDef_65 hg (w_paramN hg f5) (fun A eA => fin A eA))
  · obtain ⟨f, ef⟩ : ∃ f : Int32, f = if tk b t p1 = 1 then 2 else 1 := ⟨_, rfl⟩
    have hfz : fz f := by rw [ef]; split <;> decide
    rw [← ef] at e2
    rw [e2]
    have f2 : ¬ (cF S1 f (nI p1)).1 3 5 = 0 := by rw [cF_f.1]; exact nz hfz
    refine b_Reader_readDef_11 (fun y => absurd y f2) (fun _ => b_Reader_readDef_22 ⟨rfl, Or.inr ⟨f, nI p1, JB_F hfz (JK_SK (SK_CK (CK_le ck1 (Nat.zero_le _) (Nat.le_refl _)))), fun T q j N hH => ?_⟩⟩)
    obtain ⟨T1, M1, mk1, nb1, bj, pre⟩ := st1 T q j N hH
    have y7 : (mF (zi T1 73 6 (nI p1)) f (nI p1)).1 73 7 = f := mF_f.1
    refine PZ_of (T' := mF (zi T1 73 6 (nI p1)) f (nI p1)) (nz hfz) (dsp hH (e_Mo_defItem (pre _ (b_Mo_defItem_14 hg (wm_nameF (d := d + 6) hg ho htx M1.1 (gp_wb wb1) (MC_f M1) hbad) (fun v A hv => ?_))))) y7 mF_f.2 (PK_MK (m := 0) (MK_tr (MK_le mk1 (Nat.zero_le _) (Nat.le_refl _)) (MK_tr (MK_zi (by omega)) MK_mF)))
    rw [hv.1, hv.2, ← ef]
    exact b_Mo_defItem_23 (fun _ => b_Mo_defItem_37 (fun y => absurd (by rw [← y7]; exact y) hfz) (fun _ => b_Mo_defItem_44 ⟨rfl, rfl⟩)) (fun y => absurd (y7.symm.trans y) (nz hfz))
end DEH
