section FO3
variable {l : Launch} {Gr : zG} {n w : Nat} {d : Nat} {b : Nat → Int32} {t p i ws dp p' i' q j m N X u k D D' vw iw s e : Nat} {S S' S'' T T' T'' : zS}
theorem SB_7 {f x v : Int32} {a : Nat} (h : SB S S' f x) : SB S (zi S' 7 a v) f x := ⟨h.1, by rw [zi_c (by decide)]; exact h.2.1, by rw [zi_c (by decide)]; exact h.2.2.1, SK_tr h.2.2.2 (SK_zi (by omega))⟩
theorem w_for (hg : ip_gk (lg_tbl, vwCl, Gr)) (ho : ip_old (lg_tbl, vwCl, Gr)) (htx : ∀ k, k < t → tx (b k)) (hD : 6 ≤ D) (hdp : dp ≤ 30) (KE0 : KE l Gr n w d b t dp (D + 1)) (IH : dp < 30 → KS l Gr n w d b t (dp + 1) D) {Dn : Nat} (h : CN b t p i Dn vw S) (hk : tk b t p = 204) : zMv l Gr (zc n w) 168 M_Reader_readFor (D + 2) [.ref 66, .int (nI dp)] S (fun S' => SR l Gr n w d b t S S' p i Dn vw dp) := by
  obtain ⟨e, rfl⟩ : ∃ e, D = e + 6 := ⟨D - 6, by omega⟩
  have h0 := h.1
  have ht := CS_t h0
  have hp := CS_p h0
  have hpt : p < t := tk_pos (by rw [hk]; decide)
  have hip := h.2.2.2.2.1
  have hDp := h.2.2.2.2.2.1
  have hnp := np_ok (b := b) hp
  have e3 : te b t p = p + 3 := te_w htx hp (K := kw4) (c := 204) (fun s => wk_4) (by decide) (by decide) hk
  have dsp : ∀ {T T' q j N iw}, HS b t q j dp N vw iw p T → zMv l Gr (zc n w) 168 M_Mo_forStatement (d + 13) [.ref 105, .int (nI p)] (zi T 73 6 (nI p)) (fun A => A = T') → PX l Gr n w d T T' := fun hH hm => px_for hg ho htx hH (by omega) hk hm
  refine e_Reader_readFor (b_Reader_readFor_0 hg (w_add hg (CS_f h0) (CS_n h0) (by omega)) (fun v A hv => ?_))
  rw [hv.2, CS_s h0]
  have h1 : CS b t p (i + 1) 0 (cA S i 1 0 (nI p) 0) := CS_cA h0
  obtain ⟨S1, eS1⟩ : ∃ S1, S1 = cA S i 1 0 (nI p) 0 := ⟨_, rfl⟩
  have r1 := cA_r (S := S) (i0 := i) (x1 := 1) (x2 := 0) (x3 := nI p) (x4 := 0)
  have ck1 : CK S S1 i 0 := by rw [eS1]; exact CK_cA (Nat.le_refl _)
  have ck1' : CK S S1 0 0 := CK_le ck1 (Nat.zero_le _) (Nat.le_refl _)
  rw [← eS1] at h1 r1 ⊢
  refine b_Reader_readFor_18 hg (w_adv hg ho h1) (fun A eA => ?_)
  rw [eA]
  have h2 := CS_wS h1
  obtain ⟨p1, ep1⟩ : ∃ p1, p1 = np b t p := ⟨_, rfl⟩
  rw [← ep1] at h2 hnp ⊢
  obtain ⟨S2, eS2⟩ : ∃ S2, S2 = wS b t p1 S1 := ⟨_, rfl⟩
  have ck2 : CK S1 S2 (i + 1) 0 := by rw [eS2]; exact CK_wS
  rw [← eS2] at h2 ⊢
  rw [e3] at hnp
  have hp1 := CS_p h2
  have wb1 := h2.2.2.2.2.2.2.2.2.1
  refine b_Reader_readFor_26 hg (w_takeName hg ho h2) (fun v S3 hv => ?_)
  obtain ⟨ev, hv⟩ := hv
  rw [ev]
  have st1 : ∀ T q j N iw, HS b t q j dp N vw iw p T → ∃ T1, MC b t p1 (j + 1) dp 0 N T1 ∧ MK b t T T1 j 0 ∧ nb b t N p1 ∧ p + 3 ≤ p1 ∧ j + 2 * dp ≤ 3 * p ∧ T1.1 78 j = 20 ∧ T1.1 81 j = nI p ∧
    (∀ Q, zW l Gr (zc n w) 168 M_Mo_forStatement (d + 13) 24 (fL p) [] T1 Q → zW l Gr (zc n w) 168 M_Mo_forStatement (d + 13) 0 (fL p) [] (zi T 73 6 (nI p)) Q) := fun T q j N iw hH => by
    have := fs_1 (l := l) (Gr := Gr) (n := n) (w := w) (d := d) hg htx hH hk
    rw [← ep1] at this
    exact this
  rcases hv with ⟨k1, hsz, e3'⟩ | ⟨hbad, e3'⟩
  · rw [e3']
    have h3 := CS_wS h2
    have hpt1 : p1 < t := tk_pos (by rw [k1]; decide)
    have hgt1 := np_gt (b := b) hpt1
    have hnp1 := np_ok (b := b) hp1
    obtain ⟨p2, ep2⟩ : ∃ p2, p2 = np b t p1 := ⟨_, rfl⟩
    rw [← ep2] at h3 hgt1 hnp1 ⊢
    have hp2 := CS_p h3
    have st2 : ∀ T q j N iw, HS b t q j dp N vw iw p T → ∃ v T2 N2, nid b t T2 v p1 ∧ MC b t (te b t p1) (j + 2) dp 0 N2 T2 ∧ MK b t T T2 j 0 ∧ nb b t N2 (te b t p1) ∧ j + 2 * dp ≤ 3 * p ∧ (T2.1 78 j = 20 ∧ T2.1 81 j = nI p ∧ T2.1 78 (j + 1) = 38 ∧ T2.1 79 (j + 1) = nI v ∧ T2.1 81 (j + 1) = nI p1) ∧
      (∀ Q, zW l Gr (zc n w) 168 M_Mo_forStatement (d + 13) 53 [some (.ref 105), some (.int (nI p)), none, none, some (.int (nI v))] [.int (nI (j + 1))] T2 Q → zW l Gr (zc n w) 168 M_Mo_forStatement (d + 13) 0 (fL p) [] (zi T 73 6 (nI p)) Q) := fun T q j N iw hH => by
      obtain ⟨T1, M1, mk1, nb1, -, bj, r0, r0', pre⟩ := st1 T q j N iw hH
      obtain ⟨v, T2, N2, kn, hid, M2, mk2, nb2⟩ := nm_run (l := l) (Gr := Gr) (n := n) (w := w) (d := d + 6) hg ho htx M1 (gp_wb wb1) nb1 k1 hsz
      have c0 := mk2.1 j (Nat.zero_le _) (by omega)
      have M3 : MC b t (te b t p1) (j + 2) dp 0 N2 (mP T2 (j + 1) 38 (nI v) 0 (nI p1)) := MC_mP M2
      have mk3 : MK b t T2 (mP T2 (j + 1) 38 (nI v) 0 (nI p1)) (j + 1) 0 := MK_mP (Nat.le_refl _)
      have r3 := mP_r (T := T2) (j0 := j + 1) (x1 := 38) (x2 := nI v) (x3 := 0) (x4 := nI p1)
      have c1 := mk3.1 j (Nat.zero_le _) (by omega)
      refine ⟨v, _, N2, nid_MK hid mk3, M3, MK_tr mk1 (MK_tr (MK_le mk2 (by omega) (Nat.le_refl _)) (MK_le mk3 (by omega) (Nat.le_refl _))), nb2, bj, ⟨c1.1.trans (c0.1.trans r0), c1.2.2.2.1.trans (c0.2.2.2.1.trans r0'), r3.1, r3.2.1, r3.2.2.2⟩, fun Q kk => pre Q (b_Mo_forStatement_24 hg kn (fun a A hv => ?_))⟩
      rw [hv.1, hv.2, MC_6 M1]
      refine b_Mo_forStatement_33 (fun _ => b_Mo_forStatement_43 hg (wm_put (MC_13 M2) (by omega)) (fun a A hv => ?_)) (fun y => absurd (by rw [MC_f M2]; exact Int32.le_refl _) y)
      rw [hv.1, hv.2]
      exact kk
    obtain ⟨S3', eS3⟩ : ∃ S3', S3' = wS b t p2 S2 := ⟨_, rfl⟩
    have ck3 : CK S1 S3' (i + 1) 0 := CK_tr ck2 (by rw [eS3]; exact CK_wS)
    rw [← eS3] at h3 ⊢
    have ck03 : CK S S3' 0 0 := CK_tr ck1' (CK_le ck3 (Nat.zero_le _) (Nat.le_refl _))
    have x81 : S3'.1 8 1 = nI t := (ck03.2.2.1 8 1 (by omega) (by omega)).trans h.2.1
    have x89 : S3'.1 8 9 = nI Dn := (ck03.2.2.1 8 9 (by omega) (by omega)).trans h.2.2.1
    have x34 : S3'.1 34 10 = nI vw := (ck03.2.2.2.1 10 (by omega)).trans h.2.2.2.1
    refine b_Reader_readFor_30 (fun _ => b_Reader_readFor_42 hg (w_nadd (b := b) hg ht h3.1 x81 x89 (by omega) hp1) (fun v A hv => ?_)) (fun y => absurd (CS_f h3) y)
    rw [hv.1, hv.2]
    have c4 : CS b t p2 (i + 1) 0 (nA S3' Dn 2 (nI p1) (nI (re pn b t p1)) 0 0 0) := CS_nA h3
    have rN := nA_r (S := S3') (D0 := Dn) (x1 := 2) (x2 := nI p1) (x3 := nI (re pn b t p1)) (x4 := 0) (x5 := 0) (x6 := 0)
    obtain ⟨S4, eS4⟩ : ∃ S4, S4 = nA S3' Dn 2 (nI p1) (nI (re pn b t p1)) 0 0 0 := ⟨_, rfl⟩
    have cN : ∀ c a, ¬ (9 ≤ c ∧ c ≤ 15) → ¬ (c = 8 ∧ a = 9) → S4.1 c a = S3'.1 c a := fun c a q1 q2 => by rw [eS4]; exact nA_c q1 q2
    have sk4 : SK S S4 i Dn := SK_tr (SK_CK (CK_tr ck1 (CK_le ck3 (by omega) (Nat.le_refl _)))) (by rw [eS4]; exact SK_nA (Nat.le_refl _))
    rw [← eS4] at c4 rN ⊢
    refine b_Reader_readFor_54 hg (w_add hg (CS_f c4) (CS_n c4) (by omega)) (fun v A hv => ?_)
    rw [hv.2]
    have c5 : CS b t p2 (i + 1 + 1) 0 (cA S4 (i + 1) 17 (nI Dn) (nI p1) 0) := CS_cA c4
    have r5 := cA_r (S := S4) (i0 := i + 1) (x1 := 17) (x2 := nI Dn) (x3 := nI p1) (x4 := 0)
    have o5 := cA_o (S := S4) (i0 := i + 1) (k := i) (x1 := 17) (x2 := nI Dn) (x3 := nI p1) (x4 := 0) (by omega)
    obtain ⟨S5, eS5⟩ : ∃ S5, S5 = cA S4 (i + 1) 17 (nI Dn) (nI p1) 0 := ⟨_, rfl⟩
    have k5 : ∀ c a, c ≠ 3 ∧ c ≠ 4 ∧ c ≠ 5 ∧ c ≠ 6 ∧ c ≠ 7 → S5.1 c a = S4.1 c a := fun c a hc => by rw [eS5]; exact cA_c hc
    have sk5 : SK S S5 i Dn := SK_tr sk4 (by rw [eS5]; exact SK_cA (by omega))
    rw [← eS5] at c5 r5 o5 ⊢
    have o50 : S5.1 4 i = 1 ∧ S5.1 6 i = nI p := by
      have y := ck3.1 i (Nat.zero_le _) (by omega)
      exact ⟨o5.1.trans ((cN 4 i (by omega) (by omega)).trans (y.1.trans r1.1)), o5.2.2.1.trans ((cN 6 i (by omega) (by omega)).trans (y.2.2.1.trans r1.2.2.1))⟩
    have dc5 : dcl S5 Dn p1 2 0 0 0 := ⟨(k5 9 Dn (by decide)).trans rN.1, (k5 11 Dn (by decide)).trans rN.2.1, (k5 12 Dn (by decide)).trans rN.2.2.1, (k5 13 Dn (by decide)).trans rN.2.2.2.1, (k5 14 Dn (by decide)).trans rN.2.2.2.2.1⟩
    have cn5 : S5.1 8 1 = nI t ∧ S5.1 8 9 = nI (Dn + 1) ∧ S5.1 34 10 = nI vw := ⟨(k5 8 1 (by decide)).trans ((cN 8 1 (by omega) (by omega)).trans x81), (k5 8 9 (by decide)).trans rN.2.2.2.2.2.1, (k5 34 10 (by decide)).trans ((cN 34 10 (by omega) (by omega)).trans x34)⟩
    refine b_Reader_readFor_68 hg (w_expect hg ho c5) (fun S6 h6 => ?_)
    rcases h6 with ⟨k61, e6⟩ | ⟨k61, e6⟩
    · rw [e6]
      have hpt2 : p2 < t := tk_pos (by rw [k61]; decide)
      have hgt2 := np_gt (b := b) hpt2
      obtain ⟨te2, -⟩ := te_s htx hp2 (c := 61) (by decide) (by decide) (by decide) k61
      have c6 := CS_wS c5
      obtain ⟨p3, ep3⟩ : ∃ p3, p3 = np b t p2 := ⟨_, rfl⟩
      rw [← ep3] at c6 hgt2 ⊢
      have g23 : gp b t (p2 + 1) = p3 := by rw [ep3, np, te2]
      have st3 : ∀ T q j N iw, HS b t q j dp N vw iw p T → ∃ v T3 N2, nid b t T3 v p1 ∧ MC b t (p2 + 1) (j + 2) dp 0 N2 T3 ∧ MK b t T T3 j 0 ∧ bud b t (2 * dp + 12) (j + 2) 0 N2 (p2 + 1) ∧ (T3.1 78 j = 20 ∧ T3.1 81 j = nI p ∧ T3.1 78 (j + 1) = 38 ∧ T3.1 79 (j + 1) = nI v ∧ T3.1 81 (j + 1) = nI p1) ∧
        (∀ Q, zW l Gr (zc n w) 168 M_Mo_forStatement (d + 13) 67 [some (.ref 105), some (.int (nI p)), none, none, some (.int (nI v))] [] T3 Q → zW l Gr (zc n w) 168 M_Mo_forStatement (d + 13) 0 (fL p) [] (zi T 73 6 (nI p)) Q) := fun T q j N iw hH => by
        obtain ⟨v, T2, N2, hid, M2, mk2, nb2, bj, rT, pre⟩ := st2 T q j N iw hH
        have mk3 : MK b t T2 (zi T2 73 6 (nI (p2 + 1))) (j + 2) 0 := MK_zi (by omega)
        have M3 : MC b t (p2 + 1) (j + 2) dp 0 N2 (zi T2 73 6 (nI (p2 + 1))) := MC_at M2 (by omega)
        have c0 := mk3.1 j (Nat.zero_le _) (by omega)
        have c1 := mk3.1 (j + 1) (Nat.zero_le _) (by omega)
        refine ⟨v, _, N2, nid_MK hid mk3, M3, MK_tr mk2 (MK_le mk3 (by omega) (Nat.le_refl _)), ⟨by omega, by omega, nb_le nb2 (by omega)⟩, ⟨c0.1.trans rT.1, c0.2.2.2.1.trans rT.2.1, c1.1.trans rT.2.2.1, c1.2.1.trans rT.2.2.2.1, c1.2.2.2.1.trans rT.2.2.2.2⟩, fun Q kk => pre Q (b_Mo_forStatement_53 hg (wm_sg hg htx (by decide) (by decide) (by decide) M2.1 ep2.symm k61) (fun A eA => ?_))⟩
        rw [eA]
        exact b_Mo_forStatement_60 (fun y => absurd (MC_f M3) y) (fun _ => kk)
      refine b_Reader_readFor_75 hg (KE0 _ _ _ _ c6 (by omega) (by omega)) (fun S7 hE => ?_)
      rw [CS_s c6]
      rcases hE with ⟨p4, i1, hE⟩ | ⟨f, pl, hE⟩
      · have c7 := hE.1
        have ck7 := hE.2.1
        have hlt7 := hE.2.2.1
        have hbd7 := hE.2.2.2.1
        have hp4 := CS_p c7
        have wb4 := c7.2.2.2.2.2.2.2.2.1
        have ck57 : CK S5 S7 (i + 2) 0 := CK_tr CK_wS ck7
        refine b_Reader_readFor_89 hg (w_add hg (CS_f c7) (CS_n c7) (by omega)) (fun v A hv => ?_)
        rw [hv.2]
        have c8 : CS b t p4 (i1 + 1) 0 (cA S7 i1 18 0 (nI p3) 0) := CS_cA c7
        have r8 := cA_r (S := S7) (i0 := i1) (x1 := 18) (x2 := 0) (x3 := nI p3) (x4 := 0)
        have o8 : ∀ a, a < i1 → (cA S7 i1 18 0 (nI p3) 0).1 4 a = S7.1 4 a ∧ (cA S7 i1 18 0 (nI p3) 0).1 5 a = S7.1 5 a ∧ (cA S7 i1 18 0 (nI p3) 0).1 6 a = S7.1 6 a ∧ (cA S7 i1 18 0 (nI p3) 0).1 7 a = S7.1 7 a := fun a ha => cA_o (by omega)
        obtain ⟨S8, eS8⟩ : ∃ S8, S8 = cA S7 i1 18 0 (nI p3) 0 := ⟨_, rfl⟩
        have ck58 : CK S5 S8 (i + 2) 0 := CK_tr ck57 (by rw [eS8]; exact CK_cA (by omega))
        rw [← eS8] at c8 r8 o8 ⊢
        -- the reference up to "to"
        have st4 : ∀ T q j N iw, HS b t q j dp N vw iw p T → ∃ v T5 j1 N5, nid b t T5 v p1 ∧ MC b t p4 (j1 + 1) dp 0 N5 T5 ∧ MK b t T T5 j 0 ∧ bud b t (2 * dp + 11) (j1 + 1) 0 N5 p4 ∧ j + 2 < j1 ∧ gX w S7 T5 (nid b t T5) p3 (i + 2) i1 (j + 2) j1 ∧ (T5.1 78 j = 20 ∧ T5.1 81 j = nI p ∧ T5.1 78 (j + 1) = 38 ∧ T5.1 79 (j + 1) = nI v ∧ T5.1 81 (j + 1) = nI p1 ∧ T5.1 78 j1 = 41) ∧
          (∀ Q, zW l Gr (zc n w) 168 M_Mo_forStatement (d + 13) 87 [some (.ref 105), some (.int (nI p)), none, none, some (.int (nI v))] [.int (nI j1)] T5 Q → zW l Gr (zc n w) 168 M_Mo_forStatement (d + 13) 0 (fL p) [] (zi T 73 6 (nI p)) Q) := fun T q j N iw hH => by
          obtain ⟨v, T3, N2, hid, M3, mk3, b3, rT, pre⟩ := st3 T q j N iw hH
          obtain ⟨Y, j1, N5, kx, MY, mkY, bY, gx⟩ := x_okD (D := d + 11) (by omega) hg htx hdp hE M3 g23 b3
          have bx := gX_bnd gx
          have b1 := bY.1
          have M5 : MC b t p4 (j1 + 1) dp 0 N5 (mP Y j1 41 0 0 (nI p)) := MC_mP MY
          have mk5 : MK b t Y (mP Y j1 41 0 0 (nI p)) j1 0 := MK_mP (Nat.le_refl _)
          have mk35 : MK b t T3 (mP Y j1 41 0 0 (nI p)) (j + 2) 0 := MK_tr mkY (MK_le mk5 (by omega) (Nat.le_refl _))
          have c0 := mk35.1 j (Nat.zero_le _) (by omega)
          have c1 := mk35.1 (j + 1) (Nat.zero_le _) (by omega)
          refine ⟨v, _, j1, N5, nid_MK hid mk35, M5, MK_tr mk3 (MK_le mk35 (by omega) (Nat.le_refl _)), ⟨by omega, by omega, bY.2.2⟩, by omega, gX_cong mk5.2.2.2.2.2 gx cgS_rfl (fun a q1 q2 => mk5.1 a (Nat.zero_le _) q2), ⟨c0.1.trans rT.1, c0.2.2.2.1.trans rT.2.1, c1.1.trans rT.2.2.1, c1.2.1.trans rT.2.2.2.1, c1.2.2.2.1.trans rT.2.2.2.2, mP_r.1⟩, fun Q kk => pre Q (b_Mo_forStatement_67 hg kx (fun A eA => ?_))⟩
          rw [eA]
          refine b_Mo_forStatement_71 (fun y => absurd (MC_f MY) y) (fun _ => b_Mo_forStatement_78 hg (wm_put (MC_13 MY) (by omega)) (fun a A hv => ?_))
          rw [hv.1, hv.2]
          exact kk
        refine b_Reader_readFor_101 hg (w_expect hg ho c8) (fun S9 h9 => ?_)
        rcases h9 with ⟨k205, e9⟩ | ⟨k205, e9⟩
        · rw [e9]
          have hpt4 : p4 < t := tk_pos (by rw [k205]; decide)
          have te4 : te b t p4 = p4 + 2 := te_w htx hp4 (K := kw5) (c := 205) (fun s => wk_5) (by decide) (by decide) k205
          have hnp4 := np_ok (b := b) hp4
          rw [te4] at hnp4
          have c9 := CS_wS c8
          obtain ⟨p5, ep5⟩ : ∃ p5, p5 = np b t p4 := ⟨_, rfl⟩
          rw [← ep5] at c9 hnp4 ⊢
          have g45 : gp b t (p4 + 2) = p5 := by rw [ep5, np, te4]
          have st5 : ∀ T q j N iw, HS b t q j dp N vw iw p T → ∃ v T6 j1 N5, nid b t T6 v p1 ∧ MC b t (p4 + 2) (j1 + 1) dp 0 N5 T6 ∧ MK b t T T6 j 0 ∧ bud b t (2 * dp + 11) (j1 + 1) 0 N5 (p4 + 2) ∧ j + 2 < j1 ∧ gX w S7 T6 (nid b t T6) p3 (i + 2) i1 (j + 2) j1 ∧ (T6.1 78 j = 20 ∧ T6.1 81 j = nI p ∧ T6.1 78 (j + 1) = 38 ∧ T6.1 79 (j + 1) = nI v ∧ T6.1 81 (j + 1) = nI p1 ∧ T6.1 78 j1 = 41) ∧
            (∀ Q, zW l Gr (zc n w) 168 M_Mo_forStatement (d + 13) 102 [some (.ref 105), some (.int (nI p)), none, none, some (.int (nI v))] [] T6 Q → zW l Gr (zc n w) 168 M_Mo_forStatement (d + 13) 0 (fL p) [] (zi T 73 6 (nI p)) Q) := fun T q j N iw hH => by
            obtain ⟨v, T5, j1, N5, hid, M5, mk5, b5, hj, gx, rT, pre⟩ := st4 T q j N iw hH
            have mk6 : MK b t T5 (zi T5 73 6 (nI (p4 + 2))) (j1 + 1) 0 := MK_zi (by omega)
            have M6 : MC b t (p4 + 2) (j1 + 1) dp 0 N5 (zi T5 73 6 (nI (p4 + 2))) := MC_at M5 (by omega)
            have c0 := mk6.1 j (Nat.zero_le _) (by omega)
            have c1 := mk6.1 (j + 1) (Nat.zero_le _) (by omega)
            have c2 := mk6.1 j1 (Nat.zero_le _) (by omega)
            refine ⟨v, _, j1, N5, nid_MK hid mk6, M6, MK_tr mk5 (MK_le mk6 (by omega) (Nat.le_refl _)), bud_le b5 (by omega), hj, gX_cong mk6.2.2.2.2.2 gx cgS_rfl (fun a q1 q2 => mk6.1 a (Nat.zero_le _) (by omega)), ⟨c0.1.trans rT.1, c0.2.2.2.1.trans rT.2.1, c1.1.trans rT.2.2.1, c1.2.1.trans rT.2.2.2.1, c1.2.2.2.1.trans rT.2.2.2.2.1, c2.1.trans rT.2.2.2.2.2⟩, fun Q kk => pre Q (b_Mo_forStatement_87 hg ho (wm_kwTo hg ho htx M5.1 (gp_wb wb4) (MC_f M5)) (fun A hA => ?_))⟩
            rcases hA with ⟨-, eA⟩ | ⟨y, -⟩
            · rw [eA]
              exact b_Mo_forStatement_95 (fun y => absurd (MC_f M6) y) (fun _ => kk)
            · exact absurd k205 y
          refine b_Reader_readFor_109 hg (KE0 _ _ _ _ c9 (by omega) (by omega)) (fun S10 hE2 => ?_)
          rw [CS_s c9]
          rcases hE2 with ⟨p6, i2, hE2⟩ | ⟨f, pl, hE2⟩
          · have c10 := hE2.1
            have ck10 := hE2.2.1
            have hlt10 := hE2.2.2.1
            have hbd10 := hE2.2.2.2.1
            have hp6 := CS_p c10
            have wb6 := c10.2.2.2.2.2.2.2.2.1
            have ck810 : CK S8 S10 (i1 + 1) 0 := CK_tr CK_wS ck10
            refine b_Reader_readFor_123 hg (w_add hg (CS_f c10) (CS_n c10) (by omega)) (fun v A hv => ?_)
            rw [hv.2]
            have c11 : CS b t p6 (i2 + 1) 0 (cA S10 i2 18 0 (nI p5) 0) := CS_cA c10
            have r11 := cA_r (S := S10) (i0 := i2) (x1 := 18) (x2 := 0) (x3 := nI p5) (x4 := 0)
            have o11 : ∀ a, a < i2 → (cA S10 i2 18 0 (nI p5) 0).1 4 a = S10.1 4 a ∧ (cA S10 i2 18 0 (nI p5) 0).1 5 a = S10.1 5 a ∧ (cA S10 i2 18 0 (nI p5) 0).1 6 a = S10.1 6 a ∧ (cA S10 i2 18 0 (nI p5) 0).1 7 a = S10.1 7 a := fun a ha => cA_o (by omega)
            obtain ⟨S11, eS11⟩ : ∃ S11, S11 = cA S10 i2 18 0 (nI p5) 0 := ⟨_, rfl⟩
            have ckA : CK S10 S11 i2 0 := by rw [eS11]; exact CK_cA (Nat.le_refl _)
            rw [← eS11] at c11 r11 o11 ⊢
            refine b_Reader_readFor_135 hg (w_add hg (CS_f c11) (CS_n c11) (by omega)) (fun v A hv => ?_)
            rw [hv.1, hv.2]
            have c12 : CS b t p6 (i2 + 1 + 1) 0 (cA S11 (i2 + 1) 19 (nI Dn) (nI p) 0) := CS_cA c11
            have r12 := cA_r (S := S11) (i0 := i2 + 1) (x1 := 19) (x2 := nI Dn) (x3 := nI p) (x4 := 0)
            obtain ⟨S12, eS12⟩ : ∃ S12, S12 = cA S11 (i2 + 1) 19 (nI Dn) (nI p) 0 := ⟨_, rfl⟩
            have ckB : CK S11 S12 (i2 + 1) 0 := by rw [eS12]; exact CK_cA (Nat.le_refl _)
            rw [← eS12] at c12 r12 ⊢
            have ck1012 : CK S10 S12 i2 0 := CK_tr ckA (CK_le ckB (by omega) (Nat.le_refl _))
            have ck812 : CK S8 S12 (i1 + 1) 0 := CK_tr ck810 (CK_le ck1012 (by omega) (Nat.le_refl _))
            have ck512 : CK S5 S12 (i + 2) 0 := CK_tr ck58 (CK_le ck812 (by omega) (Nat.le_refl _))
            have ck712 : CK S7 S12 i1 0 := CK_tr (by rw [eS8]; exact CK_cA (Nat.le_refl _)) (CK_le ck812 (by omega) (Nat.le_refl _))
            have s0 := ck512.1 i (Nat.zero_le _) (by omega)
            have s1 := ck512.1 (i + 1) (Nat.zero_le _) (by omega)
            have s2 := ck812.1 i1 (Nat.zero_le _) (by omega)
            have s3 := ckB.1 i2 (Nat.zero_le _) (by omega)
            have kc : ∀ c a, ¬ (3 ≤ c ∧ c ≤ 7) → ¬ (34 ≤ c ∧ c ≤ 38) → S12.1 c a = S5.1 c a := ck512.2.2.1
            have hx12 : Hx S12 i (i2 + 1) 0 2 341 ((p6 : Int) - p) := by
              have A : Hx S12 (i + 2) i1 1 1 341 ((p6 : Int) - p) := Hx_0 (Hx_mono hbd7.2.2 (by omega) (by omega)) ck712.1 (Nat.le_refl _)
              have A2 := Hx_cs (s0.1.trans o50.1) (by decide) (by decide) (by decide) (Hx_cs (s1.1.trans r5.1) (by decide) (by decide) (by decide) A (by omega) (by omega)) (by omega) (by omega)
              have A3 := Hx_eq (f1 := 0) (f2 := 1) (Hx_sn (e1 := -1) (e2 := 0) A2 (s2.1.trans r8.1) (by decide) (by decide) (by decide) (by omega) (by omega)) (by omega) (by omega)
              have B := Hx_0 hbd10.2.2 ck1012.1 (Nat.le_refl _)
              have A4 := Hx_app A3 B (H1 := 341) (H2 := (p6 : Int) - p) (Int.le_refl _) (by omega) (Int.le_refl _) (by omega)
              exact Hx_eq (Hx_sn (e1 := -1) (e2 := 0) A4 (s3.1.trans r11.1) (by decide) (by decide) (by decide) (by omega) (by omega)) (by omega) (by omega)
            refine fo_tail (D := e + 6) (i1 := i1) (i2 := i2) (p6 := p6) (p1 := p1) (pa := p3) (pb := p5) hg ho htx (by omega) hdp IH hk hip ⟨c12, (kc 8 1 (by omega) (by omega)).trans cn5.1, (kc 8 9 (by omega) (by omega)).trans cn5.2.1, (ck512.2.2.2.1 10 (by omega)).trans cn5.2.2, by omega, by omega, h.2.2.2.2.2.2.1, NS_S (s := p1) h.2.2.2.2.2.2.2 (SK_tr sk5 (SK_CK (CK_le ck512 (by omega) (Nat.le_refl _)))).2.1 (by omega) ((kc 9 Dn (by omega) (by omega)).trans dc5.1) ((kc 10 Dn (by omega) (by omega)).trans ((k5 10 Dn (by decide)).trans (by rw [eS4]; exact nA_10)))⟩ (SK_tr sk5 (SK_CK (CK_le ck512 (by omega) (Nat.le_refl _)))) (by omega) ⟨by omega, by omega, by omega⟩ hx12 ⟨(kc 9 Dn (by omega) (by omega)).trans dc5.1, (kc 11 Dn (by omega) (by omega)).trans dc5.2.1, (kc 12 Dn (by omega) (by omega)).trans dc5.2.2.1, (kc 13 Dn (by omega) (by omega)).trans dc5.2.2.2.1, (kc 14 Dn (by omega) (by omega)).trans dc5.2.2.2.2⟩ ⟨s0.1.trans o50.1, s0.2.2.1.trans o50.2, s1.1.trans r5.1, s1.2.1.trans r5.2.1, s1.2.2.1.trans r5.2.2.1, s2.1.trans r8.1, s2.2.2.1.trans r8.2.2.1, s3.1.trans r11.1, s3.2.2.1.trans r11.2.2.1, r12.1, r12.2.1, r12.2.2.1⟩ (fun T q j N iw hH => ?_)
            obtain ⟨v, T6, j1, N5, hid, M6, mk6, b6, hj, gx, rT, pre⟩ := st5 T q j N iw hH
            obtain ⟨Y, j2, N6, kx, MY, mkY, bY, gx2⟩ := x_okD (D := d + 11) (by omega) hg htx hdp hE2 M6 g45 b6
            have bx := gX_bnd gx2
            have b1 := bY.1
            have M7 : MC b t p6 (j2 + 1) dp 0 N6 (mP Y j2 41 0 0 (nI p)) := MC_mP MY
            obtain ⟨T7, eT7⟩ : ∃ T7, T7 = mP Y j2 41 0 0 (nI p) := ⟨_, rfl⟩
            have rT7 := mP_r (T := Y) (j0 := j2) (x1 := 41) (x2 := 0) (x3 := 0) (x4 := nI p)
            rw [← eT7] at M7 rT7
            have mk7 : MK b t Y T7 j2 0 := by rw [eT7]; exact MK_mP (Nat.le_refl _)
            obtain ⟨T8, eT8⟩ : ∃ T8, T8 = mP T7 (j2 + 1) 39 (nI v) 0 (nI p) := ⟨_, rfl⟩
            have M8 : MC b t p6 (j2 + 2) dp 0 N6 T8 := by rw [eT8]; exact MC_mP M7
            have rT8 := mP_r (T := T7) (j0 := j2 + 1) (x1 := 39) (x2 := nI v) (x3 := 0) (x4 := nI p)
            rw [← eT8] at rT8
            have mk8 : MK b t T7 T8 (j2 + 1) 0 := by rw [eT8]; exact MK_mP (Nat.le_refl _)
            have mkY8 : MK b t Y T8 j2 0 := MK_tr mk7 (MK_le mk8 (by omega) (Nat.le_refl _))
            have mk68 : MK b t T6 T8 (j1 + 1) 0 := MK_tr mkY (MK_le mkY8 (by omega) (Nat.le_refl _))
            have c0 := mk68.1 j (Nat.zero_le _) (by omega)
            have c1 := mk68.1 (j + 1) (Nat.zero_le _) (by omega)
            have c2 := mk68.1 j1 (Nat.zero_le _) (by omega)
            have c3 := mk8.1 j2 (Nat.zero_le _) (by omega)
            refine ⟨v, T8, j1, j2, N6, nid_MK hid mk68, M8, MK_tr mk6 (MK_le mk68 (by omega) (Nat.le_refl _)), ⟨by omega, by omega, bY.2.2⟩, by omega, by omega, gX_cong mk68.2.2.2.2.2 gx (fun a q1 q2 => ck712.1 a (Nat.zero_le _) q2) (fun a q1 q2 => mk68.1 a (Nat.zero_le _) (by omega)), gX_cong mkY8.2.2.2.2.2 gx2 (fun a q1 q2 => ck1012.1 a (Nat.zero_le _) q2) (fun a q1 q2 => mkY8.1 a (Nat.zero_le _) q2), ⟨c0.1.trans rT.1, c0.2.2.2.1.trans rT.2.1, c1.1.trans rT.2.2.1, c1.2.1.trans rT.2.2.2.1, c1.2.2.2.1.trans rT.2.2.2.2.1, c2.1.trans rT.2.2.2.2.2, c3.1.trans rT7.1, rT8.1, rT8.2.1, rT8.2.2.2⟩, fun Q kk => pre Q (b_Mo_forStatement_102 hg kx (fun A eA => ?_))⟩
            rw [eA]
            refine b_Mo_forStatement_106 (fun y => absurd (MC_f MY) y) (fun _ => b_Mo_forStatement_113 hg (wm_put (MC_13 MY) (by omega)) (fun a A hv => ?_))
            rw [hv.2, ← eT7]
            refine b_Mo_forStatement_122 hg (wm_put (MC_13 M7) (by omega)) (fun a A hv => ?_)
            rw [hv.1, hv.2, ← eT8]
            exact kk
          · have f1 : ¬ S10.1 3 5 = 0 := by rw [hE2.1.2.1]; exact nz hE2.1.1
            refine fo_clF hg f1 (Q := fun S' => SR l Gr n w d b t S S' p i Dn vw dp) (fun v a => Or.inr ⟨f, pl, SB_7 (SB_CB (SK_tr (SK_tr (SK_0 sk5) (SK_CK (CK_le ck58 (Nat.zero_le _) (Nat.le_refl _)))) SK_wS) hE2.1), fun T q j N iw hH hTB => ?_⟩)
            obtain ⟨v, T6, j1, N5, hid, M6, mk6, b6, hj, gx, rT, pre⟩ := st5 T q j N iw hH
            obtain ⟨Y, kx, y7, y8, mkY, -⟩ := x_badD (D := d + 11) (by omega) hE2 M6 g45 b6
            exact PZ_of (T' := Y) (nz hE2.1.1) (dsp hH (e_Mo_forStatement (pre _ (b_Mo_forStatement_102 hg kx (fun A eA => by rw [eA]; exact b_Mo_forStatement_106 (fun _ => b_Mo_forStatement_138 ⟨rfl, rfl⟩) (fun y => absurd (y7.symm.trans y) (nz hE2.1.1))))))) y7 y8 (PK_MK (m := 0) (MK_tr (MK_le mk6 (Nat.zero_le _) (Nat.le_refl _)) mkY))
        · rw [e9]
          have f9 : ¬ (cF S8 1 (nI p4)).1 3 5 = 0 := by rw [cF_f.1]; decide
          refine fo_clE hg f9 (Q := fun S' => SR l Gr n w d b t S S' p i Dn vw dp) (fun v a => Or.inr ⟨1, nI p4, SB_7 (SB_F (by decide) (SK_tr (SK_0 sk5) (SK_CK (CK_le ck58 (Nat.zero_le _) (Nat.le_refl _))))), fun T q j N iw hH hTB => ?_⟩)
          obtain ⟨v, T5, j1, N5, hid, M5, mk5, b5, hj, gx, rT, pre⟩ := st4 T q j N iw hH
          obtain ⟨Y, eY⟩ : ∃ Y, Y = mF (zi T5 73 6 (nI p4)) 1 (nI p4) := ⟨_, rfl⟩
          have y7 : Y.1 73 7 = 1 := by rw [eY]; exact mF_f.1
          refine PZ_of (T' := Y) (by decide) (dsp hH (e_Mo_forStatement (pre _ (b_Mo_forStatement_87 hg ho (wm_kwTo hg ho htx M5.1 (gp_wb wb4) (MC_f M5)) (fun A hA => ?_))))) y7 (by rw [eY]; exact mF_f.2) (PK_MK (m := 0) (MK_tr (MK_le mk5 (Nat.zero_le _) (Nat.le_refl _)) (by rw [eY]; exact MK_tr (MK_zi (by omega)) MK_mF)))
          rcases hA with ⟨y, -⟩ | ⟨-, eA⟩
          · exact absurd y k205
          · rw [eA, ← eY]
            exact fo_rG y7 (by decide) rfl
      · have f1 : ¬ S7.1 3 5 = 0 := by rw [hE.1.2.1]; exact nz hE.1.1
        refine fo_clD hg f1 (Q := fun S' => SR l Gr n w d b t S S' p i Dn vw dp) (fun v a => Or.inr ⟨f, pl, SB_7 (SB_CB (SK_tr (SK_0 sk5) SK_wS) hE.1), fun T q j N iw hH hTB => ?_⟩)
        obtain ⟨v, T3, N2, hid, M3, mk3, b3, rT, pre⟩ := st3 T q j N iw hH
        obtain ⟨Y, kx, y7, y8, mkY, -⟩ := x_badD (D := d + 11) (by omega) hE M3 g23 b3
        exact PZ_of (T' := Y) (nz hE.1.1) (dsp hH (e_Mo_forStatement (pre _ (b_Mo_forStatement_67 hg kx (fun A eA => by rw [eA]; exact fo_rF y7 hE.1.1 rfl))))) y7 y8 (PK_MK (m := 0) (MK_tr (MK_le mk3 (Nat.zero_le _) (Nat.le_refl _)) mkY))
    · rw [e6]
      have f6 : ¬ (cF S5 1 (nI p2)).1 3 5 = 0 := by rw [cF_f.1]; decide
      refine fo_clC hg f6 (Q := fun S' => SR l Gr n w d b t S S' p i Dn vw dp) (fun v a => Or.inr ⟨1, nI p2, SB_7 (SB_F (by decide) (SK_0 sk5)), fun T q j N iw hH hTB => ?_⟩)
      obtain ⟨v, T2, N2, hid, M2, mk2, nb2, bj, rT, pre⟩ := st2 T q j N iw hH
      obtain ⟨Y, eY⟩ : ∃ Y, Y = mF (zi T2 73 6 (nI p2)) 1 (nI p2) := ⟨_, rfl⟩
      have y7 : Y.1 73 7 = 1 := by rw [eY]; exact mF_f.1
      refine PZ_of (T' := Y) (by decide) (dsp hH (e_Mo_forStatement (pre _ (b_Mo_forStatement_53 hg (wm_sgF hg htx (by decide) (by decide) (by decide) M2.1 ep2.symm (MC_f M2) k61) (fun A eA => ?_))))) y7 (by rw [eY]; exact mF_f.2) (PK_MK (m := 0) (MK_tr (MK_le mk2 (Nat.zero_le _) (Nat.le_refl _)) (by rw [eY]; exact MK_tr (MK_zi (by omega)) MK_mF)))
      rw [eA, ← eY]
      exact b_Mo_forStatement_60 (fun _ => fo_rF y7 (by decide) rfl) (fun y => absurd (y7.symm.trans y) (by decide))
  · obtain ⟨f, ef⟩ : ∃ f : Int32, f = if tk b t p1 = 1 then 2 else 1 := ⟨_, rfl⟩
    have hfz : fz f := by rw [ef]; split <;> decide
    rw [← ef] at e3'
    rw [e3']
    have f3 : ¬ (cF S2 f (nI p1)).1 3 5 = 0 := by rw [cF_f.1]; exact nz hfz
    refine b_Reader_readFor_30 (fun y => absurd y f3) (fun _ => b_Reader_readFor_41 ⟨rfl, Or.inr ⟨f, nI p1, SB_F hfz (SK_CK (CK_tr ck1' (CK_le ck2 (Nat.zero_le _) (Nat.le_refl _)))), fun T q j N iw hH hTB => ?_⟩⟩)
    obtain ⟨T1, M1, mk1, nb1, -, bj, r0, r0', pre⟩ := st1 T q j N iw hH
    obtain ⟨Y, eY⟩ : ∃ Y, Y = mF (zi T1 73 6 (nI p1)) f (nI p1) := ⟨_, rfl⟩
    have y7 : Y.1 73 7 = f := by rw [eY]; exact mF_f.1
    refine PZ_of (T' := Y) (nz hfz) (dsp hH (e_Mo_forStatement (pre _ (b_Mo_forStatement_24 hg (wm_nameF hg ho htx M1.1 (gp_wb wb1) (MC_f M1) hbad) (fun a A hv => ?_))))) y7 (by rw [eY]; exact mF_f.2) (PK_MK (m := 0) (MK_tr (MK_le mk1 (Nat.zero_le _) (Nat.le_refl _)) (by rw [eY]; exact MK_tr (MK_zi (by omega)) MK_mF)))
    rw [← ef] at hv
    rw [hv.2, ← eY]
    refine b_Mo_forStatement_33 (fun y => ?_) (fun _ => b_Mo_forStatement_42 ⟨rfl, rfl⟩)
    rw [y7] at y
    exact absurd y hfz
end FO3
