/-! readIf of both -/
section IFV
variable {l : Launch} {Gr : zG} {n w : Nat} {d : Nat} {b : Nat → Int32} {t p i ws dp p' i' q j m N X u k D D' vw iw s e : Nat} {S S' S'' T T' T'' : zS}
set_option maxHeartbeats 2000000 in
theorem w_if (hg : ip_gk (lg_tbl, vwCl, Gr)) (ho : ip_old (lg_tbl, vwCl, Gr)) (htx : ∀ k, k < t → tx (b k)) (hD : 6 ≤ D) (hdp : dp ≤ 30) (KE1 : dp < 30 → KE l Gr n w d b t (dp + 1) (D + 1)) (IH : dp < 30 → KS l Gr n w d b t (dp + 1) D) (IHI : dp < 30 → KI l Gr n w d b t (dp + 1) (D + 1)) : KI l Gr n w d b t dp (D + 2) := by
  intro S p i Dn vw h hk
  obtain ⟨e, rfl⟩ : ∃ e, D = e + 6 := ⟨D - 6, by omega⟩
  refine w_ifhead hg ho htx (by omega) hdp KE1 h hk (fun S6 p2 p4 i1 hd h6 ck6 hp4 hi1 hip hx6 rS hF => ?_)
  have hipp := h.2.2.2.2.1
  have c6 := h6.1
  have ht := CS_t c6
  have hp4t := CS_p c6
  have sk06 : SK S S6 i Dn := SK_CK ck6
  refine b_Reader_readIf_69 hg (w_block hg ho (by omega) hdp IH h6) (fun S7 hB => ?_)
  rcases hB with ⟨hno, e7⟩ | ⟨h123, -, hB | ⟨f, pl, hB⟩⟩
  · -- the BLOCK doesn't open
    obtain ⟨f, ef⟩ : ∃ f : Int32, f = if tk b t p4 = 123 then 3 else 1 := ⟨_, rfl⟩
    have hfz : fz f := by rw [ef]; split <;> decide
    rw [← ef] at e7
    have f7 : ¬ S7.1 3 5 = 0 := by rw [e7, cF_f.1]; exact nz hfz
    refine if_clE hg f7 (Q := fun S' => IR l Gr n w d b t S S' p i Dn vw dp) (Or.inr ⟨f, nI p4, by rw [e7]; exact SB_F hfz (SK_0 sk06), fun T j N iw c hI => ?_⟩)
    obtain ⟨T6, q6, j1, N6, M6, g6, mk6, b6, hj, gx, rT, pre⟩ := hF T j N iw hI.1
    have h26 : T6.1 73 26 = nI dp := (P3_MK mk6).1.trans hI.1.1.2.1
    obtain ⟨Y, ky, y7, y8, pkY⟩ := ob_F (l := l) (Gr := Gr) (n := n) (w := w) (x1 := 1) (x2 := nI j1) hg htx M6 g6 hdp hno h26 (by omega)
    rw [← ef] at y7
    exact ⟨Y, fun x hx => e_Mo_ifStatement (pre x hx _ (b_Mo_ifStatement_99 hg (ky (x + 8)) (fun A eA => b_Mo_ifStatement_102 ⟨rfl, eA⟩))), PZ_of (nz hfz) PX_rfl y7 y8 PK_rfl, PK_tr (PK_0 (PK_MK (k := 0) mk6)) (PK_0 pkY)⟩
  · obtain ⟨S8, p8, i8, D8, vw8, hB, h125, e7⟩ := hB
    have hpt4 : p4 < t := tk_pos (by rw [h123]; decide)
    have hgt4 := np_gt (b := b) hpt4
    have cn8 := hB.1
    have c8 := cn8.1
    have hp8 := CS_p c8
    have hpt8 : p8 < t := tk_pos (by rw [h125]; decide)
    have hgt8 := np_gt (b := b) hpt8
    have hle8 := hB.2.2.1
    have hD8 := hB.2.2.2.1
    have hi8 := hB.2.2.2.2.1
    have sk68 : SK S6 S8 (i1 + 1) Dn := SK_tr SK_wS hB.2.1
    have sk08 : SK S S8 i Dn := SK_tr sk06 (SK_le sk68 (by omega) (Nat.le_refl _))
    have c9 := CS_wS c8
    obtain ⟨S9, eS9⟩ : ∃ S9, S9 = wS b t (np b t p8) S8 := ⟨_, rfl⟩
    have sk89 : SK S8 S9 i8 D8 := by rw [eS9]; exact SK_wS
    rw [e7]
    rw [← eS9] at c9 ⊢
    refine b_Reader_readIf_76 hg (w_add hg (CS_f c9) (CS_n c9) (by omega)) (fun v A hv => ?_)
    rw [hv.2]
    have c10 : CS b t (np b t p8) (i8 + 1) 0 (cA S9 i8 15 (nI i1) (nI p) 0) := CS_cA c9
    have r10 := cA_r (S := S9) (i0 := i8) (x1 := 15) (x2 := nI i1) (x3 := nI p) (x4 := 0)
    obtain ⟨S10, eS10⟩ : ∃ S10, S10 = cA S9 i8 15 (nI i1) (nI p) 0 := ⟨_, rfl⟩
    have sk810 : SK S8 S10 i8 D8 := SK_tr sk89 (by rw [eS10]; exact SK_cA (Nat.le_refl _))
    have ck810 : CK S8 S10 0 0 := by rw [eS10, eS9]; exact CK_tr CK_wS (CK_cA (Nat.zero_le _))
    rw [← eS10] at c10 r10 ⊢
    have cn10 : CN b t (np b t p8) (i8 + 1) D8 vw8 S10 := CN_CK cn8 c10 ck810 (by omega) (by omega)
    -- END_IF
    have fin : ∀ X pX iX DX vwX, CN b t pX iX DX vwX X → SK S10 X (i8 + 1) D8 → i8 + 1 ≤ iX → iX + p + 1 ≤ i + pX → p < pX → np b t p8 ≤ pX ∧ hxS X (i8 + 1) iX (np b t p8) pX → D8 ≤ DX → (∀ SF, SK S8 SF i8 D8 → SK X SF iX DX → (SF.1 4 i = 1 ∧ SF.1 6 i = nI p ∧ SF.1 4 i1 = 14 ∧ SF.1 6 i1 = nI p2 ∧ SF.1 4 i8 = 15 ∧ SF.1 5 i8 = nI i1 ∧ SF.1 4 iX = 16 ∧ SF.1 5 iX = nI i1 ∧ SF.1 6 iX = nI p) → ∀ T j N iw c, HI b t j dp N vw iw p c T → IT l Gr n w d b t SF T p i pX (iX + 1) j dp vw vwX iw DX c) →
        zW l Gr (zc n w) 168 M_Reader_readIf (e + 6 + 2) 171 [some (.ref 66), none, some (.int (nI p)), none, some (.int (nI i1))] [] X (fun v S' => v = none ∧ IR l Gr n w d b t S S' p i Dn vw dp) := fun X pX iX DX vwX cnX skX h1 h2 h3 hxX h4 hT => by
      have cX := cnX.1
      have hpX := CS_p cX
      refine b_Reader_readIf_171 hg (w_add hg (CS_f cX) (CS_n cX) (by omega)) (fun v A hv => b_Reader_readIf_183 ⟨rfl, Or.inl ?_⟩)
      rw [hv.2]
      have cF : CS b t pX (iX + 1) 0 (cA X iX 16 (nI i1) (nI p) 0) := CS_cA cX
      have rF := cA_r (S := X) (i0 := iX) (x1 := 16) (x2 := nI i1) (x3 := nI p) (x4 := 0)
      have skXF : SK X (cA X iX 16 (nI i1) (nI p) 0) iX DX := SK_cA (Nat.le_refl _)
      have ckXF : CK X (cA X iX 16 (nI i1) (nI p) 0) 0 0 := CK_cA (Nat.zero_le _)
      obtain ⟨SF, eSF⟩ : ∃ SF, SF = cA X iX 16 (nI i1) (nI p) 0 := ⟨_, rfl⟩
      rw [← eSF] at cF rF skXF ckXF ⊢
      have sk10F : SK S10 SF (i8 + 1) D8 := SK_tr skX (SK_le skXF (by omega) (by omega))
      have sk8F : SK S8 SF i8 D8 := SK_tr sk810 (SK_le sk10F (by omega) (Nat.le_refl _))
      have sk6F : SK S6 SF (i1 + 1) Dn := SK_tr sk68 (SK_le sk8F (by omega) (by omega))
      have s0 := sk6F.1 i (Nat.zero_le _) (by omega)
      have s1 := sk6F.1 i1 (Nat.zero_le _) (by omega)
      have s8 := sk10F.1 i8 (Nat.zero_le _) (by omega)
      have hxR : hxS SF i (iX + 1) p pX := by
        have a0 := hxX.1
        have A : Hx SF i (i1 + 1) 0 1 341 ((pX : Int) - p) := Hx_mono (Hx_0 hx6 sk6F.1 (Nat.le_refl _)) (Int.le_refl _) (by omega)
        have A2 := Hx_app A (Hx_0 hi8.2.2 sk8F.1 (Nat.le_refl _)) (H1 := 341) (H2 := (pX : Int) - p) (Int.le_refl _) (by omega) (Int.le_refl _) (by omega)
        have A3 := Hx_sn (e1 := 0) (e2 := 0) A2 (s8.1.trans r10.1) (by decide) (by decide) (by decide) (by omega) (by omega)
        have A4 := Hx_app A3 (Hx_0 hxX.2 skXF.1 (Nat.le_refl _)) (H1 := 341) (H2 := (pX : Int) - p) (Int.le_refl _) (by omega) (Int.le_refl _) (by omega)
        exact Hx_eq (Hx_sn (e1 := 0) (e2 := -1) A4 rF.1 (by decide) (by decide) (by decide) (by omega) (by omega)) (by omega) (by omega)
      exact ⟨pX, iX + 1, DX, vwX, CN_CK cnX cF ckXF (by omega) (Nat.le_refl _), SK_tr sk06 (SK_le sk6F (by omega) (Nat.le_refl _)), h3, by omega, ⟨by omega, by omega, hxR⟩, hT SF sk8F skXF ⟨s0.1.trans rS.1, s0.2.2.1.trans rS.2.1, s1.1.trans rS.2.2.1, s1.2.2.1.trans rS.2.2.2, s8.1.trans r10.1, s8.2.1.trans r10.2.1, rF.1, rF.2.1, rF.2.2.1⟩⟩
    -- a FAULT in the else
    have bad : ∀ X f pl, SB S10 X f pl → (∀ T j N iw c, HI b t j dp N vw iw p c T → IZ l Gr n w d b t T p f pl) → zW l Gr (zc n w) 168 M_Reader_readIf (e + 6 + 2) 171 [some (.ref 66), none, some (.int (nI p)), none, some (.int (nI i1))] [] X (fun v S' => v = none ∧ IR l Gr n w d b t S S' p i Dn vw dp) := fun X f pl hX hz =>
      if_clF (x1 := 0) hg (by rw [hX.2.1]; exact nz hX.1) (Q := fun S' => IR l Gr n w d b t S S' p i Dn vw dp) (Or.inr ⟨f, pl, SB_tr (SK_tr (SK_0 sk08) (SK_0 sk810)) hX, hz⟩)
    refine b_Reader_readIf_88 (fun y => absurd (CS_f c10) y) (fun _ => b_Reader_readIf_99 (fun y => ?_) (fun y => ?_))
    · rw [CS_k c10] at y
      exact fin S10 (np b t p8) (i8 + 1) D8 vw8 cn10 SK_rfl (Nat.le_refl _) (by omega) (by omega) ⟨Nat.le_refl _, Hx_nil (by omega) (by omega)⟩ (Nat.le_refl _) (fun SF sk8F skXF rF T j N iw c hI => it_no hg ho htx hd h125 y (im_of hg htx hd h123 hF hB hI) sk8F rF)
    · rw [CS_k c10] at y
      have hp9 := (np_ok (b := b) hp8).2.2
      have hpt9 : np b t p8 < t := tk_pos (by rw [y]; decide)
      have hgt9 := np_gt (b := b) hpt9
      have hnp9 := np_ok (b := b) hp9
      refine b_Reader_readIf_112 hg (w_adv hg ho c10) (fun A eA => ?_)
      rw [eA]
      have c11 := CS_wS c10
      obtain ⟨p9, ep9⟩ : ∃ p9, p9 = np b t (np b t p8) := ⟨_, rfl⟩
      rw [← ep9] at c11 hgt9 hnp9 ⊢
      obtain ⟨S11, eS11⟩ : ∃ S11, S11 = wS b t p9 S10 := ⟨_, rfl⟩
      have sk1011 : SK S10 S11 (i8 + 1) D8 := by rw [eS11]; exact SK_wS
      have cn11 : CN b t p9 (i8 + 1) D8 vw8 S11 := CN_CK cn10 (by rw [eS11]; exact c11) (by rw [eS11]; exact CK_wS) (by omega) (by omega)
      rw [← eS11] at c11 ⊢
      refine b_Reader_readIf_119 (fun z => ?_) (fun z => ?_)
      · rw [CS_k c11] at z
        refine b_Reader_readIf_140 (fun x => absurd x (nI_ge (a := dp) (b := 30) hd (by omega))) (fun _ => ?_)
        refine b_Reader_readIf_146 hg (by rw [nI_1]; exact IHI hd S11 p9 (i8 + 1) D8 vw8 cn11 z) (fun S12 hR => b_Reader_readIf_153 ?_)
        rcases hR with ⟨p12, i12, D12, vw12, hR⟩ | ⟨f, pl, hR⟩
        · have a1 := hR.2.2.1
          have a2 := hR.2.2.2.1
          have a3 := hR.2.2.2.2.1
          exact fin S12 p12 i12 D12 vw12 hR.1 (SK_tr sk1011 hR.2.1) (by omega) (by omega) (by omega) ⟨by omega, Hx_mono a3.2.2 (Int.le_refl _) (by omega)⟩ a2 (fun SF sk8F skXF rF T j N iw c hI => it_elif hg ho htx hd h125 y ep9 z (im_of hg htx hd h123 hF hB hI) hR sk8F skXF rF)
        · refine bad S12 f pl (SB_tr (SK_0 sk1011) hR.1) (fun T j N iw c hI => ?_)
          obtain ⟨T7, T8, T9, j1, j8, N8, k8, run, px8, hI9, px9, hj, gx, g8, rT, pk7, pk8, pk89, r9, o9, pk78⟩ := im_elif (l := l) (Gr := Gr) (n := n) (w := w) (d := d) hg ho htx hd h125 y ep9 z (im_of hg htx hd h123 hF hB hI)
          obtain ⟨TA, runA, pzA, pkA⟩ := hR.2 T9 _ _ iw (c + 1) hI9
          exact ⟨T7, run, PZ_tr (PX_tr px8 (px9 TA (runA d (Nat.le_refl _)))) (PK_tr pk78 (PK_tr (PK_0 (pk89 0 (Nat.zero_le _))) pkA)) pzA, PK_0 pk7⟩
      · rw [CS_k c11] at z
        refine b_Reader_readIf_132 hg (w_block hg ho (by omega) hdp IH cn11) (fun S12 hR => b_Reader_readIf_137 ?_)
        rcases hR with ⟨hno, e12⟩ | ⟨h123', -, hR | ⟨f, pl, hR⟩⟩
        · obtain ⟨f, ef⟩ : ∃ f : Int32, f = if tk b t p9 = 123 then 3 else 1 := ⟨_, rfl⟩
          have hfz : fz f := by rw [ef]; split <;> decide
          rw [← ef] at e12
          refine bad S12 f (nI p9) (by rw [e12]; exact SB_F hfz (SK_0 sk1011)) (fun T j N iw c hI => ?_)
          obtain ⟨T7, T8, q8, j1, j8, N8, k8, run, px8, hs8, t8, hj, gx, g8, rT, hc, pk7, pk8, pk78⟩ := im_of (l := l) (Gr := Gr) (n := n) (w := w) (d := d) hg htx hd h123 hF hB hI
          obtain ⟨Z, MZ, z3, bZ, pkZ, rZ, oZ, kz⟩ := cb_else (l := l) (Gr := Gr) (n := n) (w := w) (d := d) hg ho htx hs8 hd h125 t8.1 y t8.2.1 hj.2
          rw [← ep9] at MZ bZ
          obtain ⟨Y, ky, y7, y8, pkY⟩ := ob_F (l := l) (Gr := Gr) (n := n) (w := w) (x1 := 2) (x2 := nI j1) hg htx MZ (gp_wb hnp9.1) hdp hno z3.1 (by omega)
          rw [← ef] at y7
          have px9 : PX l Gr n w d T8 Y := px_else hg ho htx hs8 hd h125 hnp9.2.2 MZ.1 z kz (ky (d + 9))
          exact ⟨T7, run, PZ_of (nz hfz) (PX_tr px8 px9) y7 y8 (PK_tr pk78 (PK_tr (PK_0 (pkZ 0 (Nat.zero_le _))) (PK_0 pkY))), PK_0 pk7⟩
        · obtain ⟨S13, p13, i13, D13, vw13, hR, h125', e12⟩ := hR
          have hpt9' : p9 < t := tk_pos (by rw [h123']; decide)
          have hgt9' := np_gt (b := b) hpt9'
          have hpt13 : p13 < t := tk_pos (by rw [h125']; decide)
          have hgt13 := np_gt (b := b) hpt13
          have a1 := hR.2.2.1
          have a2 := hR.2.2.2.1
          have a3 := hR.2.2.2.2.1
          have sk1313 : SK S13 S12 i13 D13 := by rw [e12]; exact SK_wS
          exact fin S12 (np b t p13) i13 D13 vw13 (by rw [e12]; exact CN_CK hR.1 (CS_wS hR.1.1) CK_wS (by omega) (by omega)) (SK_tr sk1011 (SK_tr (SK_tr SK_wS hR.2.1) (SK_le sk1313 (by omega) (by omega)))) (by omega) (by omega) (by omega) ⟨by omega, by rw [e12]; exact Hx_wS (Hx_mono a3.2.2 (Int.le_refl _) (by omega))⟩ a2 (fun SF sk8F skXF rF T j N iw c hI => it_else hg ho htx hd h125 y ep9 z h123' (im_of hg htx hd h123 hF hB hI) hR h125' sk8F (SK_tr sk1313 skXF) rF)
        · refine bad S12 f pl (SB_tr (SK_tr (SK_0 sk1011) SK_wS) hR.1) (fun T j N iw c hI => ?_)
          obtain ⟨T7, T8, q8, j1, j8, N8, k8, run, px8, hs8, t8, hj, gx, g8, rT, hc, pk7, pk8, pk78⟩ := im_of (l := l) (Gr := Gr) (n := n) (w := w) (d := d) hg htx hd h123 hF hB hI
          obtain ⟨Z, MZ, z3, bZ, pkZ, rZ, oZ, kz⟩ := cb_else (l := l) (Gr := Gr) (n := n) (w := w) (d := d) hg ho htx hs8 hd h125 t8.1 y t8.2.1 hj.2
          rw [← ep9] at MZ bZ
          have bZ1 := bZ.1
          obtain ⟨T9, ko, hs9, t87, t88, pk9, tb9⟩ := ob_ok (l := l) (Gr := Gr) (n := n) (w := w) (s := j1) (K := 2) hg htx (by omega) MZ (gp_wb hnp9.1) h123' hd z3.1 z3.2.1 z3.2.2 ⟨by omega, bZ.2⟩
          have px9 : PX l Gr n w d T8 T9 := px_else hg ho htx hs8 hd h125 hnp9.2.2 MZ.1 z kz (ko (d + 9))
          exact ⟨T7, run, PZ_tr (PX_tr px8 px9) (PK_tr pk78 (PK_tr (PK_0 (pkZ 0 (Nat.zero_le _))) (PK_0 pk9))) (hR.2 T9 _ _ _ iw hs9 tb9), PK_0 pk7⟩
  · refine if_clE hg (by rw [hB.1.2.1]; exact nz hB.1.1) (Q := fun S' => IR l Gr n w d b t S S' p i Dn vw dp) (Or.inr ⟨f, pl, SB_tr (SK_tr (SK_0 sk06) SK_wS) hB.1, fun T j N iw c hI => ?_⟩)
    obtain ⟨T6, T7, j1, N6, run, hs7, t8, hj, pk67, tb7, mk6, gx, rT⟩ := im_open (l := l) (Gr := Gr) (n := n) (w := w) (d := d) hg htx hd h123 hF hI
    exact ⟨T7, run, hB.2 T7 _ _ _ iw hs7 tb7, PK_tr (PK_0 (PK_MK (k := 0) mk6)) (PK_0 pk67)⟩
end IFV
