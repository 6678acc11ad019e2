/-! readVar of both -/
section VA2
variable {l : Launch} {Gr : zG} {n w : Nat} {d : Nat} {b : Nat → Int32} {t p i ws dp p' i' q j m N X u k D D' vw iw s e : Nat} {S S' S'' T T' T'' : zS}
/-- behind VAR_NAME: [= EXPR] ; -/
theorem va_tail (hg : ip_gk (lg_tbl, vwCl, Gr)) (ho : ip_old (lg_tbl, vwCl, Gr)) (htx : ∀ k, k < t → tx (b k)) (hD : 6 ≤ D) (hdp : dp ≤ 30) (KE0 : KE l Gr n w d b t dp D) {Dn : Nat} {S5 : zS} {p1 p4 r z : Nat} (hk : tk b t p = 202) (hpt : p < t) (hip : i ≤ p) (hr : r ≤ 1) (hz : z ≤ 64) (hw : vw + max 1 z ≤ 256) (h5 : CN b t p4 (i + 2) (Dn + 1) (vw + max 1 z) S5) (sk5 : SK S S5 i Dn) (hp4 : p + 8 ≤ p4) (hd : dcl S5 Dn p1 1 r z vw) (rS : S5.1 4 i = 1 ∧ S5.1 6 i = nI p ∧ S5.1 4 (i + 1) = 6 ∧ S5.1 5 (i + 1) = nI Dn ∧ S5.1 6 (i + 1) = nI p1) (hV : VP l Gr n w d b t p p1 p4 r z dp vw) {s0 : Int32} : zW l Gr (zc n w) 168 M_Reader_readVar (D + 1) 85 [some (.ref 66), some (.int (nI dp)), some (.int (nI p1)), some (.int (nI Dn)), none] [.int s0] S5 (fun v S' => v = none ∧ SR l Gr n w d b t S S' p i Dn vw dp) := by
  obtain ⟨e, rfl⟩ : ∃ e, D = e + 6 := ⟨D - 6, by omega⟩
  have c5 := h5.1
  have ht := CS_t c5
  have hp4t := CS_p c5
  have wb4 := c5.2.2.2.2.2.2.2.2.1
  have dsp : ∀ {T T' q j N iw}, HS b t q j dp N vw iw p T → zMv l Gr (zc n w) 168 M_Mo_varStatement (d + 13) [.ref 105, .int (nI p)] (zi T 73 6 (nI p)) (fun A => A = T') → PX l Gr n w d T T' := fun hH hm => px_var hg ho htx hH (by omega) hk hm
  -- the reference from 166 on, and the class's end
  have fin : ∀ (has : Bool) (p6 i6 : Nat) (S6 : zS), CN b t p6 i6 (Dn + 1) (vw + max 1 z) S6 → SK S S6 i Dn → p4 ≤ p6 → i < i6 → i6 + p + 4 ≤ i + p6 → hxS S6 i i6 p p6 → (∀ T q j N iw, HS b t q j dp N vw iw p T → ∃ v Y q6 j6 N6, MC b t q6 j6 dp 0 N6 Y ∧ gp b t q6 = p6 ∧ PK b t T Y j dp ∧ P3 T Y ∧ bud b t (2 * dp + 12) j6 0 N6 q6 ∧ j + 2 ≤ j6 ∧ (∀ S' Z D', cgS S6 S' i i6 → cgU Y Z j j6 → (∀ v p, nid b t Y v p → nid b t Z v p) → nmS S6 S' (Dn + 1) → Z.1 78 j6 = 25 → Z.1 79 j6 = nI v → Z.1 80 j6 = nI r → Z.1 89 j6 = nI vw → Z.2 82 j6 = lN ((if has then 65536 else 0) + 256 * z) → Z.1 78 (j6 + 1) = 21 → gT w dp S' Z (nid b t Z) (Dn + 1) vw (vw + max 1 z) p i i6 j (j6 + 2)) ∧
      (∀ Q, zW l Gr (zc n w) 168 M_Mo_varStatement (d + 13) 166 [some (.ref 105), some (.int (nI p)), none, some (.int (nI p1)), some (.int (nI v)), some (.int (nI (max 1 z))), some (.int (nI r)), some (.int (nI z)), some (.int (if has then 1 else 0))] [] Y Q → zW l Gr (zc n w) 168 M_Mo_varStatement (d + 13) 0 (vL p) [] (zi T 73 6 (nI p)) Q)) → zW l Gr (zc n w) 168 M_Reader_readVar (e + 6 + 1) 147 [some (.ref 66), none, none, none, none] [] S6 (fun v S' => v = none ∧ SR l Gr n w d b t S S' p i Dn vw dp) := fun has p6 i6 S6 h6 sk6 hp6 hi6 hbd6 hx6 hR => by
    have c6 := h6.1
    have hp6t := CS_p c6
    refine b_Reader_readVar_147 hg (w_expect hg ho c6) (fun S7 h7 => b_Reader_readVar_153 ⟨rfl, ?_⟩)
    have run : ∀ T q j N iw, HS b t q j dp N vw iw p T → ∃ Z j6 q6 N6, MC b t q6 (j6 + 1) dp 0 N6 Z ∧ gp b t q6 = p6 ∧ PK b t T Z j dp ∧ Z.1 73 26 = T.1 73 26 ∧ Z.1 73 29 = T.1 73 29 ∧ Z.1 73 30 = nI (vw + max 1 z) ∧ bud b t (2 * dp + 12) j6 0 N6 q6 ∧ j + 2 ≤ j6 ∧ j6 + 2 < 12000 ∧ (∀ S' Z', cgS S6 S' i i6 → nmS S6 S' (Dn + 1) → MK b t Z Z' (j6 + 1) 0 → Z'.1 78 (j6 + 1) = 21 → gT w dp S' Z' (nid b t Z') (Dn + 1) vw (vw + max 1 z) p i i6 j (j6 + 2)) ∧
        (∀ Q, (tk b t p6 = 59 → zW l Gr (zc n w) 168 M_Mo_varStatement (d + 13) 239 (vL p) [] (zi Z 73 6 (nI (p6 + 1))) Q) → (¬ tk b t p6 = 59 → zW l Gr (zc n w) 168 M_Mo_varStatement (d + 13) 239 (vL p) [] (mF (zi Z 73 6 (nI p6)) 1 (nI p6)) Q) → zW l Gr (zc n w) 168 M_Mo_varStatement (d + 13) 0 (vL p) [] (zi T 73 6 (nI p)) Q) := fun T q j N iw hH => by
      obtain ⟨v, Y, q6, j6, N6, M, g6, pk, p3, bu, hj, gt, pre⟩ := hR T q j N iw hH
      have hq6 := MC_p2 M
      have b1 := bu.1
      obtain ⟨Z, MZ, pkZ, z26, z29, z30, ⟨y1, y2, y3, y4, y5⟩, kz⟩ := vs_5 (l := l) (Gr := Gr) (n := n) (w := w) (d := d) (k := dp) (p := p) (v := v) (r := r) (z := z) (p1 := p1) (has := has) hg htx M g6 (by omega) hz (p3.2.2.trans hH.1.2.2.1)
      refine ⟨Z, j6, q6, N6, MZ, g6, PK_tr pk (PK_le pkZ (by omega) (Nat.le_refl _)), z26.trans p3.1, z29.trans p3.2.1, z30, bu, hj, by omega, fun S' Z' cs hn mk h21 => ?_, fun Q ky kn => pre Q (kz Q ky kn)⟩
      have m6 := mk.1 j6 (Nat.zero_le _) (by omega)
      have u6 := mk.2.2.1 89 j6 (by omega)
      refine gt S' Z' (Dn + 1) cs ⟨fun a q1 q2 => ?_, fun a q1 q2 => ?_⟩ (fun v p x => mk.2.2.2.2.2 v p (pkZ.2.2.2.2.2.2 v p x)) hn (m6.1.trans y1) (m6.2.1.trans y2) (m6.2.2.1.trans y3) (u6.trans y4) (m6.2.2.2.2.trans y5) h21
      · have x := mk.1 a (Nat.zero_le _) (by omega)
        have y := pkZ.1 a (Nat.zero_le _) q2
        exact ⟨x.1.trans y.1, x.2.1.trans y.2.1, x.2.2.1.trans y.2.2.1, x.2.2.2.1.trans y.2.2.2.1, x.2.2.2.2.trans y.2.2.2.2⟩
      · exact (mk.2.2.1 89 a (by omega)).trans (pkZ.2.1 a q2)
    rcases h7 with ⟨k59, e7⟩ | ⟨k59, e7⟩
    · have hpt6 : p6 < t := tk_pos (by rw [k59]; decide)
      have hgt6 := np_gt (b := b) hpt6
      obtain ⟨te6, -⟩ := te_s htx hp6t (c := 59) (by decide) (by decide) (by decide) k59
      have c7 := CS_wS c6
      rw [e7]
      refine Or.inl ⟨np b t p6, i6, Dn + 1, vw + max 1 z, CN_CK h6 c7 CK_wS (by omega) (by omega), SK_tr sk6 SK_wS, by omega, by omega, ⟨by omega, hi6, Hx_mono (Hx_wS hx6) (Int.le_refl _) (by omega)⟩, fun T q j N iw hH hTB => ?_⟩
      obtain ⟨Z, j6, q6, N6, MZ, g6, pk, z26, z29, z30, bu, hj, hj6, gt, pre⟩ := run T q j N iw hH
      have hq6 : q6 ≤ p6 := by rw [← g6]; exact gp_ge (MC_p2 MZ)
      have b1 := bu.1
      have M7 : MC b t (p6 + 1) (j6 + 1) dp 0 N6 (zi Z 73 6 (nI (p6 + 1))) := MC_at MZ (by omega)
      obtain ⟨T8, eT8⟩ : ∃ T8, T8 = mP (zi Z 73 6 (nI (p6 + 1))) (j6 + 1) 21 0 0 (nI p) := ⟨_, rfl⟩
      have M8 : MC b t (p6 + 1) (j6 + 2) dp 0 N6 T8 := by rw [eT8]; exact MC_mP M7
      have mk8 : MK b t Z T8 (j6 + 1) 0 := by rw [eT8]; exact MK_tr (MK_zi (by omega)) (MK_mP (Nat.le_refl _))
      have r8 : T8.1 78 (j6 + 1) = 21 := by rw [eT8]; exact mP_r.1
      have p8 := P3_MK mk8
      refine ⟨T8, p6 + 1, j6 + 2, N6, dsp hH (e_Mo_varStatement (pre _ (fun _ => ?_) (fun y => absurd k59 y))), ⟨⟨M8, p8.1.trans (z26.trans hH.1.2.1), p8.2.2.trans z30, p8.2.1.trans (z29.trans hH.1.2.2.2)⟩, by rw [np, te6], ⟨by omega, by omega, nb_le bu.2.2 (by omega)⟩⟩, PK_tr pk (PK_MK (MK_le mk8 (by omega) (Nat.le_refl _))), gt _ T8 (fun a q1 q2 => CK_wS (ws := 0) (i := i6) |>.1 a (Nat.zero_le _) q2) (SK_wS (i := 0) (D := Dn + 1)).2.1 mk8 r8⟩
      refine b_Mo_varStatement_239 hg (wm_put (MC_13 M7) (by omega)) (fun a A hv => b_Mo_varStatement_248 ⟨rfl, ?_⟩)
      rw [hv.2, eT8]
    · rw [e7]
      refine Or.inr ⟨1, nI p6, SB_F (by decide) (SK_0 sk6), fun T q j N iw hH hTB => ?_⟩
      obtain ⟨Z, j6, q6, N6, MZ, g6, pk, z26, z29, z30, bu, hj, hj6, gt, pre⟩ := run T q j N iw hH
      obtain ⟨T8, eT8⟩ : ∃ T8, T8 = mP (mF (zi Z 73 6 (nI p6)) 1 (nI p6)) (j6 + 1) 21 0 0 (nI p) := ⟨_, rfl⟩
      refine PZ_of (T' := T8) (by decide) (dsp hH (e_Mo_varStatement (pre _ (fun y => absurd y k59) (fun _ => ?_)))) (by rw [eT8, mP_k (by decide)]; exact mF_f.1) (by rw [eT8, mP_k (by decide)]; exact mF_f.2) (PK_tr (PK_0 pk) (by rw [eT8]; exact PK_MK (m := 0) (MK_tr (MK_tr (MK_zi (by omega)) MK_mF) (MK_mP (by omega)))))
      refine b_Mo_varStatement_239 hg (wm_put (j := j6 + 1) (by rw [mF_k (by decide), zi_k (by decide)]; exact MC_13 MZ) (by omega)) (fun a A hv => b_Mo_varStatement_248 ⟨rfl, ?_⟩)
      rw [hv.2, eT8]
  refine b_Reader_readVar_85 (fun z61 => ?_) (fun z61 => ?_)
  · rw [CS_k c5] at z61
    refine b_Reader_readVar_135 hg (w_add hg (CS_f c5) (CS_n c5) (by omega)) (fun v A hv => b_Reader_readVar_146 ?_)
    rw [hv.2]
    have h6 : CS b t p4 (i + 2 + 1) 0 (cA S5 (i + 2) 8 (nI Dn) (nI p1) 0) := CS_cA c5
    have r6 := cA_r (S := S5) (i0 := i + 2) (x1 := 8) (x2 := nI Dn) (x3 := nI p1) (x4 := 0)
    have o6 : ∀ a, a < i + 2 → (cA S5 (i + 2) 8 (nI Dn) (nI p1) 0).1 4 a = S5.1 4 a ∧ (cA S5 (i + 2) 8 (nI Dn) (nI p1) 0).1 5 a = S5.1 5 a ∧ (cA S5 (i + 2) 8 (nI Dn) (nI p1) 0).1 6 a = S5.1 6 a ∧ (cA S5 (i + 2) 8 (nI Dn) (nI p1) 0).1 7 a = S5.1 7 a := fun a ha => cA_o (by omega)
    have ck6 : CK S5 (cA S5 (i + 2) 8 (nI Dn) (nI p1) 0) (i + 2) 0 := CK_cA (Nat.le_refl _)
    obtain ⟨S6, eS6⟩ : ∃ S6, S6 = cA S5 (i + 2) 8 (nI Dn) (nI p1) 0 := ⟨_, rfl⟩
    rw [← eS6] at h6 r6 o6 ck6 ⊢
    refine fin false p4 (i + 3) S6 (CN_CK h5 h6 (CK_le ck6 (Nat.zero_le _) (Nat.le_refl _)) (by omega) (by omega)) (SK_tr sk5 (SK_CK (CK_le ck6 (by omega) (Nat.le_refl _)))) (Nat.le_refl _) (by omega) (by omega) (Hx_cs ((o6 i (by omega)).1.trans rS.1) (by decide) (by decide) (by decide) (Hx_cs ((o6 (i + 1) (by omega)).1.trans rS.2.2.1) (by decide) (by decide) (by decide) (Hx_cs r6.1 (by decide) (by decide) (by decide) (Hx_nil (by omega) (by omega)) (by omega) (by omega)) (by omega) (by omega)) (by omega) (by omega)) (fun T q j N iw hH => ?_)
    obtain ⟨v, T5, N5, hid, M5, pk5, p35, nb5, bj, rT, pre⟩ := hV T q j N iw hH
    refine ⟨v, T5, p4, j + 2, N5, M5, gp_wb wb4, pk5, p35, ⟨by omega, by omega, nb5⟩, Nat.le_refl _, fun S' Z D' cs ct ni hn y1 y2 y3 y4 y5 y6 => ?_, fun Q kk => pre Q ?_⟩
    · have s0 := cs i (by omega) (by omega)
      have s1 := cs (i + 1) (by omega) (by omega)
      have s2 := cs (i + 2) (by omega) (by omega)
      have k0 := o6 i (by omega)
      have k1 := o6 (i + 1) (by omega)
      have t0 := ct.1 j (by omega) (by omega)
      have t1 := ct.1 (j + 1) (by omega) (by omega)
      have dc6 : dcl S6 Dn p1 1 r z vw := ⟨(ck6.2.2.1 9 Dn (by omega) (by omega)).trans hd.1, (ck6.2.2.1 11 Dn (by omega) (by omega)).trans hd.2.1, (ck6.2.2.1 12 Dn (by omega) (by omega)).trans hd.2.2.1, (ck6.2.2.1 13 Dn (by omega) (by omega)).trans hd.2.2.2.1, (ck6.2.2.1 14 Dn (by omega) (by omega)).trans hd.2.2.2.2⟩
      refine gT_var hdp ⟨Dn, v, p1, r, z, vw, j + 2, by omega, ni _ _ hid, dcl_cong dc6 (by omega) hn, hr, hz, ⟨hw, rfl, rfl⟩, rfl, s0.1.trans (k0.1.trans rS.1), s0.2.2.1.trans (k0.2.2.1.trans rS.2.1), s1.1.trans (k1.1.trans rS.2.2.1), s1.2.1.trans (k1.2.1.trans rS.2.2.2.1), s1.2.2.1.trans (k1.2.2.1.trans rS.2.2.2.2), t0.1.trans rT.1, t0.2.2.2.1.trans rT.2.1, t1.1.trans rT.2.2.1, t1.2.1.trans rT.2.2.2.1, t1.2.2.2.1.trans rT.2.2.2.2, y1, y2, y3, y4, y6, Or.inr ⟨rfl, rfl, s2.1.trans r6.1, s2.2.1.trans r6.2.1, ?_⟩⟩
      rw [y5]
      show lN (0 + 256 * z) = _
      rw [Nat.zero_add]
    · refine b_Mo_varStatement_131 hg (wm_isSign hg M5.1) (fun a A hv => ?_)
      rw [hv.1, hv.2, if_neg (fun y => z61 ((tk_sg htx hp4t (by decide) (by decide) (by decide)).mp y))]
      exact b_Mo_varStatement_137 (fun _ => b_Mo_varStatement_158 (fun _ => kk) (fun y => absurd (by rw [MC_f M5]; exact Int32.le_refl _) y)) (fun y => absurd rfl y)
  · rw [CS_k c5] at z61
    have hpt4 : p4 < t := tk_pos (by rw [z61]; decide)
    have hgt4 := np_gt (b := b) hpt4
    obtain ⟨te4, -⟩ := te_s htx hp4t (c := 61) (by decide) (by decide) (by decide) z61
    refine b_Reader_readVar_98 hg (w_adv hg ho c5) (fun A eA => ?_)
    rw [eA]
    have c6 := CS_wS c5
    obtain ⟨p5, ep5⟩ : ∃ p5, p5 = np b t p4 := ⟨_, rfl⟩
    rw [← ep5] at c6 hgt4 ⊢
    have g45 : gp b t (p4 + 1) = p5 := by rw [ep5, np, te4]
    refine b_Reader_readVar_105 hg (KE0 _ _ _ _ c6 (by omega) (by omega)) (fun S6 hE => ?_)
    rw [CS_s c6]
    -- the reference up to the EXPR
    have st : ∀ T q j N iw, HS b t q j dp N vw iw p T → ∃ v T5 T6 N5, nid b t T6 v p1 ∧ MC b t (p4 + 1) (j + 2) dp 0 N5 T6 ∧ T6 = zi T5 73 6 (nI (p4 + 1)) ∧ PK b t T T6 j dp ∧ P3 T T6 ∧ bud b t (2 * dp + 12) (j + 2) 0 N5 (p4 + 1) ∧ (T6.1 78 j = 20 ∧ T6.1 81 j = nI p ∧ T6.1 78 (j + 1) = 24 ∧ T6.1 79 (j + 1) = nI v ∧ T6.1 81 (j + 1) = nI p1) ∧
        (∀ Y, zMv l Gr (zc n w) 168 M_Mo_expression (d + 12) [.ref 105] T6 (fun A => A = Y) → ∀ Q, zW l Gr (zc n w) 168 M_Mo_varStatement (d + 13) 158 [some (.ref 105), some (.int (nI p)), none, some (.int (nI p1)), some (.int (nI v)), some (.int (nI (max 1 z))), some (.int (nI r)), some (.int (nI z)), some (.int 1)] [] Y Q → zW l Gr (zc n w) 168 M_Mo_varStatement (d + 13) 0 (vL p) [] (zi T 73 6 (nI p)) Q) := fun T q j N iw hH => by
      obtain ⟨v, T5, N5, hid, M5, pk5, p35, nb5, bj, rT, pre⟩ := hV T q j N iw hH
      have mk6 : MK b t T5 (zi T5 73 6 (nI (p4 + 1))) (j + 2) 0 := MK_zi (by omega)
      refine ⟨v, T5, zi T5 73 6 (nI (p4 + 1)), N5, nid_MK hid mk6, MC_at M5 (by omega), rfl, PK_tr pk5 (PK_MK (MK_le mk6 (by omega) (Nat.le_refl _))), P3_tr p35 (P3_MK mk6), ⟨by omega, by omega, nb_le nb5 (by omega)⟩, ?_, fun Y ky Q kk => pre Q ?_⟩
      · rw [zi_c (by decide), zi_c (by decide), zi_c (by decide), zi_c (by decide), zi_c (by decide)]
        exact rT
      · refine b_Mo_varStatement_131 hg (wm_isSign hg M5.1) (fun a A hv => ?_)
        rw [hv.1, hv.2, if_pos ((tk_sg htx hp4t (by decide) (by decide) (by decide)).mpr z61)]
        refine b_Mo_varStatement_137 (fun y => absurd y (by decide)) (fun _ => b_Mo_varStatement_144 (R := fun A => A = Y) hg ?_ (fun A eA => by rw [eA]; exact kk))
        rw [MC_6 M5, nI_1]
        exact ky
    rcases hE with ⟨p6, i6, hE⟩ | ⟨f, pl, hE⟩
    · have c7 := hE.1
      have ck7 := hE.2.1
      have hlt7 := hE.2.2.1
      have hbd7 := hE.2.2.2.1
      have hp6 := CS_p c7
      have wb6 := c7.2.2.2.2.2.2.2.2.1
      refine b_Reader_readVar_119 hg (w_add hg (CS_f c7) (CS_n c7) (by omega)) (fun v A hv => b_Reader_readVar_131 ?_)
      rw [hv.2]
      have h8 : CS b t p6 (i6 + 1) 0 (cA S6 i6 7 (nI Dn) (nI p5) 0) := CS_cA c7
      have r8 := cA_r (S := S6) (i0 := i6) (x1 := 7) (x2 := nI Dn) (x3 := nI p5) (x4 := 0)
      have o8 : ∀ a, a < i6 → (cA S6 i6 7 (nI Dn) (nI p5) 0).1 4 a = S6.1 4 a ∧ (cA S6 i6 7 (nI Dn) (nI p5) 0).1 5 a = S6.1 5 a ∧ (cA S6 i6 7 (nI Dn) (nI p5) 0).1 6 a = S6.1 6 a ∧ (cA S6 i6 7 (nI Dn) (nI p5) 0).1 7 a = S6.1 7 a := fun a ha => cA_o (by omega)
      have ck57 : CK S5 S6 (i + 2) 0 := CK_tr CK_wS ck7
      have ck8 : CK S5 (cA S6 i6 7 (nI Dn) (nI p5) 0) (i + 2) 0 := CK_tr ck57 (CK_cA (by omega))
      obtain ⟨S8, eS8⟩ : ∃ S8, S8 = cA S6 i6 7 (nI Dn) (nI p5) 0 := ⟨_, rfl⟩
      rw [← eS8] at h8 r8 o8 ck8 ⊢
      have hx8 : hxS S8 i (i6 + 1) p p6 := by
        have A : Hx S8 (i + 2) i6 1 1 341 ((p6 : Int) - p) := by rw [eS8]; exact Hx_cA (Hx_mono hbd7.2.2 (by omega) (by omega)) (Nat.le_refl _)
        have A2 := Hx_cs ((ck8.1 i (Nat.zero_le _) (by omega)).1.trans rS.1) (by decide) (by decide) (by decide) (Hx_cs ((ck8.1 (i + 1) (Nat.zero_le _) (by omega)).1.trans rS.2.2.1) (by decide) (by decide) (by decide) A (by omega) (by omega)) (by omega) (by omega)
        exact Hx_eq (Hx_sn (e1 := -1) (e2 := -1) A2 r8.1 (by decide) (by decide) (by decide) (by omega) (by omega)) (by omega) (by omega)
      refine fin true p6 (i6 + 1) S8 (CN_CK h5 h8 (CK_le ck8 (Nat.zero_le _) (Nat.le_refl _)) (by omega) (by omega)) (SK_tr sk5 (SK_CK (CK_le ck8 (by omega) (Nat.le_refl _)))) (by omega) (by omega) (by omega) hx8 (fun T q j N iw hH => ?_)
      obtain ⟨v, T5, T6, N5, hid, M6, -, pk6, p36, b6, rT, pre⟩ := st T q j N iw hH
      obtain ⟨Y, j6, N6, kx, MY, mkY, bY, gx⟩ := x_okD (D := d + 11) (by omega) hg htx hdp hE M6 g45 b6
      have bx := gX_bnd gx
      refine ⟨v, Y, p6, j6, N6, MY, gp_wb wb6, PK_tr pk6 (PK_MK (MK_le mkY (by omega) (Nat.le_refl _))), P3_tr p36 (P3_MK mkY), bY, by omega, fun S' Z D' cs ct ni hn y1 y2 y3 y4 y5 y6 => ?_, fun Q kk => pre Y kx Q (b_Mo_varStatement_158 (fun _ => kk) (fun y => absurd (by rw [MC_f MY]; exact Int32.le_refl _) y))⟩
      have s0 := cs i (by omega) (by omega)
      have s1 := cs (i + 1) (by omega) (by omega)
      have s2 := cs i6 (by omega) (by omega)
      have k0 := ck8.1 i (Nat.zero_le _) (by omega)
      have k1 := ck8.1 (i + 1) (Nat.zero_le _) (by omega)
      have t0 := ct.1 j (by omega) (by omega)
      have t1 := ct.1 (j + 1) (by omega) (by omega)
      have u0 := mkY.1 j (Nat.zero_le _) (by omega)
      have u1 := mkY.1 (j + 1) (Nat.zero_le _) (by omega)
      have dc8 : dcl S8 Dn p1 1 r z vw := ⟨(ck8.2.2.1 9 Dn (by omega) (by omega)).trans hd.1, (ck8.2.2.1 11 Dn (by omega) (by omega)).trans hd.2.1, (ck8.2.2.1 12 Dn (by omega) (by omega)).trans hd.2.2.1, (ck8.2.2.1 13 Dn (by omega) (by omega)).trans hd.2.2.2.1, (ck8.2.2.1 14 Dn (by omega) (by omega)).trans hd.2.2.2.2⟩
      refine gT_var hdp ⟨Dn, v, p1, r, z, vw, j6, by omega, ni _ _ (mkY.2.2.2.2.2 _ _ hid), dcl_cong dc8 (by omega) hn, hr, hz, ⟨hw, rfl, rfl⟩, rfl, s0.1.trans (k0.1.trans rS.1), s0.2.2.1.trans (k0.2.2.1.trans rS.2.1), s1.1.trans (k1.1.trans rS.2.2.1), s1.2.1.trans (k1.2.1.trans rS.2.2.2.1), s1.2.2.1.trans (k1.2.2.1.trans rS.2.2.2.2), t0.1.trans (u0.1.trans rT.1), t0.2.2.2.1.trans (u0.2.2.2.1.trans rT.2.1), t1.1.trans (u1.1.trans rT.2.2.1), t1.2.1.trans (u1.2.1.trans rT.2.2.2.1), t1.2.2.2.1.trans (u1.2.2.2.1.trans rT.2.2.2.2), y1, y2, y3, y4, y6, Or.inl ⟨p5, i6, gX_cong ni gx (fun a q1 q2 => ?_) (fun a q1 q2 => ct.1 a (by omega) q2), rfl, s2.1.trans r8.1, s2.2.1.trans r8.2.1, s2.2.2.1.trans r8.2.2.1, y5⟩⟩
      have x := cs a (by omega) (by omega)
      have y := o8 a q2
      exact ⟨x.1.trans y.1, x.2.1.trans y.2.1, x.2.2.1.trans y.2.2.1, x.2.2.2.trans y.2.2.2⟩
    · have f1 : ¬ S6.1 3 5 = 0 := by rw [hE.1.2.1]; exact nz hE.1.1
      refine b_Reader_readVar_119 hg (w_addN hg f1) (fun v A hv => b_Reader_readVar_131 ?_)
      rw [hv.2]
      refine b_Reader_readVar_147 hg (w_expectN hg f1) (fun A eA => b_Reader_readVar_153 ⟨rfl, ?_⟩)
      rw [eA]
      refine Or.inr ⟨f, pl, SB_CB (SK_tr (SK_0 sk5) SK_wS) hE.1, fun T q j N iw hH hTB => ?_⟩
      obtain ⟨v, T5, T6, N5, hid, M6, -, pk6, p36, b6, rT, pre⟩ := st T q j N iw hH
      obtain ⟨Y, kx, y7, y8, mkY, -⟩ := x_badD (D := d + 11) (by omega) hE M6 g45 b6
      refine PZ_of (T' := Y) (nz hE.1.1) (dsp hH (e_Mo_varStatement (pre Y kx _ (b_Mo_varStatement_158 (fun y => ?_) (fun _ => b_Mo_varStatement_165 ⟨rfl, rfl⟩))))) y7 y8 (PK_tr (PK_0 pk6) (PK_MK mkY))
      rw [y7] at y
      exact absurd y hE.1.1
end VA2
