/-! readExpr, and all EXPRs -/
section RD7
variable {l : Launch} {Gr : zG} {n w : Nat} {d : Nat} {b : Nat → Int32} {t p i ws dp p' i' q j m N X c : Nat} {S S' T T' : zS}
theorem HE_HC (h : HE b t q j dp m N X c p T) : HC b t q j dp m N X p T := by
  obtain ⟨hC, hgq, hb, hcm, hcd, hco, hbo, htop⟩ := h
  refine ⟨hC, hgq, hb, ?_⟩
  by_cases z : m = 0
  · exact Or.inl z
  · right
    refine ⟨?_, htop.elim (fun y => absurd y z) id⟩
    by_cases y : c = 0
    · subst y
      rcases hbo with hbo | hbo
      · omega
      · rw [show m - 1 = m - 1 - 0 by omega]; exact hbo.2
    · rw [show m - 1 = m - 1 - 0 by omega, hco 0 (by omega)]; decide
/-- a CHOICE that is all of an EXPR -/
theorem et_c (hdp : dp ≤ 30) (h : HE b t q j dp m N X c p T) (hT : CT l Gr n w d b t S' T p i p' i' j dp m X) : ET l Gr n w d b t S' T p i p' i' j dp m X c := by
  obtain ⟨T', q', x, os, j1, N', rx, hM, hgp, hK, hb, hbin, hj, hl, hY⟩ := hT
  obtain ⟨hC, hgq, hbd, hcm, hcd, hco, hbo, htop⟩ := h
  refine ⟨T', q', x, os, j1, 0, N', rx, hM, hgp, hK, hb, hbin, by omega, hj, hl, fun k hk => ?_, fun Y mk => ?_⟩
  · rw [show m + 0 - 1 - k = m - 1 - k from rfl, (hK.2.1 (m - 1 - k) (by omega)).1]
    exact hco k (by omega)
  · have hX := hY Y mk
    have bx := gX_bnd hX
    have mkC := mCo_MK (b := b) (t := t) (j0 := j1 + x) (m0 := 0) (c + 0) (mRd x Y j1 (m + 0 + x)) (j1 + x) (dp + 0) (m + 0) (Nat.le_refl _)
    refine ⟨gX_cong (fun _ _ z => z) hX cgS_rfl (fun k q1 q2 => mkC.1 k (Nat.zero_le _) q2), fun k hk => ?_⟩
    have r := mCo_r (c + 0) (mRd x Y j1 (m + 0 + x)) (j1 + x) (dp + 0) (m + 0) k hk
    refine ⟨r.1, r.2.trans ?_⟩
    rw [mRd_c (by decide), show m + 0 - 1 - k = m - 1 - k from rfl, (mk.2.1 (m - 1 - k) (by omega)).2.2.1, (hK.2.1 (m - 1 - k) (by omega)).2.2.1]
/-- CHOICE ? : the first EXPR may begin -/
theorem et_q1 (hg : ip_gk (lg_tbl, vwCl, Gr)) (htx : ∀ k, k < t → tx (b k)) (hd : dp < 30) (h : HE b t q j dp m N X c p T) {p1 i1 : Nat} (hT : CT l Gr n w d b t S' T p i p1 i1 j dp m X) (h63 : tk b t p1 = 63) : ∃ T1 j2 N', RX l Gr n w d T 1 T1 1 ∧ HE b t (p1 + 1) j2 (dp + 1) (m + 1) N' X 0 (np b t p1) T1 ∧ MK b t T T1 j m ∧ T1.1 83 m = 3 ∧ T1.1 85 m = nI p1 ∧ gX w S' T1 (nid b t T1) p i i1 j j2 := by
  obtain ⟨T', q', x, os, j1, N', rx, hM, hgp, hK, hb, hbin, hj, hl, hY⟩ := hT
  have hH := HE_HC h
  have hp1 : p1 ≤ t := (MC_p hM hgp).1.2.2.2.1
  obtain ⟨et, hpt⟩ := te_s htx hp1 (c := 63) (by decide) (by decide) (by decide) h63
  have ht := hM.1.2.2.2.2
  have hqp : q' ≤ p1 := by rw [← hgp]; exact gp_ge hM.1.2.2.2.1
  have hb1 := hb.1
  have hb2 := hb.2.1
  have hm1 : m = 0 ∨ ¬ T'.1 83 (m - 1) = 1 := by
    by_cases z : m = 0
    · exact Or.inl z
    · right
      rw [(hK.2.1 (m - 1) (by omega)).1]
      exact hH.2.2.2.elim (fun y => absurd y z) (fun y => y.1)
  have rx2 := rx_q (l := l) (Gr := Gr) (n := n) (w := w) (d := d) (os := os) (y := x) hg htx hM hgp h63 (by omega) (by omega) hbin hm1 hd
  obtain ⟨Y, eY⟩ : ∃ Y, Y = mRd x (zi T' 73 6 (nI p1)) j1 (m + x) := ⟨_, rfl⟩
  have hX := hY (zi T' 73 6 (nI p1)) (MK_zi (by omega))
  rw [← eY] at rx2 hX
  have hMY : MC b t p1 (j1 + x) dp m N' Y := by
    rw [eY]
    have := mRd_MC x _ j1 (m + x) (MC_p hM hgp) (by omega)
    rw [show m + x - x = m by omega] at this
    exact this
  have mkY : MK b t T' Y j1 m := by rw [eY]; exact MK_tr (MK_zi (by omega)) (mRd_MK x _ j1 (m + x) (Nat.le_refl _))
  obtain ⟨T1, eT1⟩ : ∃ T1, T1 = zi (mU (zi Y 73 19 (nI (dp + 1))) m 3 0 (nI p1)) 73 6 (nI (p1 + 1)) := ⟨_, rfl⟩
  rw [← eT1] at rx2
  have hM1 : MC b t (p1 + 1) (j1 + x) (dp + 1) (m + 1) N' T1 := by rw [eT1]; exact MC_at (MC_mU (MC_dp hMY)) (by omega)
  have mk1 : MK b t Y T1 (j1 + x) m := by rw [eT1]; exact MK_tr (MK_tr (MK_zi (by omega)) (MK_mU (by omega))) (MK_zi (by omega))
  have r := mU_r (T := zi Y 73 19 (nI (dp + 1))) (m0 := m) (x1 := 3) (x2 := 0) (x3 := nI p1)
  have e83 : T1.1 83 m = 3 := by rw [eT1, zi_c (by decide)]; exact r.1
  have e85 : T1.1 85 m = nI p1 := by rw [eT1, zi_c (by decide)]; exact r.2.2.1
  refine ⟨T1, j1 + x, N', RX_tr rx rx2, ⟨hM1, by rw [np, et], ⟨by omega, by omega, nb_up hb.2.2 (by omega)⟩, Nat.zero_le _, Nat.zero_le _, fun k hk => absurd hk (Nat.not_lt_zero k), Or.inr ?_, Or.inr ?_⟩, MK_tr hK (MK_tr (MK_le mkY (by omega) (Nat.le_refl _)) (MK_le mk1 (by omega) (Nat.le_refl _))), e83, e85, gX_cong (fun v p z => mk1.2.2.2.2.2 v p (mkY.2.2.2.2.2 v p z)) hX cgS_rfl (fun k q1 q2 => mk1.1 k (Nat.zero_le _) q2)⟩
  · rw [show m + 1 - 1 - 0 = m by omega, e83]; decide
  · rw [show m + 1 - 1 = m by omega, e83]; decide
theorem et_qF (hg : ip_gk (lg_tbl, vwCl, Gr)) (htx : ∀ k, k < t → tx (b k)) (h : HE b t q j 30 m N X c p T) {p1 i1 : Nat} (hT : CT l Gr n w d b t S' T p i p1 i1 j 30 m X) (h63 : tk b t p1 = 63) : ZF l Gr n w d b t T 3 (nI p1) := by
  obtain ⟨T', q', x, os, j1, N', rx, hM, hgp, hK, hb, hbin, hj, hl, hY⟩ := hT
  have hH := HE_HC h
  have ht := hM.1.2.2.2.2
  have hq := hM.1.2.2.2.1
  have hb1 := hb.1
  have hb2 := hb.2.1
  have hm1 : m = 0 ∨ ¬ T'.1 83 (m - 1) = 1 := by
    by_cases z : m = 0
    · exact Or.inl z
    · right
      rw [(hK.2.1 (m - 1) (by omega)).1]
      exact hH.2.2.2.elim (fun y => absurd y z) (fun y => y.1)
  obtain ⟨T2, ex, f7, f8, mk2⟩ := rx_qF (l := l) (Gr := Gr) (n := n) (w := w) (d := d) (os := os) (y := x) hg htx hM hgp h63 (by omega) (by omega) hbin hm1
  exact ⟨T2, RX_EX rx ex, f7, f8, MK_tr (MK_le hK (Nat.zero_le _) (Nat.zero_le _)) mk2⟩
/-- CHOICE ? EXPR : -/
theorem et_q2 (hg : ip_gk (lg_tbl, vwCl, Gr)) (htx : ∀ k, k < t → tx (b k)) (hd : dp < 30) (h : HE b t q j dp m N X c p T) {T1 S2 : zS} {p1 p2 p3 i1 i3 j2 : Nat} (rx1 : RX l Gr n w d T 1 T1 1) (mk1 : MK b t T T1 j m) (e83 : T1.1 83 m = 3) (e85 : T1.1 85 m = nI p1) (g1 : gX w S' T1 (nid b t T1) p i i1 j j2) (hE : E0 l Gr n w d b t S2 T1 p2 i1 p3 i3 j2 (dp + 1) (m + 1) X) (ho : okn (tk b t p3) = 0) (h63 : ¬ tk b t p3 = 63) :
    (tk b t p3 = 58 → ∃ T3 j3 N3, RX l Gr n w d T 1 T3 1 ∧ HE b t (p3 + 1) j3 (dp + 1) (m + 1) N3 X (c + 1) (np b t p3) T3 ∧ MK b t T T3 j m ∧ T3.1 85 m = nI p1 ∧ gX w S' T3 (nid b t T3) p i i1 j j2 ∧ gX w S2 T3 (nid b t T3) p2 i1 i3 j2 j3) ∧ (¬ tk b t p3 = 58 → ZF l Gr n w d b t T 1 (nI p3)) := by
  obtain ⟨T', Y, q', ja, d1, m1, j3, N', rx, hM, hgp, h51, hY, hK, hb, hX, h25⟩ := hE
  obtain ⟨hC, hgq, hbd, hcm, hcd, hco, hbo, htop⟩ := h
  have hp3 := hY.1.2.2.2.1
  have ht := hY.1.2.2.2.2
  have hb1 := hb.1
  have hb2 := hb.2.1
  have k := hK.2.1 m (by omega)
  have f83 : Y.1 83 m = 3 := k.1.trans e83
  have f85 : Y.1 85 m = nI p1 := k.2.2.1.trans e85
  have bx := gX_bnd hX
  have b1 := gX_bnd g1
  constructor
  · intro h58
    obtain ⟨et, hpt⟩ := te_s htx hp3 (c := 58) (by decide) (by decide) (by decide) h58
    obtain ⟨T3, eT3⟩ : ∃ T3, T3 = zi (zi (zi Y 83 m 4) 73 6 (nI (p3 + 1))) 73 25 1 := ⟨_, rfl⟩
    have key : ∀ Q : Option Value → zS → Prop, Q (some (.int 1)) T3 → zW l Gr (zc n w) 168 M_Mo_closes (d + 9) 0 [some (.ref 105), some (.int 0), none, none, none, none, none] [] (zi T' 73 6 (nI p3)) Q := fun Q q1 =>
      h51 Q (cl_51 (d := d + 6) hg htx hY (by omega) (by omega) (fun _ _ => by rw [eT3] at q1; exact q1) (fun z => by rw [h58] at z; exact absurd z (by decide)) (fun z => by rw [h58] at z; rcases z with z | z <;> exact absurd z.1 (by decide)) (fun z _ _ => absurd ⟨h58, f83⟩ z))
    have rx2 := rx_cl (d := d) (T' := T3) hg htx hM hgp ho h63 (e_Mo_closes (key _ ⟨_, rfl, Or.inr rfl, rfl, rfl⟩))
    rw [show T3.1 73 25 = 1 from by rw [eT3]; exact zi_v] at rx2
    have hM3 : MC b t (p3 + 1) j3 (dp + 1) (m + 1) N' T3 := by rw [eT3]; exact MC_25 (MC_at (MC_o hY (by omega)) (by omega))
    have mk3 : MK b t Y T3 j3 m := by rw [eT3]; exact MK_tr (MK_tr (MK_zi (by omega)) (MK_zi (by omega))) (MK_zi (by omega))
    have g83 : T3.1 83 m = 4 := by rw [eT3, zi_c (by decide), zi_c (by decide)]; exact zi_v
    have g85 : T3.1 85 m = nI p1 := by rw [eT3, zi_c (by decide), zi_c (by decide), zi_c (by decide)]; exact f85
    have mkT : MK b t T T3 j m := MK_tr mk1 (MK_tr (MK_le hK (by omega) (by omega)) (MK_le mk3 (by omega) (Nat.le_refl _)))
    refine ⟨T3, j3, N', RX_tr rx1 (RX_tr rx rx2), ⟨hM3, by rw [np, et], ⟨by omega, by omega, nb_up hb.2.2 (by omega)⟩, by omega, by omega, fun k hk => ?_, ?_, Or.inr ?_⟩, mkT, g85, gX_cong (fun v p z => mk3.2.2.2.2.2 v p (hK.2.2.2.2.2 v p z)) g1 cgS_rfl (fun k q1 q2 => ?_), gX_cong mk3.2.2.2.2.2 hX cgS_rfl (fun k q1 q2 => mk3.1 k (Nat.zero_le _) q2)⟩
    · by_cases z : k = 0
      · subst z; exact g83
      · rw [show m + 1 - 1 - k = m - 1 - (k - 1) by omega, (mkT.2.1 (m - 1 - (k - 1)) (by omega)).1]
        exact hco (k - 1) (by omega)
    · by_cases z : c = m
      · left; omega
      · right
        rw [show m + 1 - 1 - (c + 1) = m - 1 - c by omega, (mkT.2.1 (m - 1 - c) (by omega)).1]
        exact hbo.elim (fun y => absurd y z) id
    · rw [show m + 1 - 1 = m by omega, g83]; decide
    · have x := hK.1 k (Nat.zero_le _) (by omega)
      have y := mk3.1 k (Nat.zero_le _) (by omega)
      exact ⟨y.1.trans x.1, y.2.1.trans x.2.1, y.2.2.1.trans x.2.2.1, y.2.2.2.1.trans x.2.2.2.1, y.2.2.2.2.trans x.2.2.2.2⟩
  · intro n58
    refine ze_bad hg htx (Y := Y) (RX_tr rx1 rx) hM hgp ho h63 (fun Q k => h51 Q (cl_51 (d := d + 6) hg htx hY (by omega) (by omega) (fun z => absurd z n58) (fun _ z => ?_) (fun z => ?_) (fun _ _ _ => k))) (MK_tr (MK_le mk1 (Nat.zero_le _) (Nat.zero_le _)) (MK_le hK (Nat.zero_le _) (Nat.zero_le _)))
    · rw [show m + 1 - 1 = m by omega, f83] at z; exact absurd z (by rintro (y | y) <;> exact absurd y.1 (by decide))
    · rw [show m + 1 - 1 = m by omega, f83] at z
      rcases z with z | z
      · exact absurd z.2 (by rintro (y | y | y | y) <;> first | exact absurd y (by decide) | exact absurd y.1 (by decide))
      · exact absurd z.2 (by decide)
/-- CHOICE ? EXPR : EXPR -/
theorem et_q3 {T3 S2 S3 : zS} {p1 p2 p4 p5 i1 i3 i5 j2 j3 : Nat} (rx3 : RX l Gr n w d T 1 T3 1) (mkT : MK b t T T3 j m) (hcm : c ≤ m) (e85 : T3.1 85 m = nI p1) (g1 : gX w S2 T3 (nid b t T3) p i i1 j j2) (g2 : gX w S2 T3 (nid b t T3) p2 i1 i3 j2 j3) (hE : ET l Gr n w d b t S3 T3 p4 i3 p5 i5 j3 (dp + 1) (m + 1) X (c + 1)) (cs1 : cgS S2 S' i i3) (cs3 : cgS S3 S' i3 i5) (s1 : S'.1 4 i5 = 37) (s2 : S'.1 6 i5 = nI p1) : ET l Gr n w d b t S' T p i p5 (i5 + 1) j dp m X c := by
  obtain ⟨T4, q4, x, os, j4, e, N4, rx4, hM, hgp, hK, hb, hbin, he, hj, hl, hco, hY⟩ := hE
  have b1 := gX_bnd g1
  have b2 := gX_bnd g2
  rw [show dp + 1 + e = dp + (e + 1) by omega, show m + 1 + e + x = m + (e + 1) + x by omega] at hM
  rw [show m + 1 + e + x = m + (e + 1) + x by omega] at hb
  rw [show m + 1 + e = m + (e + 1) by omega] at hbin
  refine ⟨T4, q4, x, os, j4, e + 1, N4, RX_tr rx3 rx4, hM, hgp, MK_tr mkT (MK_le hK (by omega) (by omega)), hb, hbin, by omega, by omega, hl, fun k hk => ?_, fun Y mkY => ?_⟩
  · have := hco k (by omega)
    rw [show m + 1 + e - 1 - k = m + (e + 1) - 1 - k by omega] at this
    exact this
  · have hh := hY Y (by rw [show m + 1 + e + x = m + (e + 1) + x by omega]; exact mkY)
    rw [show c + 1 + e = c + (e + 1) by omega, show m + 1 + e + x = m + (e + 1) + x by omega, show dp + 1 + e = dp + (e + 1) by omega, show m + 1 + e = m + (e + 1) by omega] at hh
    obtain ⟨Z, eZ⟩ : ∃ Z, Z = mCo (c + (e + 1)) (mRd x Y j4 (m + (e + 1) + x)) (j4 + x) (dp + (e + 1)) (m + (e + 1)) := ⟨_, rfl⟩
    rw [← eZ] at hh ⊢
    obtain ⟨hX, hr⟩ := hh
    have mkZ : MK b t Y Z j4 0 := by
      rw [eZ]
      exact MK_tr (mRd_MK x _ j4 _ (Nat.le_refl _)) (mCo_MK _ _ (j4 + x) _ _ (by omega))
    have ni : ∀ v p, nid b t T3 v p → nid b t T4 v p := hK.2.2.2.2.2
    have ct : ∀ a, a < j3 → Z.1 78 a = T3.1 78 a ∧ Z.1 79 a = T3.1 79 a ∧ Z.1 80 a = T3.1 80 a ∧ Z.1 81 a = T3.1 81 a ∧ Z.2 82 a = T3.2 82 a := fun a ha => by
      have x1 := hK.1 a (Nat.zero_le _) ha
      have x2 := mkY.1 a (Nat.zero_le _) (by omega)
      have x3 := mkZ.1 a (Nat.zero_le _) (by omega)
      exact ⟨x3.1.trans (x2.1.trans x1.1), x3.2.1.trans (x2.2.1.trans x1.2.1), x3.2.2.1.trans (x2.2.2.1.trans x1.2.2.1), x3.2.2.2.1.trans (x2.2.2.2.1.trans x1.2.2.2.1), x3.2.2.2.2.trans (x2.2.2.2.2.trans x1.2.2.2.2)⟩
    have r0 := hr 0 (by omega)
    rw [show m + 1 - 1 - 0 = m by omega, e85] at r0
    refine ⟨gX_sel ⟨i1, j2, p2, i3, j3, p4, i5, j4 + x + e, p1, gX_cong ni g1 (fun a q1 q2 => cs1 a q1 (by omega)) (fun a q1 q2 => ct a (by omega)), gX_cong ni g2 (fun a q1 q2 => cs1 a (by omega) q2) (fun a q1 q2 => ct a (by omega)), gX_cong (fun _ _ z => z) hX cs3 cgT_rfl, rfl, by omega, s1, s2, r0.1, r0.2⟩, fun k hk => ?_⟩
    have r := hr (k + 1) (by omega)
    have k2 := mkT.2.1 (m - 1 - k) (by omega)
    rw [show m + 1 - 1 - (k + 1) = m - 1 - k by omega, k2.2.2.1, show j4 + x + e + (k + 1) = j4 + x + (e + 1) + k by omega] at r
    exact r
theorem w_expr (hg : ip_gk (lg_tbl, vwCl, Gr)) (ho : ip_old (lg_tbl, vwCl, Gr)) (htx : ∀ k, k < t → tx (b k)) {D : Nat} (hD : 10 ≤ D) (hdp : dp ≤ 30) (IHF : KF l Gr n w d b t dp D) (IH : dp < 30 → KE l Gr n w d b t (dp + 1) (D + 1)) : KE l Gr n w d b t dp (D + 2) := by
  intro S p i ws h hip hws
  have ht := h.2.2.2.2.2.2.2.2.2
  obtain ⟨e, rfl⟩ : ∃ e, D = e + 5 := ⟨D - 5, by omega⟩
  refine e_Reader_readExpr (b_Reader_readExpr_0 hg (w_choice hg ho htx (by omega) hdp IHF h hip hws) (fun S1 hC => ?_))
  rcases hC with ⟨p1, i1, hC⟩ | ⟨f, pl, hC⟩
  · obtain ⟨h1, ck1, hlt, hbd, ho1, hCT⟩ := hC
    have hp1 := h1.2.2.2.2.2.2.2.2.1.1
    refine b_Reader_readExpr_5 (fun z => absurd h1.2.2.2.2.2.2.1 z) (fun _ => b_Reader_readExpr_15 (fun z => ?_) (fun z => ?_))
    · rw [h1.2.2.2.1] at z
      have hpt : p1 < t := tk_pos (by rw [z]; decide)
      have hnp := np_gt (b := b) hpt
      refine b_Reader_readExpr_28 hg (w_opens hg ho hdp h1) (fun v S2 hv => ?_)
      rw [h1.2.2.1]
      rcases hv with ⟨-, hd, ev, e2⟩ | ⟨-, hd, ev, e2⟩ | ⟨hb, -⟩
      · rw [ev, e2]
        have h2 := CS_wS h1
        refine b_Reader_readExpr_43 (fun y => absurd y (by decide)) (fun _ => b_Reader_readExpr_46 hg (by rw [nI_1]; exact IH hd _ _ _ _ h2 (by omega) (by omega)) (fun S3 hE => ?_))
        obtain ⟨p2, ep2⟩ : ∃ p2, np b t p1 = p2 := ⟨_, rfl⟩
        rw [ep2] at h2 hnp hE
        have st1 : ∀ T q j m N X c, HE b t q j dp m N X c p T → ∃ T1 j2 N', RX l Gr n w d T 1 T1 1 ∧ HE b t (p1 + 1) j2 (dp + 1) (m + 1) N' X 0 p2 T1 ∧ MK b t T T1 j m ∧ T1.1 83 m = 3 ∧ T1.1 85 m = nI p1 ∧ gX w S1 T1 (nid b t T1) p i i1 j j2 := fun T q j m N X c hH => by
          have := et_q1 (l := l) (Gr := Gr) (n := n) (w := w) (d := d) hg htx hd hH (hCT T q j m N X (HE_HC hH)) z
          rw [ep2] at this
          exact this
        rcases hE with ⟨p3, i3, hE⟩ | ⟨f, pl, hE⟩
        · obtain ⟨h3, ck3, hlt3, hbd3, ho3, n63, hET3⟩ := hE
          have hp3 := h3.2.2.2.2.2.2.2.2.1.1
          have ck13 : CK S1 S3 i1 ws := CK_tr CK_wS ck3
          refine b_Reader_readExpr_53 hg (w_expect hg ho h3) (fun S4 h4 => ?_)
          rcases h4 with ⟨h58, e4⟩ | ⟨n58, e4⟩
          · have hpt3 : p3 < t := tk_pos (by rw [h58]; decide)
            have hnp3 := np_gt (b := b) hpt3
            have h4 := CS_wS h3
            rw [e4]
            obtain ⟨p4, ep4⟩ : ∃ p4, np b t p3 = p4 := ⟨_, rfl⟩
            rw [ep4] at h4 hnp3 ⊢
            have st2 : ∀ T q j m N X c, HE b t q j dp m N X c p T → ∃ T3 j2 j3 N3, RX l Gr n w d T 1 T3 1 ∧ HE b t (p3 + 1) j3 (dp + 1) (m + 1) N3 X (c + 1) p4 T3 ∧ MK b t T T3 j m ∧ T3.1 85 m = nI p1 ∧ gX w S1 T3 (nid b t T3) p i i1 j j2 ∧ gX w S3 T3 (nid b t T3) p2 i1 i3 j2 j3 := fun T q j m N X c hH => by
              obtain ⟨T1, j2, N', rx1, hH1, mk1, e83, e85, g1⟩ := st1 T q j m N X c hH
              obtain ⟨T3, j3, N3, a1, a2, a3, a4, a5, a6⟩ := (et_q2 hg htx hd hH rx1 mk1 e83 e85 g1 (E0_of hg (by omega) hH1 (hET3 T1 _ _ _ _ X 0 hH1)) ho3 n63).1 h58
              rw [ep4] at a2
              exact ⟨T3, j2, j3, N3, a1, a2, a3, a4, a5, a6⟩
            refine b_Reader_readExpr_59 hg (by rw [nI_1]; exact IH hd _ _ _ _ h4 (by omega) (by omega)) (fun S5 hE => ?_)
            rcases hE with ⟨p5, i5, hE⟩ | ⟨f, pl, hE⟩
            · obtain ⟨h5, ck5, hlt5, hbd5, ho5, n635, hET5⟩ := hE
              have hp5 := h5.2.2.2.2.2.2.2.2.1.1
              refine b_Reader_readExpr_66 hg (w_add hg h5.2.2.2.2.2.2.1 h5.2.2.2.2.2.1 (by omega)) (fun v S6 hv => ?_)
              rw [hv.2]
              have r6 := cA_r (S := S5) (i0 := i5) (x1 := 37) (x2 := 0) (x3 := nI p1) (x4 := 0)
              have k35 : ∀ a, a < i3 → S5.1 4 a = S3.1 4 a ∧ S5.1 5 a = S3.1 5 a ∧ S5.1 6 a = S3.1 6 a ∧ S5.1 7 a = S3.1 7 a := fun a ha => by
                have y := ck5.1 a (Nat.zero_le _) ha
                rw [wS_c (by decide), wS_c (by decide), wS_c (by decide), wS_c (by decide)] at y
                exact y
              have o6 : ∀ a, a < i5 → (cA S5 i5 37 0 (nI p1) 0).1 4 a = S5.1 4 a ∧ (cA S5 i5 37 0 (nI p1) 0).1 5 a = S5.1 5 a ∧ (cA S5 i5 37 0 (nI p1) 0).1 6 a = S5.1 6 a ∧ (cA S5 i5 37 0 (nI p1) 0).1 7 a = S5.1 7 a := fun a ha => cA_o (by omega)
              have ckA : CK S S3 i ws := CK_tr ck1 (CK_le ck13 (by omega) (Nat.le_refl _))
              have ckB : CK S3 S5 i ws := CK_tr CK_wS (CK_le ck5 (by omega) (Nat.le_refl _))
              have hxf : hxE (cA S5 i5 37 0 (nI p1) 0) i (i5 + 1) dp p p5 := by
                have a1 : Hx S3 i i1 1 1 (341 - 11 * (dp : Int)) ((p5 : Int) - p + 1) := Hx_mono (Hx_0 hbd.2.2 ck13.1 (Nat.le_refl _)) (Int.le_refl _) (by omega)
                have a2 : Hx S3 i i3 (1 + 1) (1 + 1) (341 - 11 * (dp : Int)) ((p5 : Int) - p + 1) := Hx_app a1 hbd3.2.2 (Int.le_refl _) (by omega) (Int.le_refl _) (by omega)
                have a3 : Hx S5 i i3 (1 + 1) (1 + 1) (341 - 11 * (dp : Int)) ((p5 : Int) - p + 1) := Hx_cgS a2 (fun x q1 q2 => k35 x q2)
                have a4 : Hx S5 i i5 (1 + 1 + 1) (1 + 1 + 1) (341 - 11 * (dp : Int)) ((p5 : Int) - p + 1) := Hx_app a3 hbd5.2.2 (Int.le_refl _) (by omega) (Int.le_refl _) (by omega)
                exact Hx_eq (Hx_sn (e1 := -2) (e2 := -2) (Hx_cA a4 (Nat.le_refl _)) r6.1 (by decide) (by decide) (by decide) (by omega) (by omega)) (by omega) (by omega)
              refine b_Reader_readExpr_77 (b_Reader_readExpr_78 ⟨rfl, Or.inl ⟨p5, i5 + 1, CS_cA h5, CK_tr ckA (CK_tr ckB (CK_cA (by omega))), by omega, ⟨by omega, wzb_s (by omega), hxf⟩, ho5, n635, fun T q j m N X c hH => ?_⟩⟩)
              obtain ⟨T3, j2, j3, N3, rx3, hH3, mk3, e85, g1, g2⟩ := st2 T q j m N X c hH
              have b2 := gX_bnd g2
              refine et_q3 (S2 := S3) (S3 := S5) rx3 mk3 hH.2.2.2.1 e85 (gX_cong (fun _ _ z => z) g1 (fun a q1 q2 => ck13.1 a (Nat.zero_le _) q2) cgT_rfl) g2 (hET5 T3 _ _ _ N3 X (c + 1) hH3) (fun a q1 q2 => ?_) (fun a q1 q2 => o6 a q2) r6.1 r6.2.2.1
              have x := o6 a (by omega)
              have y := k35 a q2
              exact ⟨x.1.trans y.1, x.2.1.trans y.2.1, x.2.2.1.trans y.2.2.1, x.2.2.2.trans y.2.2.2⟩
            · have f1 : ¬ S5.1 3 5 = 0 := by rw [hE.1.2.1]; exact nz hE.1.1
              refine b_Reader_readExpr_66 hg (w_addN hg f1) (fun v S6 hv => ?_)
              rw [hv.2]
              refine b_Reader_readExpr_77 (b_Reader_readExpr_78 ⟨rfl, Or.inr ⟨f, pl, CB_tr (CK_tr (CK_tr (CK_le ck1 (Nat.zero_le _) (Nat.zero_le _)) (CK_le ck13 (Nat.zero_le _) (Nat.zero_le _))) CK_wS) hE.1, fun T q j m N X c hH => ?_⟩⟩)
              obtain ⟨T3, j2, j3, N3, rx3, hH3, mk3, e85, g1, g2⟩ := st2 T q j m N X c hH
              exact ZF_tr rx3 (MK_le mk3 (Nat.zero_le _) (Nat.zero_le _)) (hE.2 T3 _ _ _ N3 X (c + 1) hH3)
          · rw [e4]
            have f1 : ¬ (cF S3 1 (nI p3)).1 3 5 = 0 := by rw [cF_f.1]; decide
            refine b_Reader_readExpr_59 (R := fun S' => S' = cF S3 1 (nI p3)) hg (by rw [nI_1]; exact w_exprN hg f1) (fun S5 e5 => ?_)
            rw [e5]
            refine b_Reader_readExpr_66 hg (w_addN hg f1) (fun v S6 hv => ?_)
            rw [hv.2]
            refine b_Reader_readExpr_77 (b_Reader_readExpr_78 ⟨rfl, Or.inr ⟨1, nI p3, CB_F (by decide) (CK_tr (CK_le ck1 (Nat.zero_le _) (Nat.zero_le _)) (CK_le ck13 (Nat.zero_le _) (Nat.zero_le _))), fun T q j m N X c hH => ?_⟩⟩)
            obtain ⟨T1, j2, N', rx1, hH1, mk1, e83, e85, g1⟩ := st1 T q j m N X c hH
            exact (et_q2 hg htx hd hH rx1 mk1 e83 e85 g1 (E0_of hg (by omega) hH1 (hET3 T1 _ _ _ _ X 0 hH1)) ho3 n63).2 n58
        · have f1 : ¬ S3.1 3 5 = 0 := by rw [hE.1.2.1]; exact nz hE.1.1
          refine b_Reader_readExpr_53 hg (w_expectN hg f1) (fun S4 e4 => ?_)
          rw [e4]
          refine b_Reader_readExpr_59 (R := fun S' => S' = S3) hg (by rw [nI_1]; exact w_exprN hg f1) (fun S5 e5 => ?_)
          rw [e5]
          refine b_Reader_readExpr_66 hg (w_addN hg f1) (fun v S6 hv => ?_)
          rw [hv.2]
          refine b_Reader_readExpr_77 (b_Reader_readExpr_78 ⟨rfl, Or.inr ⟨f, pl, CB_tr (CK_tr (CK_le ck1 (Nat.zero_le _) (Nat.zero_le _)) CK_wS) hE.1, fun T q j m N X c hH => ?_⟩⟩)
          obtain ⟨T1, j2, N', rx1, hH1, mk1, -⟩ := st1 T q j m N X c hH
          exact ZF_tr rx1 (MK_le mk1 (Nat.zero_le _) (Nat.zero_le _)) (hE.2 T1 _ _ _ _ X 0 hH1)
      · rw [ev, e2]
        refine b_Reader_readExpr_43 (fun _ => b_Reader_readExpr_78 ⟨rfl, Or.inr ⟨3, nI p1, CB_F (by decide) (CK_le ck1 (Nat.zero_le _) (Nat.zero_le _)), fun T q j m N X c hH => ?_⟩⟩) (fun y => absurd rfl y)
        subst hd
        exact et_qF hg htx hH (hCT T q j m N X (HE_HC hH)) z
      · exact absurd z hb
    · rw [h1.2.2.2.1] at z
      exact b_Reader_readExpr_27 ⟨rfl, Or.inl ⟨p1, i1, h1, ck1, hlt, hbd, ho1, z, fun T q j m N X c hH => et_c hdp hH (hCT T q j m N X (HE_HC hH))⟩⟩
  · have f1 : ¬ S1.1 3 5 = 0 := by rw [hC.1.2.1]; exact nz hC.1.1
    exact b_Reader_readExpr_5 (fun _ => b_Reader_readExpr_27 ⟨rfl, Or.inr ⟨f, pl, hC.1, fun T q j m N X c hH => hC.2 T q j m N X (HE_HC hH)⟩⟩) (fun z => absurd z f1)
/-- every EXPR -/
theorem k_all (hg : ip_gk (lg_tbl, vwCl, Gr)) (ho : ip_old (lg_tbl, vwCl, Gr)) (hw : w ≤ 32) (htx : ∀ k, k < t → tx (b k)) : ∀ (g dp : Nat), dp + g = 30 → (∀ D, 5 * g + 12 ≤ D → KE l Gr n w d b t dp D) ∧ (∀ D, 5 * g + 10 ≤ D → KF l Gr n w d b t dp D) := by
  intro g
  induction g with
  | zero =>
    intro dp hdp
    have kf : ∀ D, 5 * 0 + 10 ≤ D → KF l Gr n w d b t dp D := fun D hD => by
      obtain ⟨e, rfl⟩ : ∃ e, D = e + 1 := ⟨D - 1, by omega⟩
      exact w_factor hg ho hw htx (by omega) (by omega) (fun z => absurd z (by omega)) (fun z => absurd z (by omega))
    refine ⟨fun D hD => ?_, kf⟩
    obtain ⟨e, rfl⟩ : ∃ e, D = e + 2 := ⟨D - 2, by omega⟩
    exact w_expr hg ho htx (by omega) (by omega) (kf e (by omega)) (fun z => absurd z (by omega))
  | succ g ih =>
    intro dp hdp
    obtain ⟨ke, kf0⟩ := ih (dp + 1) (by omega)
    have kf : ∀ D, 5 * (g + 1) + 10 ≤ D → KF l Gr n w d b t dp D := fun D hD => by
      obtain ⟨e, rfl⟩ : ∃ e, D = e + 1 := ⟨D - 1, by omega⟩
      exact w_factor hg ho hw htx (by omega) (by omega) (fun _ D' hD' => ke D' (by omega)) (fun _ => kf0 e (by omega))
    refine ⟨fun D hD => ?_, kf⟩
    obtain ⟨e, rfl⟩ : ∃ e, D = e + 2 := ⟨D - 2, by omega⟩
    exact w_expr hg ho htx (by omega) (by omega) (kf e (by omega)) (fun _ => ke (e + 1) (by omega))
end RD7
