/-! readConversion, readFactor -/
section RD4
variable {l : Launch} {Gr : zG} {n w : Nat} {d : Nat} {b : Nat → Int32} {t p i ws dp p' i' q j m N X u : Nat} {S S' T T' : zS}
theorem w_conv (hg : ip_gk (lg_tbl, vwCl, Gr)) (ho : ip_old (lg_tbl, vwCl, Gr)) (htx : ∀ k, k < t → tx (b k)) {D : Nat} (hD : 6 ≤ D) (hdp : dp ≤ 30) (IH : dp < 30 → KE l Gr n w d b t (dp + 1) D) (h : CS b t p i ws S) (hip : i ≤ p) (hws : ws ≤ 10 * dp + 10) (hk : tk b t p = 209 ∨ tk b t p = 210) : zMv l Gr (zc n w) 168 M_Reader_readConversion (D + 1) [.ref 66, .int (if tk b t p = 210 then 1 else 0), .int (nI dp)] (wS b t (np b t p) S) (fun S' => FR l Gr n w d b t S S' p i ws dp) := by
  have hp := h.2.2.2.2.2.2.2.2.1.1
  have ht := h.2.2.2.2.2.2.2.2.2
  have hpt : p < t := tk_pos (fun z => by rw [z] at hk; exact absurd hk (by decide))
  have hnp := np_gt (b := b) hpt
  have hnp' := np_ok (b := b) hp
  have h1 := CS_wS h
  have e3 := wd_len3 hp htx hk
  obtain ⟨p1, ep1⟩ : ∃ p1, np b t p = p1 := ⟨_, rfl⟩
  rw [ep1] at h1 hnp ⊢
  have hge : p + 3 ≤ p1 := by rw [← ep1, ← e3]; exact hnp'.2.1
  have hp1 := h1.2.2.2.2.2.2.2.2.1.1
  have h2 := CS_cA (x1 := 21) (x2 := 0) (x3 := nI p1) (x4 := 0) h1
  have r2 := cA_r (S := wS b t p1 S) (i0 := i) (x1 := 21) (x2 := 0) (x3 := nI p1) (x4 := 0)
  obtain ⟨S2, e2⟩ : ∃ S2, S2 = cA (wS b t p1 S) i 21 0 (nI p1) 0 := ⟨_, rfl⟩
  have ck2 : CK S S2 i ws := by rw [e2]; exact CK_tr CK_wS (CK_cA (Nat.le_refl _))
  rw [← e2] at h2 r2
  obtain ⟨e, rfl⟩ : ∃ e, D = e + 6 := ⟨D - 6, by omega⟩
  refine e_Reader_readConversion (b_Reader_readConversion_0 hg (by rw [h1.2.2.1]; exact w_add hg h1.2.2.2.2.2.2.1 h1.2.2.2.2.2.1 (by omega)) (fun v S3 hv => ?_))
  rw [hv.2, ← e2]
  refine b_Reader_readConversion_17 hg (w_opens hg ho hdp h2) (fun v S4 hv => ?_)
  rcases hv with ⟨h40, hd, ev, e4⟩ | ⟨h40, hd, ev, e4⟩ | ⟨n40, ev, e4⟩
  · rw [ev, e4]
    have h3 := CS_wS h2
    have hpt1 : p1 < t := tk_pos (by rw [h40]; decide)
    have hnp1 := np_gt (b := b) hpt1
    obtain ⟨p2, ep2⟩ : ∃ p2, np b t p1 = p2 := ⟨_, rfl⟩
    rw [ep2] at h3 hnp1 ⊢
    have start : ∀ T q j m N X u, HF b t q j dp m N X u p T → ∃ T0, OP l Gr n w d b t T T0 1 (p1 + 1) p2 j (j + 1) dp m N X (if tk b t p = 209 then 8 else 9) 0 (nI p) ∧ T0.1 78 j = 1 := fun T q j m N X u hH => by
      have := op_cv (l := l) (Gr := Gr) (n := n) (w := w) (d := d) hg ho htx hH hk (by rw [ep1]; exact h40) hd
      rw [ep1, ep2] at this
      exact this
    have k89 : ∀ {x : Int32}, x = (if tk b t p = 209 then 8 else 9) → ¬ x = 1 ∧ ¬ x = 2 ∧ ¬ x = 4 := fun {x} ex => by
      rw [ex]
      split <;> decide
    refine b_Reader_readConversion_25 (fun _ => ?_) (fun z => absurd z (by decide))
    refine b_Reader_readConversion_29 hg (by rw [nI_1]; exact IH hd _ _ _ _ h3 (by omega) (by omega)) (fun S5 hE => ?_)
    rw [h3.2.2.1]
    rcases hE with ⟨p3, i3, hE⟩ | ⟨f, pl, hE⟩
    · obtain ⟨h5, ck5, hlt, hbd, ho5, h63, hET⟩ := hE
      have hp3 := h5.2.2.2.2.2.2.2.2.1.1
      have c5 := ck5.1 i (Nat.zero_le _) (by omega)
      have s21 : S5.1 4 i = 21 := by rw [c5.1, wS_c (by decide)]; exact r2.1
      by_cases z : tk b t p = 210
      · rw [if_pos z]
        have n9 : ¬ tk b t p = 209 := by rw [z]; decide
        refine b_Reader_readConversion_44 (fun y => absurd y (by decide)) (fun _ => b_Reader_readConversion_52 ?_)
        refine b_Reader_readConversion_59 hg (w_add hg h5.2.2.2.2.2.2.1 h5.2.2.2.2.2.1 (by omega)) (fun v S6 hv => ?_)
        rw [hv.2]
        have h6 := CS_cA (x1 := 32) (x2 := 0) (x3 := nI p2) (x4 := 0) h5
        have r6 := cA_r (S := S5) (i0 := i3) (x1 := 32) (x2 := 0) (x3 := nI p2) (x4 := 0)
        obtain ⟨S6, e6⟩ : ∃ S6, S6 = cA S5 i3 32 0 (nI p2) 0 := ⟨_, rfl⟩
        rw [← e6] at h6 r6 ⊢
        have ck6 : CK S S6 i ws := CK_tr ck2 (CK_tr (CK_tr CK_wS (CK_le ck5 (by omega) (Nat.le_refl _))) (by rw [e6]; exact CK_cA (by omega)))
        have o6 : ∀ a, a < i3 → S6.1 4 a = S5.1 4 a ∧ S6.1 5 a = S5.1 5 a ∧ S6.1 6 a = S5.1 6 a ∧ S6.1 7 a = S5.1 7 a := fun a ha => by rw [e6]; exact cA_o (by omega)
        refine b_Reader_readConversion_64 (fun y => absurd y (by decide)) (fun _ => b_Reader_readConversion_69 hg (w_expect hg ho h6) (fun S7 h7 => ?_))
        rcases h7 with ⟨h44, e7⟩ | ⟨n44, e7⟩
        · have hpt3 : p3 < t := tk_pos (by rw [h44]; decide)
          have hnp3 := np_gt (b := b) hpt3
          have et3 := (te_s htx hp3 (c := 44) (by decide) (by decide) (by decide) h44).1
          have h7 := CS_wS h6
          obtain ⟨p4, ep4⟩ : ∃ p4, np b t p3 = p4 := ⟨_, rfl⟩
          rw [ep4] at h7 hnp3 e7
          rw [e7]
          obtain ⟨S7, e7'⟩ : ∃ S7, S7 = wS b t p4 S6 := ⟨_, rfl⟩
          rw [← e7'] at h7 ⊢
          have g7 : ∀ c a, c ≠ 38 → S7.1 c a = S6.1 c a := fun c a q1 => by rw [e7', wS_c q1]
          have mid : ∀ T q j m N X u, HF b t q j dp m N X u p T → ∃ T2 j' N', (RX l Gr n w d T 1 T2 1 ∧ MK b t T T2 j m ∧ T2.1 83 m = 9 ∧ T2.1 85 m = nI p ∧ T2.1 86 m = 1 ∧ T2.1 78 j = 1 ∧ T2.1 78 j' = 16 ∧ T2.1 79 j' = -1 ∧ gX w S5 T2 (nid b t T2) p2 (i + 1) i3 (j + 1) j') ∧ HE b t (p3 + 1) (j' + 1) (dp + 1) (m + 1) N' X 0 p4 T2 := fun T q j m N X u hH => by
            obtain ⟨T0, hop, r0⟩ := start T q j m N X u hH
            rw [if_neg n9] at hop
            have hHE := OP_HE hop (by decide) (by decide) (by decide)
            obtain ⟨T2, j', N', a1, a2, a3, a4, a5, a6, a7, a8, a9, a10, a11⟩ := (ft_bit1 hg htx hH hd hop r0 (E0_of hg (by omega) hHE (hET T0 _ _ _ N X 0 hHE)) ho5 h63).1 h44
            refine ⟨T2, j', N', ⟨a1, a3, a4, a5, a6, a7, a8, a9, a11⟩, a2, ?_, a10, Nat.zero_le _, Nat.zero_le _, fun k hk => absurd hk (Nat.not_lt_zero k), Or.inr ?_, Or.inr ?_⟩
            · rw [← ep4, np, et3]
            · rw [show m + 1 - 1 - 0 = m by omega, a4]; decide
            · rw [show m + 1 - 1 = m by omega, a4]; decide
          refine b_Reader_readConversion_75 hg (by rw [nI_1]; exact IH hd _ _ _ _ h7 (by omega) (by omega)) (fun S8 hE => ?_)
          rw [h7.2.2.1]
          rcases hE with ⟨p5, i5, hE⟩ | ⟨f, pl, hE⟩
          · obtain ⟨h8, ck8, hlt8, hbd8, ho8, h638, hET8⟩ := hE
            have hp5 := h8.2.2.2.2.2.2.2.2.1.1
            refine b_Reader_readConversion_91 hg (w_add hg h8.2.2.2.2.2.2.1 h8.2.2.2.2.2.1 (by omega)) (fun v S9 hv => ?_)
            rw [hv.2]
            have h9 := CS_cA (x1 := 33) (x2 := 0) (x3 := nI p4) (x4 := 0) h8
            have r9 := cA_r (S := S8) (i0 := i5) (x1 := 33) (x2 := 0) (x3 := nI p4) (x4 := 0)
            obtain ⟨S9, e9⟩ : ∃ S9, S9 = cA S8 i5 33 0 (nI p4) 0 := ⟨_, rfl⟩
            rw [← e9] at h9 r9 ⊢
            have ck9 : CK S S9 i ws := CK_tr ck6 (CK_tr (CK_tr (by rw [e7']; exact CK_wS) (CK_le ck8 (by omega) (Nat.le_refl _))) (by rw [e9]; exact CK_cA (by omega)))
            have o9 : ∀ a, a < i5 → S9.1 4 a = S8.1 4 a ∧ S9.1 5 a = S8.1 5 a ∧ S9.1 6 a = S8.1 6 a ∧ S9.1 7 a = S8.1 7 a := fun a ha => by rw [e9]; exact cA_o (by omega)
            have k98 : ∀ a, a < i3 + 1 → S9.1 4 a = S6.1 4 a ∧ S9.1 5 a = S6.1 5 a ∧ S9.1 6 a = S6.1 6 a ∧ S9.1 7 a = S6.1 7 a := fun a ha => by
              have x := o9 a (by omega)
              have y := ck8.1 a (Nat.zero_le _) (by omega)
              refine ⟨?_, ?_, ?_, ?_⟩
              · rw [x.1, y.1, g7 _ _ (by decide)]
              · rw [x.2.1, y.2.1, g7 _ _ (by decide)]
              · rw [x.2.2.1, y.2.2.1, g7 _ _ (by decide)]
              · rw [x.2.2.2, y.2.2.2, g7 _ _ (by decide)]
            refine b_Reader_readConversion_103 (b_Reader_readConversion_104 hg (w_expect hg ho h9) (fun S10 h10 => b_Reader_readConversion_110 ⟨rfl, ?_⟩))
            rcases h10 with ⟨h41, e10⟩ | ⟨n41, e10⟩
            · have hpt5 : p5 < t := tk_pos (by rw [h41]; decide)
              have hnp5 := np_gt (b := b) hpt5
              rw [e10]
              have hxf : hxF (wS b t (np b t p5) S9) i (i5 + 1) dp p (np b t p5) := by
                have a0 : Hx S5 (i + 1) i3 1 1 (331 - 11 * (dp : Int)) ((np b t p5 : Int) - p + 1) := Hx_mono hbd.2.2 (by omega) (by omega)
                have a1 : Hx S6 (i + 1) (i3 + 1) (1 + 0) (1 + 0) (331 - 11 * (dp : Int)) ((np b t p5 : Int) - p + 1) := Hx_sn (e1 := 0) (e2 := 0) (by rw [e6]; exact Hx_cA a0 (Nat.le_refl _)) r6.1 (by decide) (by decide) (by decide) (by omega) (by omega)
                have a2 : Hx S9 (i + 1) (i3 + 1) (1 + 0) (1 + 0) (331 - 11 * (dp : Int)) ((np b t p5 : Int) - p + 1) := Hx_cgS a1 (fun x q1 q2 => k98 x q2)
                have a3 : Hx S9 (i3 + 1) i5 1 1 (341 - 11 * ((dp + 1 : Nat) : Int)) ((p5 : Int) - p4 + 1) := Hx_cgS hbd8.2.2 (fun x q1 q2 => o9 x q2)
                have a4 : Hx S9 (i + 1) i5 (1 + 0 + 1) (1 + 0 + 1) (331 - 11 * (dp : Int)) ((np b t p5 : Int) - p + 1) := Hx_app a2 a3 (Int.le_refl _) (by omega) (Int.le_refl _) (by omega)
                have a5 : Hx S9 (i + 1) (i5 + 1) (1 + 0 + 1 + -1) (1 + 0 + 1 + -1) (331 - 11 * (dp : Int)) ((np b t p5 : Int) - p + 1) := Hx_sn (e1 := -1) (e2 := -1) a4 r9.1 (by decide) (by decide) (by decide) (by omega) (by omega)
                exact Hx_wS (Hx_eq (Hx_cs (o := 21) (by rw [(k98 i (by omega)).1, (o6 i (by omega)).1]; exact s21) (by decide) (by decide) (by decide) a5 (by omega) (by omega)) (by omega) (by omega))
              refine Or.inl ⟨np b t p5, i5 + 1, CS_wS h9, CK_tr ck9 CK_wS, by omega, ⟨by omega, wzb_s (by omega), hxf⟩, fun T q j m N X u hH => ?_⟩
              obtain ⟨T2, j', N', ⟨a1, a3, a4, a5, a6, a7, a8, a9, a11⟩, hHE⟩ := mid T q j m N X u hH
              refine (ft_bit2 (S' := wS b t (np b t p5) S9) hg htx hH hd a1 a3 a4 a5 a6 a7 a8 a9 a11 (E0_of hg (by omega) hHE (hET8 T2 _ _ _ N' X 0 hHE)) ho8 h638).1 h41 (fun a z1 z2 => ?_) (fun a z1 z2 => ?_) ?_ ?_ ?_ ?_ ?_
              · have x := k98 a (by omega)
                have y := o6 a (by omega)
                rw [wS_c (by decide), wS_c (by decide), wS_c (by decide), wS_c (by decide)]
                exact ⟨x.1.trans y.1, x.2.1.trans y.2.1, x.2.2.1.trans y.2.2.1, x.2.2.2.trans y.2.2.2⟩
              · rw [wS_c (by decide), wS_c (by decide), wS_c (by decide), wS_c (by decide)]
                exact o9 a z2
              · rw [wS_c (by decide), (k98 i (by omega)).1, (o6 i (by omega)).1]; exact s21
              · rw [wS_c (by decide), (k98 i3 (by omega)).1]; exact r6.1
              · rw [wS_c (by decide), (k98 i3 (by omega)).2.2.1]; exact r6.2.2.1
              · rw [wS_c (by decide)]; exact r9.1
              · rw [wS_c (by decide)]; exact r9.2.2.1
            · rw [e10]
              refine Or.inr ⟨1, nI p5, CB_F (by decide) (CK_le ck9 (Nat.zero_le _) (Nat.zero_le _)), fun T q j m N X u hH => ?_⟩
              obtain ⟨T2, j', N', ⟨a1, a3, a4, a5, a6, a7, a8, a9, a11⟩, hHE⟩ := mid T q j m N X u hH
              exact (ft_bit2 (S' := S9) hg htx hH hd a1 a3 a4 a5 a6 a7 a8 a9 a11 (E0_of hg (by omega) hHE (hET8 T2 _ _ _ N' X 0 hHE)) ho8 h638).2 n41
          · have f1 : ¬ S8.1 3 5 = 0 := by rw [hE.1.2.1]; exact nz hE.1.1
            refine b_Reader_readConversion_91 hg (w_addN hg f1) (fun v S9 hv => ?_)
            rw [hv.2]
            refine b_Reader_readConversion_103 (b_Reader_readConversion_104 hg (w_expectN hg f1) (fun S10 e10 => b_Reader_readConversion_110 ⟨rfl, Or.inr ⟨f, pl, ?_, fun T q j m N X u hH => ?_⟩⟩))
            · rw [e10]
              exact CB_tr (CK_tr (CK_le ck6 (Nat.zero_le _) (Nat.zero_le _)) (by rw [e7']; exact CK_wS)) hE.1
            · obtain ⟨T2, j', N', ⟨a1, a3, -⟩, hHE⟩ := mid T q j m N X u hH
              exact ZF_tr a1 (MK_le a3 (Nat.zero_le _) (Nat.zero_le _)) (hE.2 T2 _ _ _ N' X 0 hHE)
        · rw [e7]
          have f1 : ¬ (cF S6 1 (nI p3)).1 3 5 = 0 := by rw [cF_f.1]; decide
          refine b_Reader_readConversion_75 (R := fun S' => S' = cF S6 1 (nI p3)) hg (by rw [nI_1]; exact w_exprN hg f1) (fun S8 e8 => ?_)
          rw [e8]
          refine b_Reader_readConversion_91 hg (w_addN hg f1) (fun v S9 hv => ?_)
          rw [hv.2]
          refine b_Reader_readConversion_103 (b_Reader_readConversion_104 hg (w_expectN hg f1) (fun S10 e10 => b_Reader_readConversion_110 ⟨rfl, Or.inr ⟨1, nI p3, ?_, fun T q j m N X u hH => ?_⟩⟩))
          · rw [e10]
            exact CB_F (by decide) (CK_le ck6 (Nat.zero_le _) (Nat.zero_le _))
          · obtain ⟨T0, hop, r0⟩ := start T q j m N X u hH
            rw [if_neg n9] at hop
            have hHE := OP_HE hop (by decide) (by decide) (by decide)
            exact (ft_bit1 hg htx hH hd hop r0 (E0_of hg (by omega) hHE (hET T0 _ _ _ N X 0 hHE)) ho5 h63).2 n44
      · rw [if_neg z]
        have h209 : tk b t p = 209 := hk.elim id (fun y => absurd y z)
        refine b_Reader_readConversion_44 (fun _ => b_Reader_readConversion_57 ?_) (fun y => absurd rfl y)
        refine b_Reader_readConversion_59 hg (w_add hg h5.2.2.2.2.2.2.1 h5.2.2.2.2.2.1 (by omega)) (fun v S6 hv => ?_)
        rw [hv.2]
        have h6 := CS_cA (x1 := 31) (x2 := 0) (x3 := nI p2) (x4 := 0) h5
        have r6 := cA_r (S := S5) (i0 := i3) (x1 := 31) (x2 := 0) (x3 := nI p2) (x4 := 0)
        obtain ⟨S6, e6⟩ : ∃ S6, S6 = cA S5 i3 31 0 (nI p2) 0 := ⟨_, rfl⟩
        rw [← e6] at h6 r6 ⊢
        have ck6 : CK S S6 i ws := CK_tr ck2 (CK_tr (CK_tr CK_wS (CK_le ck5 (by omega) (Nat.le_refl _))) (by rw [e6]; exact CK_cA (by omega)))
        have o6 : ∀ a, a < i3 → S6.1 4 a = S5.1 4 a ∧ S6.1 5 a = S5.1 5 a ∧ S6.1 6 a = S5.1 6 a ∧ S6.1 7 a = S5.1 7 a := fun a ha => by rw [e6]; exact cA_o (by omega)
        refine b_Reader_readConversion_64 (fun _ => b_Reader_readConversion_104 hg (w_expect hg ho h6) (fun S7 h7 => b_Reader_readConversion_110 ⟨rfl, ?_⟩)) (fun y => absurd rfl y)
        rcases h7 with ⟨h41, e7⟩ | ⟨n41, e7⟩
        · have hpt3 : p3 < t := tk_pos (by rw [h41]; decide)
          have hnp3 := np_gt (b := b) hpt3
          rw [e7]
          have hxf : hxF (wS b t (np b t p3) S6) i (i3 + 1) dp p (np b t p3) := by
            have a0 : Hx S5 (i + 1) i3 1 1 (331 - 11 * (dp : Int)) ((np b t p3 : Int) - p + 1) := Hx_mono hbd.2.2 (by omega) (by omega)
            have a1 : Hx S6 (i + 1) (i3 + 1) (1 + 0) (1 + 0) (331 - 11 * (dp : Int)) ((np b t p3 : Int) - p + 1) := Hx_sn (e1 := 0) (e2 := 0) (by rw [e6]; exact Hx_cA a0 (Nat.le_refl _)) r6.1 (by decide) (by decide) (by decide) (by omega) (by omega)
            exact Hx_wS (Hx_eq (Hx_cs (o := 21) (by rw [(o6 i (by omega)).1]; exact s21) (by decide) (by decide) (by decide) a1 (by omega) (by omega)) (by omega) (by omega))
          refine Or.inl ⟨np b t p3, i3 + 1, CS_wS h6, CK_tr ck6 CK_wS, by omega, ⟨by omega, wzb_s (by omega), hxf⟩, fun T q j m N X u hH => ?_⟩
          obtain ⟨T0, hop, r0⟩ := start T q j m N X u hH
          rw [if_pos h209] at hop
          have hHE := OP_HE hop (by decide) (by decide) (by decide)
          refine (ft_int (S' := wS b t (np b t p3) S6) hg htx hH hd hop r0 (E0_of hg (by omega) hHE (hET T0 _ _ _ N X 0 hHE)) ho5 h63).1 h41 (fun a z1 z2 => ?_) ?_ ?_ ?_
          · rw [wS_c (by decide), wS_c (by decide), wS_c (by decide), wS_c (by decide)]; exact o6 a z2
          · rw [wS_c (by decide), (o6 i (by omega)).1]; exact s21
          · rw [wS_c (by decide)]; exact r6.1
          · rw [wS_c (by decide)]; exact r6.2.2.1
        · rw [e7]
          refine Or.inr ⟨1, nI p3, CB_F (by decide) (CK_le ck6 (Nat.zero_le _) (Nat.zero_le _)), fun T q j m N X u hH => ?_⟩
          obtain ⟨T0, hop, r0⟩ := start T q j m N X u hH
          rw [if_pos h209] at hop
          have hHE := OP_HE hop (by decide) (by decide) (by decide)
          exact (ft_int (S' := S6) hg htx hH hd hop r0 (E0_of hg (by omega) hHE (hET T0 _ _ _ N X 0 hHE)) ho5 h63).2 n41
    · have f1 : ¬ S5.1 3 5 = 0 := by rw [hE.1.2.1]; exact nz hE.1.1
      have hfin : FR l Gr n w d b t S S5 p i ws dp := by
        refine Or.inr ⟨f, pl, CB_tr (CK_tr (CK_le ck2 (Nat.zero_le _) (Nat.zero_le _)) CK_wS) hE.1, fun T q j m N X u hH => ?_⟩
        obtain ⟨T0, hop, r0⟩ := start T q j m N X u hH
        obtain ⟨x1, x2, x3⟩ := k89 rfl
        exact ZF_tr hop.1 (MK_le hop.2.2.2.1 (Nat.zero_le _) (Nat.zero_le _)) (hE.2 T0 _ _ _ N X 0 (OP_HE hop x1 x2 x3))
      by_cases z : tk b t p = 210
      · rw [if_pos z]
        refine b_Reader_readConversion_44 (fun y => absurd y (by decide)) (fun _ => b_Reader_readConversion_52 (b_Reader_readConversion_59 hg (w_addN hg f1) (fun v S6 hv => ?_)))
        rw [hv.2]
        refine b_Reader_readConversion_64 (fun y => absurd y (by decide)) (fun _ => b_Reader_readConversion_69 hg (w_expectN hg f1) (fun S7 e7 => ?_))
        rw [e7]
        refine b_Reader_readConversion_75 (R := fun S' => S' = S5) hg (by rw [nI_1]; exact w_exprN hg f1) (fun S8 e8 => ?_)
        rw [e8]
        refine b_Reader_readConversion_91 hg (w_addN hg f1) (fun v S9 hv => ?_)
        rw [hv.2]
        refine b_Reader_readConversion_103 (b_Reader_readConversion_104 hg (w_expectN hg f1) (fun S10 e10 => b_Reader_readConversion_110 ⟨rfl, ?_⟩))
        rw [e10]; exact hfin
      · rw [if_neg z]
        refine b_Reader_readConversion_44 (fun _ => b_Reader_readConversion_57 (b_Reader_readConversion_59 hg (w_addN hg f1) (fun v S6 hv => ?_))) (fun y => absurd rfl y)
        rw [hv.2]
        refine b_Reader_readConversion_64 (fun _ => b_Reader_readConversion_104 hg (w_expectN hg f1) (fun S7 e7 => b_Reader_readConversion_110 ⟨rfl, ?_⟩)) (fun y => absurd rfl y)
        rw [e7]; exact hfin
  · rw [ev, e4]
    refine b_Reader_readConversion_25 (fun z => absurd rfl z) (fun _ => b_Reader_readConversion_28 ⟨rfl, Or.inr ⟨3, nI p1, CB_F (by decide) (CK_le ck2 (Nat.zero_le _) (Nat.zero_le _)), fun T q j m N X u hH => ?_⟩⟩)
    have := (op_cvF (l := l) (Gr := Gr) (n := n) (w := w) (d := d) hg ho htx hH hk hdp).2
    rw [ep1] at this
    exact this h40 hd
  · rw [ev, e4]
    refine b_Reader_readConversion_25 (fun z => absurd rfl z) (fun _ => b_Reader_readConversion_28 ⟨rfl, Or.inr ⟨1, nI p1, CB_F (by decide) (CK_le ck2 (Nat.zero_le _) (Nat.zero_le _)), fun T q j m N X u hH => ?_⟩⟩)
    have := (op_cvF (l := l) (Gr := Gr) (n := n) (w := w) (d := d) hg ho htx hH hk hdp).1
    rw [ep1] at this
    exact this n40
end RD4
