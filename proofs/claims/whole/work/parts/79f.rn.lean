/-! readCall, readNamed, readConversion -/
section RD3
variable {l : Launch} {Gr : zG} {n w : Nat} {d : Nat} {b : Nat → Int32} {t p i ws dp p' i' q j m N X u : Nat} {S S' T T' : zS}
theorem wS_c {c k : Nat} {S : zS} {p1 : Nat} (h : c ≠ 38) : (wS b t p1 S).1 c k = S.1 c k := by
  unfold wS
  rw [zi_c h, zi_c h, zi_c h]
theorem w_call (hg : ip_gk (lg_tbl, vwCl, Gr)) (ho : ip_old (lg_tbl, vwCl, Gr)) (htx : ∀ k, k < t → tx (b k)) {D : Nat} (hD : 6 ≤ D) (hdp : dp ≤ 30) (IH : dp < 30 → KE l Gr n w d b t (dp + 1) D) (h : CS b t p i ws S) (hip : i ≤ p) (hws : ws ≤ 10 * dp + 10) (hk : tk b t p = 1) (hsz : te b t p - p ≤ 16) (h40 : tk b t (np b t p) = 40) : zMv l Gr (zc n w) 168 M_Reader_readCall (D + 1) [.ref 66, .int (nI p), .int (nI dp)] (wS b t (np b t p) S) (fun S' => FR l Gr n w d b t S S' p i ws dp) := by
  have hp := h.2.2.2.2.2.2.2.2.1.1
  have ht := h.2.2.2.2.2.2.2.2.2
  have hpt : p < t := tk_pos (by rw [hk]; decide)
  have hnp := np_gt (b := b) hpt
  have hnp' := np_ok (b := b) hp
  have hpt1 : np b t p < t := tk_pos (by rw [h40]; decide)
  have hnp2 := np_gt (b := b) hpt1
  have h1 := CS_wS h
  have h2 := CS_cA (x1 := 28) (x2 := -1) (x3 := nI p) (x4 := 0) h1
  have r2 := cA_r (S := wS b t (np b t p) S) (i0 := i) (x1 := 28) (x2 := -1) (x3 := nI p) (x4 := 0)
  obtain ⟨S2, e2⟩ : ∃ S2, S2 = cA (wS b t (np b t p) S) i 28 (-1) (nI p) 0 := ⟨_, rfl⟩
  have ck2 : CK S S2 i ws := by rw [e2]; exact CK_tr CK_wS (CK_cA (Nat.le_refl _))
  rw [← e2] at h2 r2
  have hD' : ∃ e, D = e + 6 := ⟨D - 6, by omega⟩
  refine e_Reader_readCall (b_Reader_readCall_0 (R := fun v S' => v = nI i ∧ S' = S2) hg (by obtain ⟨e, rfl⟩ := hD'; rw [e2]; exact w_add (d := e + 5) hg h1.2.2.2.2.2.2.1 h1.2.2.2.2.2.1 (by omega)) (fun v S3 hv => ?_))
  rw [hv.1, hv.2]
  refine b_Reader_readCall_11 (R := fun v S' => (tk b t (np b t p) = 40 ∧ dp < 30 ∧ v = 1 ∧ S' = wS b t (np b t (np b t p)) S2) ∨ (tk b t (np b t p) = 40 ∧ dp = 30 ∧ v = 0 ∧ S' = cF S2 3 (nI (np b t p))) ∨ (¬ tk b t (np b t p) = 40 ∧ v = 0 ∧ S' = cF S2 1 (nI (np b t p)))) hg (by obtain ⟨e, rfl⟩ := hD'; exact w_opens hg ho hdp h2) (fun v S4 hv => ?_)
  rcases hv with ⟨-, hd, ev, e4⟩ | ⟨-, hd, ev, e4⟩ | ⟨hb, -⟩
  · rw [ev, e4]
    have h3 := CS_wS h2
    refine b_Reader_readCall_19 (fun _ => b_Reader_readCall_23 (fun z => ?_) (fun z => ?_)) (fun z => absurd z (by decide))
    · rw [h3.2.2.2.1] at z
      have hpt2 : np b t (np b t p) < t := tk_pos (by rw [z]; decide)
      have hnp3 := np_gt (b := b) hpt2
      refine b_Reader_readCall_42 (b_Reader_readCall_43 (b_Reader_readCall_45 (fun _ => ?_) (fun z => absurd rfl z)))
      have h4 := CS_o (c := 7) (k := i) (v := 0) h3 (by omega)
      obtain ⟨p2, ep2⟩ : ∃ p2, np b t (np b t p) = p2 := ⟨_, rfl⟩
      rw [ep2] at h3 h4 z hpt2 hnp3 hnp2 ⊢
      refine b_Reader_readCall_136 (R := fun S' => (tk b t p2 = 41 ∧ S' = wS b t (np b t p2) (zi (wS b t p2 S2) 7 i 0)) ∨ (¬ tk b t p2 = 41 ∧ S' = cF (zi (wS b t p2 S2) 7 i 0) 1 (nI p2))) hg (vp_in_nI (by omega) (by omega)) (by obtain ⟨e, rfl⟩ := hD'; rw [nI_clamp (by omega)]; exact w_expect hg ho h4) (fun S5 h5 => ?_)
      rcases h5 with ⟨-, e5⟩ | ⟨n41, -⟩
      · rw [e5]
        have h5 := CS_wS h4
        obtain ⟨S6, e6⟩ : ∃ S6, S6 = wS b t (np b t p2) (zi (wS b t p2 S2) 7 i 0) := ⟨_, rfl⟩
        rw [← e6] at h5 ⊢
        have r7 := cA_r (S := S6) (i0 := i + 1) (x1 := 30) (x2 := nI i) (x3 := nI p) (x4 := 0)
        refine b_Reader_readCall_153 (R := fun v S' => v = nI (i + 1) ∧ S' = cA S6 (i + 1) 30 (nI i) (nI p) 0) hg (by obtain ⟨e, rfl⟩ := hD'; exact w_add (d := e + 5) hg h5.2.2.2.2.2.2.1 h5.2.2.2.2.2.1 (by omega)) (fun v S7 hv7 => b_Reader_readCall_164 ⟨rfl, Or.inl ⟨np b t p2, i + 2, ?_⟩⟩)
        rw [hv7.2]
        have g6 : ∀ c a, c ≠ 38 → ¬ (c = 7 ∧ a = i) → S6.1 c a = S2.1 c a := fun c a q1 q2 => by rw [e6, wS_c q1, zi_get, if_neg q2, wS_c q1]
        have hxf : hxF (cA S6 (i + 1) 30 (nI i) (nI p) 0) i (i + 2) dp p (np b t p2) := by
          have a1 : Hx (cA S6 (i + 1) 30 (nI i) (nI p) 0) i (i + 1) 1 ((0 : Nat) : Int) (331 - 11 * (dp : Int)) ((np b t p2 : Int) - p + 1) := Hx_1 (o := 28) (by rw [(cA_o (by omega)).1, g6 _ _ (by decide) (by omega)]; exact r2.1) (by decide) (by decide) (by decide) (by omega) (by omega) (by omega) (by omega)
          exact Hx_ca (a := 0) a1 r7.1 r7.2.1 (by rw [(cA_o (by omega)).2.2.2, e6, wS_c (by decide)]; exact zi_v) (by rw [(cA_o (by omega)).1, g6 _ _ (by decide) (by omega)]; exact r2.1) (by omega) (by omega) (by omega) (by omega) (by omega)
        refine ⟨CS_cA h5, CK_tr ck2 (CK_tr ?_ (CK_cA (by omega))), by omega, ⟨by omega, wzb_s (by omega), hxf⟩, fun T q j m N X u hH => ?_⟩
        · rw [e6]
          exact CK_tr CK_wS (CK_tr (CK_zi (by omega)) CK_wS)
        · obtain ⟨T0, v, N0, hop, hid, q0, q1, q2, q3⟩ := op_cal (l := l) (Gr := Gr) (n := n) (w := w) (d := d) hg ho htx hH hd hk hsz h40
          rw [ep2, if_pos z] at hop
          refine ft_cal0 hg htx hH hd hop hid q0 q1 q2 q3 z ?_ ?_ ?_ r7.1 r7.2.1
          · rw [(cA_o (by omega)).1, g6 _ _ (by decide) (by omega)]; exact r2.1
          · rw [(cA_o (by omega)).2.2.1, g6 _ _ (by decide) (by omega)]; exact r2.2.2.1
          · rw [(cA_o (by omega)).2.2.2, e6, wS_c (by decide)]; exact zi_v
      · exact absurd z n41
    · rw [h3.2.2.2.1] at z
      refine b_Reader_readCall_38 (b_Reader_readCall_43 (b_Reader_readCall_45 (fun z => absurd z (by decide)) (fun _ => ?_)))
      refine w_args (S0 := S) (x2 := nI dp) hg ho htx hD hd (IH hd) rfl hip hws (fun S' hS => ⟨rfl, hS⟩) t 0 _ (np b t (np b t p)) (i + 1) (by omega) h3 (CK_tr ck2 CK_wS) ?_ ?_ (by omega) (by omega) (by omega) (by omega) (Hx_nil (by omega) (by omega)) (fun T q j m N X u hH => ?_)
      · rw [wS_c (by decide)]; exact r2.1
      · rw [wS_c (by decide)]; exact r2.2.2.1
      · obtain ⟨T0, v, N0, hop, hid, q0, q1, q2, q3⟩ := op_cal (l := l) (Gr := Gr) (n := n) (w := w) (d := d) hg ho htx hH hd hk hsz h40
        rw [if_neg z] at hop
        obtain ⟨rx0, hM0, hgp0, mk0, hb0, e83, e84, e85, e86, hj0⟩ := hop
        exact ⟨T0, np b t (np b t p), j + 2, N0, v, rx0, hM0, hgp0, mk0, hb0, ⟨e83, e84, e85, e86⟩, hid, ⟨q0, q1, q2, q3⟩, rfl, rfl⟩
  · rw [ev, e4]
    refine b_Reader_readCall_19 (fun z => absurd rfl z) (fun _ => b_Reader_readCall_22 ⟨rfl, Or.inr ⟨3, nI (np b t p), CB_F (by decide) (CK_le ck2 (Nat.zero_le _) (Nat.zero_le _)), fun T q j m N X u hH => ?_⟩⟩)
    subst hd
    exact op_nmF hg ho htx hH hk hsz (Or.inr h40)
  · exact absurd h40 hb
theorem w_named (hg : ip_gk (lg_tbl, vwCl, Gr)) (ho : ip_old (lg_tbl, vwCl, Gr)) (htx : ∀ k, k < t → tx (b k)) {D : Nat} (hD : 6 ≤ D) (hdp : dp ≤ 30) (IH : dp < 30 → KE l Gr n w d b t (dp + 1) D) (h : CS b t p i ws S) (hip : i ≤ p) (hws : ws ≤ 10 * dp + 10) (hk : tk b t p = 1) : zMv l Gr (zc n w) 168 M_Reader_readNamed (D + 2) [.ref 66, .int (nI dp)] S (fun S' => FR l Gr n w d b t S S' p i ws dp) := by
  have hp := h.2.2.2.2.2.2.2.2.1.1
  have ht := h.2.2.2.2.2.2.2.2.2
  have hpt : p < t := tk_pos (by rw [hk]; decide)
  have hnp := np_gt (b := b) hpt
  have hnp' := np_ok (b := b) hp
  obtain ⟨e, rfl⟩ : ∃ e, D = e + 6 := ⟨D - 6, by omega⟩
  refine e_Reader_readNamed (b_Reader_readNamed_0 hg (w_takeName (d := e + 1) hg ho h) (fun v S1 hv => ?_))
  obtain ⟨ev, hv⟩ := hv
  rw [ev]
  rcases hv with ⟨-, hsz, e1⟩ | ⟨hbad, e1⟩
  · rw [e1]
    have h1 := CS_wS h
    refine b_Reader_readNamed_4 (fun _ => b_Reader_readNamed_16 (fun n91 => b_Reader_readNamed_61 (fun n40 => ?_) (fun h40 => ?_)) (fun h91 => ?_)) (fun z => absurd h1.2.2.2.2.2.2.1 z)
    · rw [h1.2.2.2.1] at n91 n40
      refine b_Reader_readNamed_82 hg (w_add hg h1.2.2.2.2.2.2.1 h1.2.2.2.2.2.1 (by omega)) (fun v S2 hv => ?_)
      rw [hv.2]
      have r := cA_r (S := wS b t (np b t p) S) (i0 := i) (x1 := 24) (x2 := -1) (x3 := nI p) (x4 := 0)
      exact b_Reader_readNamed_93 (b_Reader_readNamed_94 ⟨rfl, Or.inl ⟨np b t p, i + 1, CS_cA h1, CK_tr CK_wS (CK_cA (Nat.le_refl _)), hnp, ⟨by omega, wzb_0 (Or.inl hk) (by omega), hx_lf r.1 (by decide) hdp hnp⟩, fun T q j m N X u hH => ft_nam hg ho htx hH hdp hk hsz n91 n40 r.1 r.2.2.1⟩⟩)
    · rw [h1.2.2.2.1] at h40
      exact b_Reader_readNamed_73 hg (w_call hg ho htx (by omega) hdp IH h hip hws hk hsz h40) (fun S2 hS => b_Reader_readNamed_79 (b_Reader_readNamed_94 ⟨rfl, hS⟩))
    · rw [h1.2.2.2.1] at h91
      have hpt1 : np b t p < t := tk_pos (by rw [h91]; decide)
      have hnp2 := np_gt (b := b) hpt1
      refine b_Reader_readNamed_28 hg (w_add hg h1.2.2.2.2.2.2.1 h1.2.2.2.2.2.1 (by omega)) (fun v S2 hv => ?_)
      rw [hv.1, hv.2]
      have h2 := CS_cA (x1 := 25) (x2 := -1) (x3 := nI p) (x4 := 0) h1
      have r2 := cA_r (S := wS b t (np b t p) S) (i0 := i) (x1 := 25) (x2 := -1) (x3 := nI p) (x4 := 0)
      obtain ⟨S3, e3⟩ : ∃ S3, S3 = cA (wS b t (np b t p) S) i 25 (-1) (nI p) 0 := ⟨_, rfl⟩
      have ck3 : CK S S3 i ws := by rw [e3]; exact CK_tr CK_wS (CK_cA (Nat.le_refl _))
      rw [← e3] at h2 r2 ⊢
      refine b_Reader_readNamed_39 hg (w_index hg ho (by omega) hdp IH h2 (by omega) hws h91) (fun S4 hS4 => ?_)
      rcases hS4 with ⟨hd, e4⟩ | ⟨hd, f, pl, hE⟩ | ⟨hd, S5, p2, i2, hE, hS4⟩
      · rw [e4]
        have f1 : ¬ (cF S3 3 (nI (np b t p))).1 3 5 = 0 := by rw [cF_f.1]; decide
        refine b_Reader_readNamed_46 hg (w_addN hg f1) (fun v S5 hv => b_Reader_readNamed_57 (b_Reader_readNamed_94 ⟨rfl, Or.inr ⟨3, nI (np b t p), ?_, fun T q j m N X u hH => ?_⟩⟩))
        · rw [hv.2]; exact CB_F (by decide) (CK_le ck3 (Nat.zero_le _) (Nat.zero_le _))
        · subst hd
          exact op_nmF hg ho htx hH hk hsz (Or.inl h91)
      · have f1 : ¬ S4.1 3 5 = 0 := by rw [hE.1.2.1]; exact nz hE.1.1
        refine b_Reader_readNamed_46 hg (w_addN hg f1) (fun v S5 hv => b_Reader_readNamed_57 (b_Reader_readNamed_94 ⟨rfl, Or.inr ⟨f, pl, ?_, fun T q j m N X u hH => ?_⟩⟩))
        · rw [hv.2]; exact CB_tr (CK_tr (CK_le ck3 (Nat.zero_le _) (Nat.zero_le _)) CK_wS) hE.1
        · obtain ⟨T0, v, N0, hop, -⟩ := op_idx (l := l) (Gr := Gr) (n := n) (w := w) (d := d) hg ho htx hH hd hk hsz h91
          exact ZF_tr hop.1 (MK_le hop.2.2.2.1 (Nat.zero_le _) (Nat.zero_le _)) (hE.2 T0 _ _ _ N0 X 0 (OP_HE hop (by decide) (by decide) (by decide)))
      · obtain ⟨h5, ck5, hlt, hbd, ho5, h63, hET⟩ := hE
        have hp2 := h5.2.2.2.2.2.2.2.2.1.1
        rcases hS4 with ⟨h93, e4⟩ | ⟨n93, e4⟩
        · have hpt2 : p2 < t := tk_pos (by rw [h93]; decide)
          have hnp3 := np_gt (b := b) hpt2
          have h6 := CS_wS (CS_cA (x1 := 26) (x2 := nI i) (x3 := nI (np b t (np b t p))) (x4 := 0) h5)
          rw [e4]
          obtain ⟨S6, e6⟩ : ∃ S6, S6 = wS b t (np b t p2) (cA S5 i2 26 (nI i) (nI (np b t (np b t p))) 0) := ⟨_, rfl⟩
          rw [← e6] at h6 ⊢
          refine b_Reader_readNamed_46 hg (w_add hg h6.2.2.2.2.2.2.1 h6.2.2.2.2.2.1 (by omega)) (fun v S7 hv => b_Reader_readNamed_57 (b_Reader_readNamed_94 ⟨rfl, Or.inl ⟨np b t p2, i2 + 2, ?_⟩⟩))
          rw [hv.2]
          have r5 := cA_r (S := S5) (i0 := i2) (x1 := 26) (x2 := nI i) (x3 := nI (np b t (np b t p))) (x4 := 0)
          have r7 := cA_r (S := S6) (i0 := i2 + 1) (x1 := 27) (x2 := nI i) (x3 := nI p) (x4 := 0)
          have g6 : ∀ c a, c ≠ 38 → S6.1 c a = (cA S5 i2 26 (nI i) (nI (np b t (np b t p))) 0).1 c a := fun c a q1 => by rw [e6, wS_c q1]
          have c5 := ck5.1 i (Nat.zero_le _) (by omega)
          have k1 : CK S3 S5 i ws := CK_tr CK_wS (CK_le ck5 (by omega) (Nat.le_refl _))
          have k2 : CK S5 S6 i ws := by rw [e6]; exact CK_tr (CK_cA (by omega)) CK_wS
          have hxf : hxF (cA S6 (i2 + 1) 27 (nI i) (nI p) 0) i (i2 + 2) dp p (np b t p2) := by
            have a0 : Hx S5 (i + 1) i2 1 1 (331 - 11 * (dp : Int)) ((np b t p2 : Int) - p + 1) := Hx_mono hbd.2.2 (by omega) (by omega)
            have a1 : Hx (cA S5 i2 26 (nI i) (nI (np b t (np b t p))) 0) (i + 1) (i2 + 1) (1 + -1) (1 + 0) (331 - 11 * (dp : Int)) ((np b t p2 : Int) - p + 1) := Hx_sn (e1 := -1) (e2 := 0) (Hx_cA a0 (Nat.le_refl _)) r5.1 (by decide) (by decide) (by decide) (by omega) (by omega)
            have a2 : Hx S6 (i + 1) (i2 + 1) (1 + -1) (1 + 0) (331 - 11 * (dp : Int)) ((np b t p2 : Int) - p + 1) := by rw [e6]; exact Hx_wS a1
            exact Hx_eq (Hx_sn (e1 := 1) (e2 := 0) (Hx_cs (o := 25) (by rw [(cA_o (by omega)).1, g6 _ _ (by decide), (cA_o (by omega)).1, c5.1, wS_c (by decide)]; exact r2.1) (by decide) (by decide) (by decide) (Hx_cA a2 (Nat.le_refl _)) (by omega) (by omega)) r7.1 (by decide) (by decide) (by decide) (by omega) (by omega)) (by omega) (by omega)
          refine ⟨CS_cA h6, CK_tr ck3 (CK_tr k1 (CK_tr k2 (CK_cA (by omega)))), by omega, ⟨by omega, wzb_s (by omega), hxf⟩, fun T q j m N X u hH => ?_⟩
          obtain ⟨T0, v, N0, hop, hid, q0, q1, q2, q3⟩ := op_idx (l := l) (Gr := Gr) (n := n) (w := w) (d := d) hg ho htx hH hd hk hsz h91
          have hHE := OP_HE hop (by decide) (by decide) (by decide)
          refine (ft_idx hg htx hH hd hop hid q0 q1 q2 q3 (E0_of hg (by omega) hHE (hET T0 _ _ _ N0 X 0 hHE)) ho5 h63).1 h93 (fun a z1 z2 => ?_) ?_ ?_ ?_ ?_ ?_ r7.1 r7.2.1
          · have x := cA_o (S := S6) (i0 := i2 + 1) (k := a) (x1 := 27) (x2 := nI i) (x3 := nI p) (x4 := 0) (by omega)
            have y := cA_o (S := S5) (i0 := i2) (k := a) (x1 := 26) (x2 := nI i) (x3 := nI (np b t (np b t p))) (x4 := 0) (by omega)
            refine ⟨?_, ?_, ?_, ?_⟩
            · rw [x.1, g6 _ _ (by decide)]; exact y.1
            · rw [x.2.1, g6 _ _ (by decide)]; exact y.2.1
            · rw [x.2.2.1, g6 _ _ (by decide)]; exact y.2.2.1
            · rw [x.2.2.2, g6 _ _ (by decide)]; exact y.2.2.2
          · rw [(cA_o (by omega)).1, g6 _ _ (by decide), (cA_o (by omega)).1, c5.1, wS_c (by decide)]; exact r2.1
          · rw [(cA_o (by omega)).2.2.1, g6 _ _ (by decide), (cA_o (by omega)).2.2.1, c5.2.2.1, wS_c (by decide)]; exact r2.2.2.1
          · rw [(cA_o (by omega)).1, g6 _ _ (by decide)]; exact r5.1
          · rw [(cA_o (by omega)).2.1, g6 _ _ (by decide)]; exact r5.2.1
          · rw [(cA_o (by omega)).2.2.1, g6 _ _ (by decide)]; exact r5.2.2.1
        · rw [e4]
          have f1 : ¬ (cF (cA S5 i2 26 (nI i) (nI (np b t (np b t p))) 0) 1 (nI p2)).1 3 5 = 0 := by rw [cF_f.1]; decide
          refine b_Reader_readNamed_46 hg (w_addN hg f1) (fun v S7 hv => b_Reader_readNamed_57 (b_Reader_readNamed_94 ⟨rfl, Or.inr ⟨1, nI p2, ?_, fun T q j m N X u hH => ?_⟩⟩))
          · rw [hv.2]; exact CB_F (by decide) (CK_tr (CK_le ck3 (Nat.zero_le _) (Nat.zero_le _)) (CK_tr CK_wS (CK_tr (CK_le ck5 (Nat.zero_le _) (Nat.zero_le _)) (CK_cA (by omega)))))
          · obtain ⟨T0, v, N0, hop, hid, q0, q1, q2, q3⟩ := op_idx (l := l) (Gr := Gr) (n := n) (w := w) (d := d) hg ho htx hH hd hk hsz h91
            have hHE := OP_HE hop (by decide) (by decide) (by decide)
            exact (ft_idx (S' := S5) hg htx hH hd hop hid q0 q1 q2 q3 (E0_of hg (by omega) hHE (hET T0 _ _ _ N0 X 0 hHE)) ho5 h63).2 n93
  · rw [e1]
    have hb : tk b t p = 1 ∧ ¬ te b t p - p ≤ 16 := hbad.elim (fun z => absurd hk z) id
    rw [if_pos hk]
    refine b_Reader_readNamed_4 (fun z => absurd (cF_f.1.symm.trans z) (by decide)) (fun _ => b_Reader_readNamed_15 ⟨rfl, Or.inr ⟨2, nI p, CB_F (by decide) CK_rfl, fun T q j m N X u hH => ?_⟩⟩)
    have := ft_bad (l := l) (Gr := Gr) (n := n) (w := w) (d := d) hg ho htx hH hdp (by rw [hk]; decide) (by rw [hk]; decide) (by rw [hk]; decide) (by rw [hk]; decide) (by rw [hk]; decide) (Or.inr hb)
    rw [if_pos hk] at this
    exact this
end RD3
