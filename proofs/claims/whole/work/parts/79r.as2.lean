/-! readAssignment of both -/
section AS2
variable {l : Launch} {Gr : zG} {n w : Nat} {d : Nat} {b : Nat → Int32} {t p i ws dp p' i' q j m N X u k D D' vw iw s e : Nat} {S S' S'' T T' T'' : zS}
/-- [EXPR] where a word may be short of an instruction -/
theorem w_index2 (hg : ip_gk (lg_tbl, vwCl, Gr)) (ho : ip_old (lg_tbl, vwCl, Gr)) {D : Nat} (hD : 6 ≤ D) (hdp : dp ≤ 30) (IH : dp < 30 → KE l Gr n w d b t (dp + 1) D) {x : Int32} (h : CS b t p i ws S) (hi : i ≤ p + 1) (hws : ws ≤ 10 * dp + 10) (h91 : tk b t p = 91) : zMv l Gr (zc n w) 168 M_Reader_readIndex (D + 1) [.ref 66, .int x, .int (nI dp)] S (fun S' =>
    (dp = 30 ∧ S' = cF S 3 (nI p)) ∨
    (dp < 30 ∧ ∃ f pl, EBD l Gr n w d b t (wS b t (np b t p) S) S' (np b t p) (dp + 1) f pl) ∨
    (dp < 30 ∧ ∃ S2 p2 i2, EOK l Gr n w d b t (wS b t (np b t p) S) S2 (np b t p) i ws (dp + 1) p2 i2 ∧ ((tk b t p2 = 93 ∧ S' = wS b t (np b t p2) (cA S2 i2 26 x (nI (np b t p)) 0)) ∨ (¬ tk b t p2 = 93 ∧ ∃ S6, CK S2 S6 0 0 ∧ S' = cF S6 1 (nI p2))))) := by
  obtain ⟨e, rfl⟩ : ∃ e, D = e + 6 := ⟨D - 6, by omega⟩
  have hpt : p < t := tk_pos (by rw [h91]; decide)
  have hnp := np_gt (b := b) hpt
  refine e_Reader_readIndex (b_Reader_readIndex_0 hg (w_opens hg ho hdp h) (fun v S1 hv => ?_))
  rcases hv with ⟨-, hd, ev, e1⟩ | ⟨-, hd, ev, e1⟩ | ⟨hb, -⟩
  · rw [ev, e1]
    have h1 := CS_wS h
    refine b_Reader_readIndex_7 (fun _ => ?_) (fun z => absurd z (by decide))
    refine b_Reader_readIndex_11 hg (by rw [nI_1]; exact IH hd _ _ _ _ h1 (by omega) (by omega)) (fun S2 hE => ?_)
    rw [CS_s h1]
    rcases hE with ⟨p2, i2, hE⟩ | ⟨f, pl, hE⟩
    · have h2 := hE.1
      have hp2 := CS_p h2
      have ht := CS_t h2
      have hlt := hE.2.2.1
      have hbd := hE.2.2.2.1
      by_cases hi2 : i2 < 4000
      · refine b_Reader_readIndex_26 hg (w_add hg (CS_f h2) (CS_n h2) hi2) (fun v S3 hv => ?_)
        rw [hv.2]
        refine b_Reader_readIndex_37 hg (w_expect hg ho (CS_cA h2)) (fun S4 h4 => b_Reader_readIndex_44 ⟨rfl, Or.inr (Or.inr ⟨hd, S2, p2, i2, hE, ?_⟩)⟩)
        rcases h4 with h4 | ⟨h4, e4⟩
        · exact Or.inl h4
        · exact Or.inr ⟨h4, _, CK_cA (Nat.zero_le _), e4⟩
      · have k93 : ¬ tk b t p2 = 93 := by rw [tk_end (show ¬ p2 < t by omega)]; decide
        refine b_Reader_readIndex_26 hg (w_addFull hg (CS_f h2) (by rw [CS_n h2, show i2 = 4000 by omega])) (fun v S3 hv => ?_)
        rw [hv.2]
        refine b_Reader_readIndex_37 hg (w_expect hg ho h2) (fun S4 h4 => b_Reader_readIndex_44 ⟨rfl, Or.inr (Or.inr ⟨hd, S2, p2, i2, hE, ?_⟩)⟩)
        rcases h4 with ⟨h4, -⟩ | ⟨h4, e4⟩
        · exact absurd h4 k93
        · exact Or.inr ⟨h4, _, CK_rfl, e4⟩
    · have f1 : ¬ S2.1 3 5 = 0 := by rw [hE.1.2.1]; exact nz hE.1.1
      refine b_Reader_readIndex_26 hg (w_addN hg f1) (fun v S3 hv => ?_)
      rw [hv.2]
      refine b_Reader_readIndex_37 hg (w_expectN hg f1) (fun S4 e4 => b_Reader_readIndex_44 ⟨rfl, Or.inr (Or.inl ⟨hd, f, pl, ?_⟩)⟩)
      rw [e4]
      exact hE
  · rw [ev, e1]
    exact b_Reader_readIndex_7 (fun z => absurd rfl z) (fun _ => b_Reader_readIndex_10 ⟨rfl, Or.inl ⟨hd, rfl⟩⟩)
  · exact absurd h91 hb
theorem as_clG (hg : ip_gk (lg_tbl, vwCl, Gr)) {X : zS} {x3 x4 : Int32} (hX : ¬ X.1 3 5 = 0) {Q : zS → Prop} (q : Q X) : zW l Gr (zc n w) 168 M_Reader_readAssignment (d + 7) 79 [some (.ref 66), some (.int (nI dp)), none, some (.int x3), some (.int x4), none] [] X (fun v S' => v = none ∧ Q S') := by
  refine b_Reader_readAssignment_79 (R := fun S' => S' = X) hg (w_exprN hg hX) (fun A e => ?_)
  rw [e]
  have g : ∀ K x5 : Int32, zW l Gr (zc n w) 168 M_Reader_readAssignment (d + 7) 108 [some (.ref 66), none, none, none, some (.int x4), some (.int x5)] [.int K, .ref 35] X (fun v S' => v = none ∧ Q S') := fun K x5 => b_Reader_readAssignment_108 hg (w_addN hg hX) (fun v A hv => by
    rw [hv.2]
    exact b_Reader_readAssignment_115 hg (w_expectN hg hX) (fun A e => b_Reader_readAssignment_122 ⟨rfl, by rw [e]; exact q⟩))
  exact b_Reader_readAssignment_93 (fun _ => b_Reader_readAssignment_106 (g 10 _)) (fun _ => b_Reader_readAssignment_101 (g 12 _))
theorem as_clF (hg : ip_gk (lg_tbl, vwCl, Gr)) {X : zS} {x3 x4 : Int32} (hX : ¬ X.1 3 5 = 0) {Q : zS → Prop} (q : Q X) : zW l Gr (zc n w) 168 M_Reader_readAssignment (d + 7) 73 [some (.ref 66), some (.int (nI dp)), none, some (.int x3), some (.int x4), none] [] X (fun v S' => v = none ∧ Q S') := by
  refine b_Reader_readAssignment_73 hg (w_expectN hg hX) (fun A e => ?_)
  rw [e]
  exact as_clG hg hX q
theorem w_assign (hg : ip_gk (lg_tbl, vwCl, Gr)) (ho : ip_old (lg_tbl, vwCl, Gr)) (htx : ∀ k, k < t → tx (b k)) (hD : 6 ≤ D) (hdp : dp ≤ 30) (KE0 : KE l Gr n w d b t dp (D + 1)) (KE1 : dp < 30 → KE l Gr n w d b t (dp + 1) D) {Dn : Nat} (h : CN b t p i Dn vw S) (hk : tk b t p = 1) : zMv l Gr (zc n w) 168 M_Reader_readAssignment (D + 2) [.ref 66, .int (nI dp)] S (fun S' => SR l Gr n w d b t S S' p i Dn vw dp) := by
  obtain ⟨e, rfl⟩ : ∃ e, D = e + 6 := ⟨D - 6, by omega⟩
  have h0 := h.1
  have ht := CS_t h0
  have hp := CS_p h0
  have hpt : p < t := tk_pos (by rw [hk]; decide)
  have hip := h.2.2.2.2.1
  have hgt := np_gt (b := b) hpt
  have hnp := np_ok (b := b) hp
  have dsp : ∀ {T T' q j N iw}, HS b t q j dp N vw iw p T → zMv l Gr (zc n w) 168 M_Mo_assignment (d + 13) [.ref 105, .int (nI p)] (zi T 73 6 (nI p)) (fun A => A = T') → PX l Gr n w d T T' := fun hH hm =>
    px_asg hg ho htx hH (by omega) hpt (fun y => by rw [hk] at y; exact absurd y.1 (by decide)) (by rw [hk]; decide) (by rw [hk]; decide) (by rw [hk]; decide) (fun y => by rw [hk] at y; exact absurd y.2 (by decide)) hm
  refine e_Reader_readAssignment (b_Reader_readAssignment_0 hg (w_add hg (CS_f h0) (CS_n h0) (by omega)) (fun v A hv => ?_))
  rw [hv.2, CS_s h0]
  have h1 : CS b t p (i + 1) 0 (cA S i 1 0 (nI p) 0) := CS_cA h0
  obtain ⟨S1, eS1⟩ : ∃ S1, S1 = cA S i 1 0 (nI p) 0 := ⟨_, rfl⟩
  have r1 := cA_r (S := S) (i0 := i) (x1 := 1) (x2 := 0) (x3 := nI p) (x4 := 0)
  have ck1 : CK S S1 i 0 := by rw [eS1]; exact CK_cA (Nat.le_refl _)
  rw [← eS1] at h1 r1 ⊢
  refine b_Reader_readAssignment_16 hg (w_takeName hg ho h1) (fun v S2 hv => ?_)
  obtain ⟨ev, hv⟩ := hv
  rw [ev]
  rcases hv with ⟨-, hsz, e2⟩ | ⟨hbad, e2⟩
  · rw [e2]
    have h2 := CS_wS h1
    have ck2 : CK S (wS b t (np b t p) S1) i 0 := CK_tr ck1 CK_wS
    have r2 : (wS b t (np b t p) S1).1 4 i = 1 ∧ (wS b t (np b t p) S1).1 6 i = nI p := ⟨(wS_c (by decide)).trans r1.1, (wS_c (by decide)).trans r1.2.2.1⟩
    obtain ⟨S2', eS2⟩ : ∃ S2', S2' = wS b t (np b t p) S1 := ⟨_, rfl⟩
    obtain ⟨p1, ep1⟩ : ∃ p1, p1 = np b t p := ⟨_, rfl⟩
    rw [← ep1] at h2 ck2 r2 eS2 hgt hnp ⊢
    rw [← eS2] at h2 ck2 r2 ⊢
    -- the second instruction
    have two : ∀ K : Int32, ∃ S3, S3 = cA S2' (i + 1) K (-1) (nI p) 0 ∧ CS b t p1 (i + 2) 0 S3 ∧ CK S S3 i 0 ∧ (S3.1 4 i = 1 ∧ S3.1 6 i = nI p ∧ S3.1 4 (i + 1) = K ∧ S3.1 6 (i + 1) = nI p) := fun K => by
      have r := cA_r (S := S2') (i0 := i + 1) (x1 := K) (x2 := -1) (x3 := nI p) (x4 := 0)
      have o := cA_o (S := S2') (i0 := i + 1) (k := i) (x1 := K) (x2 := -1) (x3 := nI p) (x4 := 0) (by omega)
      exact ⟨_, rfl, CS_cA h2, CK_tr ck2 (CK_cA (by omega)), o.1.trans r2.1, o.2.2.1.trans r2.2, r.1, r.2.2.1⟩
    refine b_Reader_readAssignment_21 (fun z => b_Reader_readAssignment_38 (b_Reader_readAssignment_39 (fun _ => b_Reader_readAssignment_53 ?_) (fun y => absurd rfl y))) (fun z => b_Reader_readAssignment_34 (b_Reader_readAssignment_39 (fun y => absurd y (by decide)) (fun _ => b_Reader_readAssignment_48 ?_)))
    · rw [CS_k h2] at z
      by_cases hi1 : i + 1 < 4000
      case neg =>
        have np1 : ¬ p1 < t := by omega
        have k61 : ¬ tk b t p1 = 61 := by rw [tk_end np1]; decide
        refine b_Reader_readAssignment_55 hg (w_addFull hg (CS_f h2) (by rw [CS_n h2, show i + 1 = 4000 by omega])) (fun v A hv => ?_)
        rw [hv.2]
        refine b_Reader_readAssignment_60 (fun _ => b_Reader_readAssignment_73 hg (w_expect hg ho h2) (fun S4 h4 => ?_)) (fun y => absurd rfl y)
        rcases h4 with ⟨y, -⟩ | ⟨_, e4⟩
        · exact absurd y k61
        · rw [e4]
          refine as_clG hg (by rw [cF_f.1]; decide) (Q := fun S' => SR l Gr n w d b t S S' p i Dn vw dp) (Or.inr ⟨1, nI p1, SB_F (by decide) (SK_CK (CK_le ck2 (Nat.zero_le _) (Nat.le_refl _))), fun T q j N iw hH hTB => ?_⟩)
          obtain ⟨v, T4, N', hid, M4, mk4, b4, rT, pre⟩ := as_1 (l := l) (Gr := Gr) (n := n) (w := w) (d := d) hg ho htx hH hk hsz
          rw [← ep1] at M4 pre
          rw [if_neg z] at pre
          obtain ⟨Y, eY⟩ : ∃ Y, Y = mF (zi T4 73 6 (nI p1)) 1 (nI p1) := ⟨_, rfl⟩
          have y7 : Y.1 73 7 = 1 := by rw [eY]; exact mF_f.1
          have fy : ¬ Y.1 73 7 = 0 := by rw [y7]; decide
          refine PZ_of (T' := Y) (by decide) (dsp hH (e_Mo_assignment (pre _ (b_Mo_assignment_54 (fun _ => b_Mo_assignment_115 (fun y => absurd (MC_f M4) y) (fun _ => b_Mo_assignment_122 hg (wm_sgF hg htx (by decide) (by decide) (by decide) M4.1 (gp_wb hnp.1) (MC_f M4) k61) (fun A eA => ?_))) (fun y => absurd rfl y))))) y7 (by rw [eY]; exact mF_f.2) (PK_MK (m := 0) (MK_tr (MK_le mk4 (Nat.zero_le _) (Nat.le_refl _)) (by rw [eY]; exact MK_tr (MK_zi (by omega)) MK_mF)))
          rw [eA, ← eY]
          exact b_Mo_assignment_128 (fun _ => b_Mo_assignment_139 (fun _ => b_Mo_assignment_182 ⟨rfl, rfl⟩) (fun y => absurd y fy)) (fun y => absurd y fy)
      refine b_Reader_readAssignment_55 hg (w_add hg (CS_f h2) (CS_n h2) hi1) (fun v A hv => ?_)
      rw [hv.1, hv.2]
      obtain ⟨S3, eS3, h3, ck3, rr⟩ := two 9
      rw [← eS3]
      refine b_Reader_readAssignment_60 (fun _ => as_tail (el := false) hg ho htx (by omega) hdp KE0 h hk h3 ck3 (by omega) ⟨by omega, by omega⟩ (Hx_cs rr.1 (by decide) (by decide) (by decide) (Hx_cs rr.2.2.1 (by decide) (by decide) (by decide) (Hx_nil (by omega) (by omega)) (by omega) (by omega)) (by omega) (by omega)) (fun T q j N iw hH => ?_)) (fun y => absurd rfl y)
      obtain ⟨v, T4, N', hid, M4, mk4, b4, rT, pre⟩ := as_1 (l := l) (Gr := Gr) (n := n) (w := w) (d := d) hg ho htx hH hk hsz
      rw [← ep1] at M4 b4 rT pre
      rw [if_neg z] at rT pre
      refine ⟨v, T4, p1, j + 2, N', hid, M4, gp_wb hnp.1, mk4, b4, ⟨⟨rr.1, rr.2.1, rr.2.2.1, rr.2.2.2, rT.1, rT.2.1, rT.2.2.1, rT.2.2.2.1, rT.2.2.2.2⟩, rfl, rfl⟩, fun Q kk => pre Q (b_Mo_assignment_54 (fun _ => kk) (fun y => absurd rfl y))⟩
    · rw [CS_k h2] at z
      have hpt1 : p1 < t := tk_pos (by rw [z]; decide)
      refine b_Reader_readAssignment_55 hg (w_add hg (CS_f h2) (CS_n h2) (by omega)) (fun v A hv => ?_)
      rw [hv.1, hv.2]
      obtain ⟨S3, eS3, h3, ck3, rr⟩ := two 11
      rw [← eS3]
      have hgt1 := np_gt (b := b) hpt1
      have hnp1 := np_ok (b := b) (Nat.le_of_lt hpt1)
      obtain ⟨te1, -⟩ := te_s htx hnp.2.2 (c := 91) (by decide) (by decide) (by decide) z
      have g12 : gp b t (p1 + 1) = np b t p1 := by rw [np, te1]
      -- the reference ahead of the index
      have st : ∀ T q j N iw, HS b t q j dp N vw iw p T → ∃ v T4 N', nid b t T4 v p ∧ MC b t p1 (j + 2) dp 0 N' T4 ∧ MK b t T T4 j 0 ∧ bud b t (2 * dp + 1) (j + 2) 0 N' p1 ∧ (T4.1 78 j = 20 ∧ T4.1 81 j = nI p ∧ T4.1 78 (j + 1) = 33 ∧ T4.1 79 (j + 1) = nI v ∧ T4.1 81 (j + 1) = nI p) ∧
          (∀ Q, zW l Gr (zc n w) 168 M_Mo_assignment (d + 13) 60 [some (.ref 105), some (.int (nI p)), some (.int (nI v)), none, some (.int 1)] [] T4 Q → zW l Gr (zc n w) 168 M_Mo_assignment (d + 13) 0 [some (.ref 105), some (.int (nI p)), none, none, none] [] (zi T 73 6 (nI p)) Q) := fun T q j N iw hH => by
        obtain ⟨v, T4, N', hid, M4, mk4, b4, rT, pre⟩ := as_1 (l := l) (Gr := Gr) (n := n) (w := w) (d := d) hg ho htx hH hk hsz
        rw [← ep1] at M4 b4 rT pre
        rw [if_pos z] at rT pre
        exact ⟨v, T4, N', hid, M4, mk4, b4, rT, fun Q kk => pre Q (b_Mo_assignment_54 (fun y => absurd y (by decide)) (fun _ => kk))⟩
      -- its end behind a FAULT
      have rF : ∀ (Y : zS) (v : Int32), ¬ Y.1 73 7 = 0 → ∀ Q : zS → Prop, Q Y → zW l Gr (zc n w) 168 M_Mo_assignment (d + 13) 115 [some (.ref 105), some (.int (nI p)), some (.int v), none, some (.int 1)] [] Y (fun v S' => v = none ∧ Q S') := fun Y v fy Q q =>
        b_Mo_assignment_115 (fun _ => b_Mo_assignment_128 (fun _ => b_Mo_assignment_139 (fun _ => b_Mo_assignment_182 ⟨rfl, q⟩) (fun y => absurd y fy)) (fun y => absurd y fy)) (fun y => absurd y fy)
      refine b_Reader_readAssignment_60 (fun y => absurd y (by decide)) (fun _ => b_Reader_readAssignment_66 hg (w_index2 hg ho (by omega) hdp KE1 h3 (by omega) (by omega) z) (fun S5 h5 => ?_))
      rcases h5 with ⟨hd, e5⟩ | ⟨hd, f, pl, hE⟩ | ⟨hd, S5', p2, i2, hE, hc⟩
      · rw [e5]
        have f5 : ¬ (cF S3 3 (nI p1)).1 3 5 = 0 := by rw [cF_f.1]; decide
        refine as_clF hg f5 (Q := fun S' => SR l Gr n w d b t S S' p i Dn vw dp) (Or.inr ⟨3, nI p1, SB_F (by decide) (SK_CK (CK_le ck3 (Nat.zero_le _) (Nat.le_refl _))), fun T q j N iw hH hTB => ?_⟩)
        obtain ⟨v, T4, N', hid, M4, mk4, b4, rT, pre⟩ := st T q j N iw hH
        subst hd
        obtain ⟨Y, eY⟩ : ∃ Y, Y = zi (zi (mF T4 3 (nI p1)) 73 19 (nI 31)) 73 6 (nI (p1 + 1)) := ⟨_, rfl⟩
        have y7 : Y.1 73 7 = 3 := by rw [eY, zi_k (by decide), zi_k (by decide)]; exact mF_f.1
        have fy : ¬ Y.1 73 7 = 0 := by rw [y7]; decide
        refine PZ_of (T' := Y) (by decide) (dsp hH (e_Mo_assignment (pre _ (b_Mo_assignment_60 hg (wm_deeperF hg (MC_19 M4) (MC_f M4)) (fun A eA => ?_))))) y7 (by rw [eY, zi_k (by decide), zi_k (by decide)]; exact mF_f.2) (PK_MK (m := 0) (MK_tr (MK_le mk4 (Nat.zero_le _) (Nat.le_refl _)) (by rw [eY]; exact MK_tr (MK_tr MK_mF (MK_zi (by omega))) (MK_zi (by omega)))))
        rw [MC_6 M4] at eA
        rw [eA]
        refine b_Mo_assignment_68 (R := fun A => A = Y) hg ?_ (fun A eA => ?_)
        · rw [show (zi (mF T4 3 (nI p1)) 73 19 (nI 31)).1 73 6 = nI p1 from by rw [zi_k (by decide), mF_k (by decide)]; exact MC_6 M4, nI_1, ← eY]
          exact x_n fy
        · rw [eA]
          exact b_Mo_assignment_82 (fun _ => rF Y _ fy (fun S' => S' = Y) rfl) (fun y => absurd y fy)
      · have f5 : ¬ S5.1 3 5 = 0 := by rw [hE.1.2.1]; exact nz hE.1.1
        refine as_clF hg f5 (Q := fun S' => SR l Gr n w d b t S S' p i Dn vw dp) (Or.inr ⟨f, pl, SB_CB (SK_CK (CK_le (CK_tr ck3 CK_wS) (Nat.zero_le _) (Nat.le_refl _))) hE.1, fun T q j N iw hH hTB => ?_⟩)
        obtain ⟨v, T4, N', hid, M4, mk4, b4, rT, pre⟩ := st T q j N iw hH
        have M5 : MC b t (p1 + 1) (j + 2) (dp + 1) 0 N' (zi (zi T4 73 19 (nI (dp + 1))) 73 6 (nI (p1 + 1))) := MC_at (MC_dp M4) (by omega)
        obtain ⟨Y, kx, y7, y8, mkY, -⟩ := x_badD (D := d + 11) (by omega) hE M5 g12 (bud_le b4 (by omega))
        have fy : ¬ Y.1 73 7 = 0 := by rw [y7]; exact nz hE.1.1
        refine PZ_of (T' := Y) (nz hE.1.1) (dsp hH (e_Mo_assignment (pre _ (b_Mo_assignment_60 hg (wm_deeper hg (MC_19 M4) hd) (fun A eA => ?_))))) y7 y8 (PK_MK (m := 0) (MK_tr (MK_le mk4 (Nat.zero_le _) (Nat.le_refl _)) (MK_tr (MK_tr (MK_zi (by omega)) (MK_zi (by omega))) mkY)))
        rw [eA]
        refine b_Mo_assignment_68 (R := fun A => A = Y) hg ?_ (fun A eA => ?_)
        · rw [show (zi T4 73 19 (nI (dp + 1))).1 73 6 = nI p1 from by rw [zi_k (by decide)]; exact MC_6 M4, nI_1]
          exact kx
        · rw [eA]
          exact b_Mo_assignment_82 (fun _ => rF Y _ fy (fun S' => S' = Y) rfl) (fun y => absurd y fy)
      · have hS5 := hE.1
        have ck5 := hE.2.1
        have hlt5 := hE.2.2.1
        have hbd5 := hE.2.2.2.1
        have hp2 := CS_p hS5
        have wb2 := hS5.2.2.2.2.2.2.2.2.1
        have h6 : CS b t p2 (i2 + 1) 0 (cA S5' i2 26 (nI (i + 1)) (nI (np b t p1)) 0) := CS_cA hS5
        have r6 := cA_r (S := S5') (i0 := i2) (x1 := 26) (x2 := nI (i + 1)) (x3 := nI (np b t p1)) (x4 := 0)
        have o6 : ∀ a, a < i2 → (cA S5' i2 26 (nI (i + 1)) (nI (np b t p1)) 0).1 4 a = S5'.1 4 a ∧ (cA S5' i2 26 (nI (i + 1)) (nI (np b t p1)) 0).1 5 a = S5'.1 5 a ∧ (cA S5' i2 26 (nI (i + 1)) (nI (np b t p1)) 0).1 6 a = S5'.1 6 a ∧ (cA S5' i2 26 (nI (i + 1)) (nI (np b t p1)) 0).1 7 a = S5'.1 7 a := fun a ha => cA_o (by omega)
        obtain ⟨S6, eS6⟩ : ∃ S6, S6 = cA S5' i2 26 (nI (i + 1)) (nI (np b t p1)) 0 := ⟨_, rfl⟩
        have ck35 : CK S3 S5' (i + 2) 0 := CK_tr CK_wS ck5
        have ck6 : CK S S6 i 0 := by rw [eS6]; exact CK_tr ck3 (CK_tr (CK_le ck35 (by omega) (Nat.le_refl _)) (CK_cA (by omega)))
        rw [← eS6] at h6 r6 o6
        -- the reference up to the ]
        have st2 : ∀ T q j N iw, HS b t q j dp N vw iw p T → ∃ v T6 j1 N5, nid b t T6 v p ∧ MC b t p2 (j1 + 1) (dp + 1) 0 N5 T6 ∧ MK b t T T6 j 0 ∧ bud b t (2 * dp + 1) (j1 + 1) 0 N5 (p2 + 1) ∧ (gX w S5' T6 (nid b t T6) (np b t p1) (i + 2) i2 (j + 2) j1 ∧ T6.1 78 j1 = 42 ∧ T6.1 79 j1 = nI v ∧ T6.1 81 j1 = nI p) ∧ (T6.1 78 j = 20 ∧ T6.1 81 j = nI p ∧ T6.1 78 (j + 1) = 33 ∧ T6.1 79 (j + 1) = nI v ∧ T6.1 81 (j + 1) = nI p) ∧
            (∀ Q, zW l Gr (zc n w) 168 M_Mo_assignment (d + 13) 98 [some (.ref 105), some (.int (nI p)), some (.int (nI v)), none, some (.int 1)] [.int (nI j1)] T6 Q → zW l Gr (zc n w) 168 M_Mo_assignment (d + 13) 0 [some (.ref 105), some (.int (nI p)), none, none, none] [] (zi T 73 6 (nI p)) Q) := fun T q j N iw hH => by
          obtain ⟨v, T4, N', hid, M4, mk4, b4, rT, pre⟩ := st T q j N iw hH
          have M5 : MC b t (p1 + 1) (j + 2) (dp + 1) 0 N' (zi (zi T4 73 19 (nI (dp + 1))) 73 6 (nI (p1 + 1))) := MC_at (MC_dp M4) (by omega)
          have mk5 : MK b t T4 (zi (zi T4 73 19 (nI (dp + 1))) 73 6 (nI (p1 + 1))) (j + 2) 0 := MK_tr (MK_zi (by omega)) (MK_zi (by omega))
          have b41 := b4.1
          obtain ⟨Y, j1, N5, kx, MY, mkY, bY, gx⟩ := x_okD (D := d + 11) (X := 2 * dp + 4) (by omega) hg htx (by omega) hE M5 g12 ⟨by omega, by omega, nb_le b4.2.2 (by omega)⟩
          have bx := gX_bnd gx
          have b1 := bY.1
          have hpY := MC_p2 MY
          obtain ⟨T6, eT6⟩ : ∃ T6, T6 = mP Y j1 42 (nI v) 0 (nI p) := ⟨_, rfl⟩
          have M6 : MC b t p2 (j1 + 1) (dp + 1) 0 N5 T6 := by rw [eT6]; exact MC_mP MY
          have mk6 : MK b t Y T6 j1 0 := by rw [eT6]; exact MK_mP (Nat.le_refl _)
          have mk46 : MK b t T4 T6 (j + 2) 0 := MK_tr mk5 (MK_tr mkY (MK_le mk6 (by omega) (Nat.le_refl _)))
          have rY := mP_r (T := Y) (j0 := j1) (x1 := 42) (x2 := nI v) (x3 := 0) (x4 := nI p)
          rw [← eT6] at rY
          have c0 := mk46.1 j (Nat.zero_le _) (by omega)
          have c1 := mk46.1 (j + 1) (Nat.zero_le _) (by omega)
          refine ⟨v, T6, j1, N5, nid_MK hid mk46, M6, MK_tr mk4 (MK_le mk46 (by omega) (Nat.le_refl _)), ⟨by omega, by omega, nb_le bY.2.2 (by omega)⟩, ⟨gX_cong mk6.2.2.2.2.2 gx cgS_rfl (fun a q1 q2 => mk6.1 a (Nat.zero_le _) q2), rY.1, rY.2.1, rY.2.2.2⟩, ⟨c0.1.trans rT.1, c0.2.2.2.1.trans rT.2.1, c1.1.trans rT.2.2.1, c1.2.1.trans rT.2.2.2.1, c1.2.2.2.1.trans rT.2.2.2.2⟩, fun Q kk => pre Q ?_⟩
          refine b_Mo_assignment_60 hg (wm_deeper hg (MC_19 M4) hd) (fun A eA => ?_)
          rw [eA]
          refine b_Mo_assignment_68 (R := fun A => A = Y) hg ?_ (fun A eA => ?_)
          · rw [show (zi T4 73 19 (nI (dp + 1))).1 73 6 = nI p1 from by rw [zi_k (by decide)]; exact MC_6 M4, nI_1]
            exact kx
          · rw [eA]
            refine b_Mo_assignment_82 (fun y => absurd (MC_f MY) y) (fun _ => b_Mo_assignment_89 hg (wm_put (MC_13 MY) (by omega)) (fun a A hv => ?_))
            rw [hv.1, hv.2, ← eT6]
            exact kk
        rcases hc with ⟨k93, e5⟩ | ⟨k93, S8, ck8, e5⟩
        · have hpt2 : p2 < t := tk_pos (by rw [k93]; decide)
          have hgt2 := np_gt (b := b) hpt2
          obtain ⟨te2, -⟩ := te_s htx hp2 (c := 93) (by decide) (by decide) (by decide) k93
          have h7 := CS_wS h6
          have ck7 : CK S (wS b t (np b t p2) S6) i 0 := CK_tr ck6 CK_wS
          rw [e5, ← eS6]
          have w7 : ∀ c k, c ≠ 38 → (wS b t (np b t p2) S6).1 c k = S6.1 c k := fun c k hc => wS_c hc
          have cs : ∀ a, a < i2 → (wS b t (np b t p2) S6).1 4 a = S5'.1 4 a ∧ (wS b t (np b t p2) S6).1 5 a = S5'.1 5 a ∧ (wS b t (np b t p2) S6).1 6 a = S5'.1 6 a ∧ (wS b t (np b t p2) S6).1 7 a = S5'.1 7 a := fun a ha => by
            have x := o6 a ha
            exact ⟨(w7 4 a (by decide)).trans x.1, (w7 5 a (by decide)).trans x.2.1, (w7 6 a (by decide)).trans x.2.2.1, (w7 7 a (by decide)).trans x.2.2.2⟩
          have hxI : Hx (wS b t (np b t p2) S6) i (i2 + 1) 0 1 341 ((np b t p2 : Int) - p) := by
            have s0 := ck35.1 i (Nat.zero_le _) (by omega)
            have s1 := ck35.1 (i + 1) (Nat.zero_le _) (by omega)
            have A := Hx_cs (s0.1.trans rr.1) (by decide) (by decide) (by decide) (Hx_cs (s1.1.trans rr.2.2.1) (by decide) (by decide) (by decide) (Hx_mono hbd5.2.2 (H1 := 341) (H2 := (np b t p2 : Int) - p) (by omega) (by omega)) (by omega) (by omega)) (by omega) (by omega)
            have A2 : Hx S6 i i2 1 1 341 ((np b t p2 : Int) - p) := by rw [eS6]; exact Hx_cA A (Nat.le_refl _)
            exact Hx_wS (Hx_eq (Hx_sn (e1 := -1) (e2 := 0) A2 r6.1 (by decide) (by decide) (by decide) (by omega) (by omega)) (by omega) (by omega))
          refine as_tail (el := true) hg ho htx (by omega) hdp KE0 h hk h7 ck7 (by omega) ⟨by omega, by omega⟩ hxI (fun T q j N iw hH => ?_)
          obtain ⟨v, T6, j1, N5, hid, M6, mk6, b6, ⟨gx, y1, y2, y3⟩, rT, pre⟩ := st2 T q j N iw hH
          have bx := gX_bnd gx
          have M7 : MC b t (p2 + 1) (j1 + 1) (dp + 1) 0 N5 (zi T6 73 6 (nI (p2 + 1))) := MC_at M6 (by omega)
          obtain ⟨T7, eT7⟩ : ∃ T7, T7 = zi (zi T6 73 6 (nI (p2 + 1))) 73 19 (nI dp) := ⟨_, rfl⟩
          have M8 : MC b t (p2 + 1) (j1 + 1) dp 0 N5 T7 := by rw [eT7]; exact MC_dp M7
          have mk7 : MK b t T6 T7 (j1 + 1) 0 := by rw [eT7]; exact MK_tr (MK_zi (by omega)) (MK_zi (by omega))
          have c0 := mk7.1 j (Nat.zero_le _) (by omega)
          have c1 := mk7.1 (j + 1) (Nat.zero_le _) (by omega)
          have c2 := mk7.1 j1 (Nat.zero_le _) (by omega)
          have s0 := cs i (by omega)
          have s1 := cs (i + 1) (by omega)
          have k0 := ck35.1 i (Nat.zero_le _) (by omega)
          have k1 := ck35.1 (i + 1) (Nat.zero_le _) (by omega)
          refine ⟨v, T7, p2 + 1, j1 + 1, N5, nid_MK hid mk7, M8, by rw [np, te2], MK_tr mk6 (MK_le mk7 (by omega) (Nat.le_refl _)), b6, ⟨⟨s0.1.trans (k0.1.trans rr.1), s0.2.2.1.trans (k0.2.2.1.trans rr.2.1), s1.1.trans (k1.1.trans rr.2.2.1), s1.2.2.1.trans (k1.2.2.1.trans rr.2.2.2), c0.1.trans rT.1, c0.2.2.2.1.trans rT.2.1, c1.1.trans rT.2.2.1, c1.2.1.trans rT.2.2.2.1, c1.2.2.2.1.trans rT.2.2.2.2⟩, np b t p1, i2, j1, gX_cong mk7.2.2.2.2.2 gx (fun a q1 q2 => cs a q2) (fun a q1 q2 => mk7.1 a (Nat.zero_le _) (by omega)), rfl, rfl, (w7 4 i2 (by decide)).trans r6.1, (w7 5 i2 (by decide)).trans r6.2.1, (w7 6 i2 (by decide)).trans r6.2.2.1, c2.1.trans y1, c2.2.1.trans y2, c2.2.2.2.1.trans y3⟩, fun Q kk => pre Q ?_⟩
          refine b_Mo_assignment_98 hg (wm_sg hg htx (by decide) (by decide) (by decide) M6.1 (gp_wb wb2) k93) (fun A eA => ?_)
          rw [eA]
          refine b_Mo_assignment_105 ?_
          rw [MC_19 M7, show nI (dp + 1) - 1 = nI dp from nI_pred dp, ← eT7]
          exact kk
        · rw [e5]
          have f5 : ¬ (cF S8 1 (nI p2)).1 3 5 = 0 := by rw [cF_f.1]; decide
          refine as_clF hg f5 (Q := fun S' => SR l Gr n w d b t S S' p i Dn vw dp) (Or.inr ⟨1, nI p2, SB_F (by decide) (SK_CK (CK_tr (CK_le (CK_tr ck3 (CK_le ck35 (by omega) (Nat.le_refl _))) (Nat.zero_le _) (Nat.le_refl _)) ck8)), fun T q j N iw hH hTB => ?_⟩)
          obtain ⟨v, T6, j1, N5, hid, M6, mk6, b6, -, rT, pre⟩ := st2 T q j N iw hH
          obtain ⟨Y, eY⟩ : ∃ Y, Y = zi (mF (zi T6 73 6 (nI p2)) 1 (nI p2)) 73 19 (nI dp) := ⟨_, rfl⟩
          have y7 : Y.1 73 7 = 1 := by rw [eY, zi_k (by decide)]; exact mF_f.1
          have fy : ¬ Y.1 73 7 = 0 := by rw [y7]; decide
          refine PZ_of (T' := Y) (by decide) (dsp hH (e_Mo_assignment (pre _ (b_Mo_assignment_98 hg (wm_sgF hg htx (by decide) (by decide) (by decide) M6.1 (gp_wb wb2) (MC_f M6) k93) (fun A eA => ?_))))) y7 (by rw [eY, zi_k (by decide)]; exact mF_f.2) (PK_MK (m := 0) (MK_tr (MK_le mk6 (Nat.zero_le _) (Nat.le_refl _)) (by rw [eY]; exact MK_tr (MK_tr (MK_zi (by omega)) MK_mF) (MK_zi (by omega)))))
          rw [eA]
          refine b_Mo_assignment_105 ?_
          rw [show (mF (zi T6 73 6 (nI p2)) 1 (nI p2)).1 73 19 - 1 = nI dp from by rw [mF_k (by decide), zi_k (by decide), MC_19 M6]; exact nI_pred dp, ← eY]
          exact rF Y _ fy (fun S' => S' = Y) rfl
  · have hsz : ¬ te b t p - p ≤ 16 := hbad.elim (fun y => absurd hk y) (fun y => y.2)
    rw [if_pos hk] at e2
    rw [e2]
    have f2 : ¬ (cF S1 2 (nI p)).1 3 5 = 0 := by rw [cF_f.1]; decide
    have k2 : (cF S1 2 (nI p)).1 38 2 = tk b t p := by
      show (zi (zi S1 3 5 2) 3 6 (nI p)).1 38 2 = _
      rw [zi_c (by decide), zi_c (by decide)]
      exact CS_k h1
    refine b_Reader_readAssignment_21 (fun _ => b_Reader_readAssignment_38 (b_Reader_readAssignment_39 (fun _ => b_Reader_readAssignment_53 (b_Reader_readAssignment_55 hg (w_addN hg f2) (fun v A hv => ?_))) (fun y => absurd rfl y))) (fun y => ?_)
    · rw [hv.2]
      exact b_Reader_readAssignment_60 (fun _ => as_clF hg f2 (Q := fun S' => SR l Gr n w d b t S S' p i Dn vw dp) (Or.inr ⟨2, nI p, SB_F (by decide) (SK_CK (CK_le ck1 (Nat.zero_le _) (Nat.le_refl _))), fun T q j N iw hH hTB => as_F hg ho htx hH (by omega) hk hsz⟩)) (fun y => absurd rfl y)
    · rw [k2, hk] at y
      exact absurd y (by decide)
end AS2
