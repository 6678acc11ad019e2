/-! readChoice -/
def CR (l : Launch) (Gr : zG) (n w d : Nat) (b : Nat → Int32) (t : Nat) (S S' : zS) (p i ws dp : Nat) : Prop := (∃ p' i', COK l Gr n w d b t S S' p i ws dp p' i') ∨ ∃ f pl, CBD l Gr n w d b t S S' p dp f pl
section RD6
variable {l : Launch} {Gr : zG} {n w : Nat} {d : Nat} {b : Nat → Int32} {t p i ws dp p' i' q j m N X u : Nat} {S S' T T' : zS}
theorem HC_HF (h : HC b t q j dp m N X p T) : HF b t q j dp m N X 0 p T := by
  obtain ⟨hC, hgq, hb, htop⟩ := h
  refine ⟨hC, hgq, hb, Nat.zero_le _, Nat.zero_le _, fun k hk => absurd hk (Nat.not_lt_zero k), ?_⟩
  by_cases z : m = 0
  · exact Or.inl z.symm
  · right
    rw [show m - 1 - 0 = m - 1 by omega]
    exact htop.elim (fun y => absurd y z) (fun y => y.2)
/-- a CHOICE in the middle: x operators wait -/
def CI (l : Launch) (Gr : zG) (n w d : Nat) (b : Nat → Int32) (t : Nat) (S T : zS) (p i ws i1 p1 j dp m X x : Nat) : Prop := ∃ T' q' j1 N', RX l Gr n w d T 1 T' 0 ∧ MC b t q' j1 dp (m + x) N' T' ∧ gp b t q' = p1 ∧ MK b t T T' j m ∧ bud b t X j1 (m + x) N' q' ∧ gC w S T' (nid b t T') ws m p i j x i1 j1
theorem gC_bins {os : Nat → Nat} {S1 T1 : zS} {ni : Nat → Nat → Prop} {bo x i1 j1 : Nat} (hg : gC w S1 T1 ni bo m p i j x i1 j1) (ho : ∀ k, k < x → S1.1 35 (bo + k) = nI (37 + os k) ∧ ¬ os k = 0 ∧ os k ≤ 18) : bins T1 m x os := fun k hk => by
  obtain ⟨o, o1, o2, f1, f2, f3⟩ := gC_T x i1 j1 hg k hk
  obtain ⟨g1, g2, g3⟩ := ho k hk
  have : 37 + o = 37 + os k := (nI_eq (by omega) (by omega)).mp (f1.symm.trans g1)
  have e : o = os k := by omega
  subst e
  exact ⟨f2, f3, g2, g3⟩
theorem wx_choice (hg : ip_gk (lg_tbl, vwCl, Gr)) (ho : ip_old (lg_tbl, vwCl, Gr)) (htx : ∀ k, k < t → tx (b k)) {D : Nat} (hD : 8 ≤ D) (hdp : dp ≤ 30) (IHF : KF l Gr n w d b t dp D) {S0 : zS} (hip : i ≤ p) (hws : ws ≤ 10 * dp) {Q : Option Value → zS → Prop} (hQ : ∀ S', CR l Gr n w d b t S0 S' p i ws dp → Q none S') :
    ∀ (f c : Nat) (S : zS) (p1 i1 x : Nat) (os : Nat → Nat), t - p1 ≤ f → CS b t p1 i1 (ws + x) S → CK S0 S i ws → p < p1 → i + wzb b t p < i1 → i1 + x + p ≤ i + p1 → c + p < p1 → x ≤ 10 → p + 2 * x < p1 → Hx S i i1 (x + 1) (x + 1) (341 - 11 * (dp : Int)) ((p1 : Int) - p + 1) → (∀ k, k < x → S.1 35 (ws + k) = nI (37 + os k) ∧ ¬ os k = 0 ∧ os k ≤ 18) → (∀ k, k < x → k + 1 ≤ rk (os k)) → (∀ T q j m N X, HC b t q j dp m N X p T → CI l Gr n w d b t S T p i ws i1 p1 j dp m X x) → zW l Gr (zc n w) 168 M_Reader_readChoice (D + 1) 12 [some (.ref 66), some (.int (nI dp)), some (.int (nI ws)), some (.int (nI c)), none] [] S Q := by
  intro f
  obtain ⟨e, rfl⟩ : ∃ e, D = e + 6 := ⟨D - 6, by omega⟩
  induction f with
  | zero =>
    intro c S p1 i1 x os hf h ck hp1 hi1 hbd hc hx h2x hhx hos hrk hI
    have hp := h.2.2.2.2.2.2.2.2.1.1
    have ht := h.2.2.2.2.2.2.2.2.2
    have epe : p1 = t := by omega
    have ek : tk b t p1 = 0 := by unfold tk; rw [if_neg (by omega)]
    have eo : okn (tk b t p1) = 0 := by rw [ek]; decide
    refine b_Reader_readChoice_12 (fun z => absurd z (nI_ge (a := c) (b := 4000) (by omega) (by omega))) (fun _ => b_Reader_readChoice_19 (fun z => absurd h.2.2.2.2.2.2.1 z) (fun _ => ?_))
    refine b_Reader_readChoice_29 hg w_operatorOf (fun v S1 hv => ?_)
    rw [hv.1, hv.2, h.2.2.2.1, eo]
    refine b_Reader_readChoice_39 hg (w_rank ho (o := 0) (by omega)) (fun v S1 hv => ?_)
    rw [hv.1, hv.2]
    refine b_Reader_readChoice_48 hg (w_settle (os := os) (r := rk 0) (bo := ws) (x := x) (i := i1) hg ho (by decide) (by omega) (by omega) h.2.2.2.2.2.1 h.2.2.2.2.2.2.1 h.2.2.2.2.2.2.2.1 hos) (fun S1 e1 => ?_)
    rw [show rk 0 = 0 from rfl, pops_0] at e1
    rw [e1]
    refine b_Reader_readChoice_51 (fun _ => b_Reader_readChoice_69 (hQ _ (Or.inl ⟨p1, i1 + x, ?_⟩))) (fun z => absurd rfl z)
    have h2 := cSt_CS x S i1 (ws + x) h (by omega)
    rw [show ws + x - x = ws by omega] at h2
    refine ⟨h2, CK_tr ck (cSt_CK x S i1 (ws + x) (by omega)), hp1, ⟨by omega, by omega, Hx_eq (Hx_st x S i1 (ws + x) (fun k hk => ⟨os (x - 1 - k), by have := (hos (x - 1 - k) (by omega)).2.1; omega, (hos (x - 1 - k) (by omega)).2.2, by rw [show ws + x - 1 - k = ws + (x - 1 - k) by omega]; exact (hos (x - 1 - k) (by omega)).1⟩) (by omega) hhx) (by omega) (by omega)⟩, eo, fun T q j m N X hH => ?_⟩
    obtain ⟨T', q', j1, N', rx, hM, hgp, mk, hb, hgC⟩ := hI T q j m N X hH
    have bb := gC_bnd x i1 j1 hgC
    refine ⟨T', q', x, os, j1, N', rx, hM, hgp, mk, hb, gC_bins hgC hos, bb.2, gC_last hgC, fun Y hY => ?_⟩
    have g := gC_pop x x S Y i1 j1 (Nat.le_refl _) (gC_cong (fun _ _ z => z) x i1 j1 hgC cgS_rfl (fun k q1 q2 => hY.1 k (Nat.zero_le _) q2) (fun _ _ => ⟨rfl, rfl, rfl⟩) (fun k hk => ⟨(hY.2.1 k hk).1, (hY.2.1 k hk).2.1, (hY.2.1 k hk).2.2.1⟩))
    rw [Nat.sub_self] at g
    exact g
  | succ f ih =>
    intro c S p1 i1 x os hf h ck hp1 hi1 hbd hc hx h2x hhx hos hrk hI
    have hp := h.2.2.2.2.2.2.2.2.1.1
    have ht := h.2.2.2.2.2.2.2.2.2
    obtain ⟨o, eo⟩ : ∃ o, okn (tk b t p1) = o := ⟨_, rfl⟩
    have o18 : o ≤ 18 := by rw [← eo]; exact okn_le _
    have rk10 : rk o ≤ 10 := (show ∀ o, o ≤ 18 → rk o ≤ 10 by decide) _ o18
    refine b_Reader_readChoice_12 (fun z => absurd z (nI_ge (a := c) (b := 4000) (by omega) (by omega))) (fun _ => b_Reader_readChoice_19 (fun z => absurd h.2.2.2.2.2.2.1 z) (fun _ => ?_))
    refine b_Reader_readChoice_29 hg w_operatorOf (fun v S1 hv => ?_)
    rw [hv.1, hv.2, h.2.2.2.1, eo]
    refine b_Reader_readChoice_39 hg (w_rank ho (o := o) o18) (fun v S1 hv => ?_)
    rw [hv.1, hv.2]
    refine b_Reader_readChoice_48 hg (w_settle (os := os) (r := rk o) (bo := ws) (x := x) (i := i1) hg ho (by omega) (by omega) (by omega) h.2.2.2.2.2.1 h.2.2.2.2.2.2.1 h.2.2.2.2.2.2.2.1 hos) (fun S1 e1 => ?_)
    by_cases o0 : o = 0
    · subst o0
      rw [show rk 0 = 0 from rfl, pops_0] at e1
      rw [e1]
      refine b_Reader_readChoice_51 (fun _ => b_Reader_readChoice_69 (hQ _ (Or.inl ⟨p1, i1 + x, ?_⟩))) (fun z => absurd rfl z)
      have h2 := cSt_CS x S i1 (ws + x) h (by omega)
      rw [show ws + x - x = ws by omega] at h2
      refine ⟨h2, CK_tr ck (cSt_CK x S i1 (ws + x) (by omega)), hp1, ⟨by omega, by omega, Hx_eq (Hx_st x S i1 (ws + x) (fun k hk => ⟨os (x - 1 - k), by have := (hos (x - 1 - k) (by omega)).2.1; omega, (hos (x - 1 - k) (by omega)).2.2, by rw [show ws + x - 1 - k = ws + (x - 1 - k) by omega]; exact (hos (x - 1 - k) (by omega)).1⟩) (by omega) hhx) (by omega) (by omega)⟩, eo, fun T q j m N X hH => ?_⟩
      obtain ⟨T', q', j1, N', rx, hM, hgp, mk, hb, hgC⟩ := hI T q j m N X hH
      have bb := gC_bnd x i1 j1 hgC
      refine ⟨T', q', x, os, j1, N', rx, hM, hgp, mk, hb, gC_bins hgC hos, bb.2, gC_last hgC, fun Y hY => ?_⟩
      have g := gC_pop x x S Y i1 j1 (Nat.le_refl _) (gC_cong (fun _ _ z => z) x i1 j1 hgC cgS_rfl (fun k q1 q2 => hY.1 k (Nat.zero_le _) q2) (fun _ _ => ⟨rfl, rfl, rfl⟩) (fun k hk => ⟨(hY.2.1 k hk).1, (hY.2.1 k hk).2.1, (hY.2.1 k hk).2.2.1⟩))
      rw [Nat.sub_self] at g
      exact g
    · rw [e1, if_neg o0]
      obtain ⟨y, ey⟩ : ∃ y, pops os (rk o) x = y := ⟨_, rfl⟩
      have hy : y ≤ x := by rw [← ey]; exact pops_le _ _ _
      rw [ey]
      have hpt : p1 < t := tk_pos (fun z => by rw [z] at eo; exact o0 (by rw [← eo]; decide))
      have hnp := np_gt (b := b) hpt
      have hx1 : x - y + 1 ≤ rk o := by
        by_cases z : y < x
        · have a := pops_top os (rk o) x (by omega)
          rw [ey] at a
          have c := hrk (x - y - 1) (by omega)
          omega
        · have : 1 ≤ rk o := (show ∀ o, o ≤ 18 → ¬ o = 0 → 1 ≤ rk o by decide) o o18 o0
          omega
      obtain ⟨x', ex'⟩ : ∃ x', x' = x - y := ⟨_, rfl⟩
      have h1 := cSt_CS y S i1 (ws + x) h (by omega)
      rw [show ws + x - y = ws + x' by omega] at h1
      have ck1 : CK S0 (cSt y S i1 (ws + x)) i ws := CK_tr ck (cSt_CK y S i1 (ws + x) (by omega))
      have ckS : CK S (cSt y S i1 (ws + x)) i1 (ws + x) := cSt_CK y S i1 (ws + x) (Nat.le_refl _)
      obtain ⟨S1, eS1⟩ : ∃ S1, S1 = cSt y S i1 (ws + x) := ⟨_, rfl⟩
      have hx1 : Hx (cSt y S i1 (ws + x)) i (i1 + y) (x + 1 - y) (x + 1 - y) (341 - 11 * (dp : Int)) ((p1 : Int) - p + 1) := Hx_st y S i1 (ws + x) (fun k hk => ⟨os (x - 1 - k), by have := (hos (x - 1 - k) (by omega)).2.1; omega, (hos (x - 1 - k) (by omega)).2.2, by rw [show ws + x - 1 - k = ws + (x - 1 - k) by omega]; exact (hos (x - 1 - k) (by omega)).1⟩) (by omega) hhx
      rw [← eS1] at h1 ck1 ckS hx1 ⊢
      have e9 : S1.1 34 9 = nI (ws + x') := h1.2.2.2.2.2.2.2.1
      have hin : vp_in (S1.1 34 9) 310 := by rw [e9]; exact vp_in_nI (by omega) (by omega)
      refine b_Reader_readChoice_51 (fun z => ?_) (fun _ => b_Reader_readChoice_57 (fun _ => ?_) (fun z => ?_))
      · have a := congrArg Int32.toInt z
        rw [nI_toInt (by omega)] at a
        exact absurd a (by rw [show (-1 : Int32).toInt = -1 from rfl]; omega)
      · refine b_Reader_readChoice_70 (R := fun S' => S' = wS b t (np b t p1) (zi (zi S1 35 (ws + x') (nI (37 + o))) 36 (ws + x') (nI p1))) hg hin ?_ (fun S3 e3 => ?_)
        · rw [e9, nI_clamp (by omega), h1.2.2.1]
          exact w_adv hg ho (CS_o (CS_o h1 (by omega)) (by omega))
        · obtain ⟨S2, eS2⟩ : ∃ S2, S2 = zi (zi S1 35 (ws + x') (nI (37 + o))) 36 (ws + x') (nI p1) := ⟨_, rfl⟩
          rw [← eS2] at e3
          have h2 : CS b t p1 (i1 + y) (ws + x') S2 := by rw [eS2]; exact CS_o (CS_o h1 (by omega)) (by omega)
          have h3 := CS_wS h2
          obtain ⟨p2, ep2⟩ : ∃ p2, np b t p1 = p2 := ⟨_, rfl⟩
          rw [ep2] at h3 hnp e3
          rw [e3]
          obtain ⟨S3, eS3⟩ : ∃ S3, S3 = wS b t p2 S2 := ⟨_, rfl⟩
          rw [← eS3] at h3 ⊢
          have f9 : S3.1 34 9 = nI (ws + x') := h3.2.2.2.2.2.2.2.1
          have h4 : CS b t p2 (i1 + y) (ws + x' + 1) (zi (zi S3 37 (ws + x') (nI p2)) 34 9 (nI (ws + x' + 1))) := CS_ws (CS_o h3 (by omega))
          obtain ⟨S4, eS4⟩ : ∃ S4, S4 = zi (zi S3 37 (ws + x') (nI p2)) 34 9 (nI (ws + x' + 1)) := ⟨_, rfl⟩
          rw [← eS4] at h4
          have e4' : zi (zi S3 37 ((S3.1 34 9).toNatClampNeg) (S3.1 38 3)) 34 9 (S3.1 34 9 + 1) = S4 := by rw [f9, nI_clamp (by omega), h3.2.2.1, nI_1, eS4]
          refine b_Reader_readChoice_104 hg (by rw [f9]; exact vp_in_nI (by omega) (by omega)) (by rw [e4']; exact IHF _ _ _ _ h4 (by omega) (by omega)) (fun S5 hF => b_Reader_readChoice_135 ?_)
          rw [show nI c + Int32.ofInt 1 = nI (c + 1) from nI_1 c]
          -- rows of what waits, from S1 to S4
          have ck14 : CK S1 S4 (i1 + y) (ws + x') := by
            rw [eS4, eS3, eS2]
            exact CK_tr (CK_tr (CK_zi (by omega)) (CK_zi (by omega))) (CK_tr CK_wS (CK_tr (CK_zi (by omega)) (CK_zi (by omega))))
          have w35 : S4.1 35 (ws + x') = nI (37 + o) := by rw [eS4, zi_c (by decide), zi_c (by decide), eS3, wS_c (by decide), eS2, zi_c (by decide)]; exact zi_v
          have w36 : S4.1 36 (ws + x') = nI p1 := by rw [eS4, zi_c (by decide), zi_c (by decide), eS3, wS_c (by decide), eS2]; exact zi_v
          have w37 : S4.1 37 (ws + x') = nI p2 := by rw [eS4, zi_c (by decide)]; exact zi_v
          have st : ∀ T q j m N X, HC b t q j dp m N X p T → ∃ T' q' j1 N', (RX l Gr n w d T 1 T' 0 ∧ MC b t q' j1 dp (m + x) N' T' ∧ MK b t T T' j m ∧ gC w S T' (nid b t T') ws m p i j x i1 j1) ∧ ∃ T1, RX l Gr n w d T 1 T1 1 ∧ T1 = zi (mU (mRd y (zi T' 73 6 (nI p1)) j1 (m + x)) (m + x') 1 (nI o) (nI p1)) 73 6 (nI (te b t p1)) ∧ HF b t (te b t p1) (j1 + y) dp (m + x' + 1) N' X 0 p2 T1 := fun T q j m N X hH => by
            obtain ⟨T', q', j1, N', rx, hM, hgp, mk, hb, hgC⟩ := hI T q j m N X hH
            have bb := gC_bnd x i1 j1 hgC
            have hb1 := hb.1
            have hb2 := hb.2.1
            have hqt := hM.1.2.2.2.1
            have hqp : q' ≤ p1 := by rw [← hgp]; exact gp_ge hqt
            have htg := te_gt (b := b) hpt
            have hm1 : m = 0 ∨ ¬ T'.1 83 (m - 1) = 1 := by
              by_cases z : m = 0
              · exact Or.inl z
              · right
                rw [(mk.2.1 (m - 1) (by omega)).1]
                exact hH.2.2.2.elim (fun y => absurd y z) (fun y => y.1)
            have rx2 := rx_op (l := l) (Gr := Gr) (n := n) (w := w) (d := d) (os := os) (y := x) hg htx hM hgp eo o0 (by omega) (by omega) (by omega) (gC_bins hgC hos) hm1 (gC_last hgC)
            rw [ey, show m + x - y = m + x' by omega] at rx2
            have hM1 := MC_at (q' := te b t p1) (MC_mU (x1 := 1) (x2 := nI o) (x3 := nI p1) (mRd_MC y _ j1 (m + x) (MC_p hM hgp) (by omega))) (te_le hp)
            rw [show m + x - y = m + x' by omega] at hM1
            refine ⟨T', q', j1, N', ⟨rx, hM, mk, hgC⟩, _, RX_tr rx rx2, rfl, hM1, by rw [← ep2], ⟨by omega, by omega, nb_up hb.2.2 (by omega)⟩, Nat.zero_le _, Nat.zero_le _, fun k hk => absurd hk (Nat.not_lt_zero k), Or.inr ?_⟩
            rw [show m + x' + 1 - 1 - 0 = m + x' by omega, zi_c (by decide), mU_r.1]
            decide
          rcases hF with ⟨p3, i5, hF⟩ | ⟨f', pl, hF⟩
          · obtain ⟨h5, ck5, hlt, hbd5, hFT⟩ := hF
            have hp3 := h5.2.2.2.2.2.2.2.2.1.1
            have ck15 : CK S1 S5 (i1 + y) (ws + x') := CK_tr ck14 (CK_le ck5 (Nat.le_refl _) (by omega))
            have v := ck5.2.1 (ws + x') (by omega)
            refine ih (c + 1) S5 p3 i5 (x' + 1) (fun k => if k < x' then os k else o) (by omega) h5 (CK_tr ck1 (CK_le ck15 (by omega) (by omega))) (by omega) (by omega) (by omega) (by omega) (by omega) (by omega) (Hx_eq (Hx_app (Hx_0 hx1 ck15.1 (Nat.le_refl _)) hbd5.2.2 (Int.le_refl _) (by omega) (by omega) (by omega)) (by omega) (by omega)) (fun k hk => ?_) (fun k hk => ?_) (fun T q j m N X hH => ?_)
            · by_cases z : k < x'
              · simp only [if_pos z]
                rw [(ck15.2.1 (ws + k) (by omega)).1, (ckS.2.1 (ws + k) (by omega)).1]
                exact hos k (by omega)
              · simp only [if_neg z]
                rw [show k = x' by omega, v.1]
                exact ⟨w35, o0, o18⟩
            · by_cases z : k < x'
              · simp only [if_pos z]; exact hrk k (by omega)
              · simp only [if_neg z]; omega
            · obtain ⟨T', q', j1, N', ⟨rx, hM, mk, hgC⟩, T1, rx1, eT1, hHF⟩ := st T q j m N X hH
              obtain ⟨T5, q5, j5, N5, rx5, hM5, hg5, mk5, hb5, hX5, -⟩ := hFT T1 _ _ _ N' X 0 hHF
              have bb := gC_bnd x i1 j1 hgC
              rw [show j5 + 0 = j5 from rfl, show dp - 0 = dp from rfl, show m + x' + 1 - 0 = m + x' + 1 from rfl] at hM5
              rw [show m + x' + 1 - 0 = m + x' + 1 from rfl] at mk5 hb5
              rw [show j5 + 0 = j5 from rfl] at hb5
              have mkR : MK b t T' T1 j1 m := by
                rw [eT1]
                exact MK_tr (MK_tr (MK_tr (MK_zi (by omega)) (mRd_MK y _ j1 (m + x) (Nat.le_refl _))) (MK_mU (by omega))) (MK_zi (by omega))
              obtain ⟨Y, eY⟩ : ∃ Y, Y = mRd y (zi T' 73 6 (nI p1)) j1 (m + x) := ⟨_, rfl⟩
              have mkY : MK b t Y T1 (j1 + y) (m + x') := by
                rw [eT1, ← eY]
                exact MK_tr (MK_mU (by omega)) (MK_zi (by omega))
              have mkY5 : MK b t Y T5 (j1 + y) (m + x') := MK_tr mkY (MK_le mk5 (Nat.le_refl _) (by omega))
              have niY : ∀ v p, nid b t T' v p → nid b t T5 v p := fun v p z => mk5.2.2.2.2.2 v p (mkR.2.2.2.2.2 v p z)
              have gp1 := gC_pop y x S (zi T' 73 6 (nI p1)) i1 j1 hy (gC_cong (fun _ _ z => z) x i1 j1 hgC cgS_rfl (fun k _ _ => ⟨zi_c (by decide), zi_c (by decide), zi_c (by decide), zi_c (by decide), rfl⟩) (fun _ _ => ⟨rfl, rfl, rfl⟩) (fun k _ => ⟨zi_c (by decide), zi_c (by decide), zi_c (by decide)⟩))
              rw [← eY, ← eS1, ← ex'] at gp1
              have gp5 := gC_cong (S' := S5) (T' := T5) niY x' (i1 + y) (j1 + y) gp1 (fun k q1 q2 => ck15.1 k (Nat.zero_le _) q2) (fun k q1 q2 => mkY5.1 k (Nat.zero_le _) q2) (fun k hk => ck15.2.1 k hk) (fun k hk => ⟨(mkY5.2.1 k hk).1, (mkY5.2.1 k hk).2.1, (mkY5.2.1 k hk).2.2.1⟩)
              have t5 := mk5.2.1 (m + x') (by omega)
              have r1 := mU_r (T := Y) (m0 := m + x') (x1 := 1) (x2 := nI o) (x3 := nI p1)
              have u83 : T1.1 83 (m + x') = 1 := by rw [eT1, ← eY, zi_c (by decide)]; exact r1.1
              have u84 : T1.1 84 (m + x') = nI o := by rw [eT1, ← eY, zi_c (by decide)]; exact r1.2.1
              have u85 : T1.1 85 (m + x') = nI p1 := by rw [eT1, ← eY, zi_c (by decide)]; exact r1.2.2.1
              exact ⟨T5, q5, j5, N5, RX_tr rx1 rx5, hM5, hg5, MK_tr mk (MK_tr (MK_le mkR (by omega) (Nat.le_refl _)) (MK_le mk5 (by omega) (by omega))), hb5, i1 + y, j1 + y, p2, o, p1, gp5, hX5, by omega, o18, v.1.trans w35, v.2.1.trans w36, v.2.2.trans w37, t5.1.trans u83, t5.2.1.trans u84, t5.2.2.1.trans u85⟩
          · have f1 : ¬ S5.1 3 5 = 0 := by rw [hF.1.2.1]; exact nz hF.1.1
            refine b_Reader_readChoice_12 (fun _ => b_Reader_readChoice_141 (hQ _ ?_)) (fun _ => b_Reader_readChoice_19 (fun _ => b_Reader_readChoice_141 (hQ _ ?_)) (fun z => absurd z f1))
            all_goals
              refine Or.inr ⟨f', pl, CB_tr (CK_tr (CK_le ck1 (Nat.zero_le _) (Nat.zero_le _)) (CK_le ck14 (Nat.zero_le _) (Nat.zero_le _))) hF.1, fun T q j m N X hH => ?_⟩
              obtain ⟨T', q', j1, N', ⟨rx, hM, mk, hgC⟩, T1, rx1, eT1, hHF⟩ := st T q j m N X hH
              refine ZF_tr rx1 (MK_tr (MK_le mk (Nat.zero_le _) (Nat.zero_le _)) ?_) (hF.2 T1 _ _ _ N' X 0 hHF)
              rw [eT1]
              exact MK_tr (MK_tr (MK_tr (MK_zi (by omega)) (mRd_MK y _ j1 (m + x) (Nat.zero_le _))) (MK_mU (by omega))) (MK_zi (by omega))
      · rw [e9] at z
        exact absurd (nI_lt (a := ws + x') (b := 310) (by omega) (by omega)) z
theorem w_choice (hg : ip_gk (lg_tbl, vwCl, Gr)) (ho : ip_old (lg_tbl, vwCl, Gr)) (htx : ∀ k, k < t → tx (b k)) {D : Nat} (hD : 8 ≤ D) (hdp : dp ≤ 30) (IHF : KF l Gr n w d b t dp D) (h : CS b t p i ws S) (hip : i ≤ p) (hws : ws ≤ 10 * dp) : zMv l Gr (zc n w) 168 M_Reader_readChoice (D + 1) [.ref 66, .int (nI dp)] S (fun S' => CR l Gr n w d b t S S' p i ws dp) := by
  refine e_Reader_readChoice (b_Reader_readChoice_0 hg (IHF _ _ _ _ h hip (by omega)) (fun S1 hF => b_Reader_readChoice_10 ?_))
  rw [h.2.2.2.2.2.2.2.1]
  rcases hF with ⟨p1, i1, hF⟩ | ⟨f, pl, hF⟩
  · obtain ⟨h1, ck1, hlt, hbd, hFT⟩ := hF
    refine wx_choice (S0 := S) hg ho htx hD hdp IHF hip hws (fun S' hS => ⟨rfl, hS⟩) t 0 S1 p1 i1 0 (fun _ => 0) (by omega) h1 ck1 hlt hbd.2.1 (by omega) (by omega) (by omega) (by omega) (Hx_eq (Hx_mono hbd.2.2 (by omega) (Int.le_refl _)) (by omega) (by omega)) (fun k hk => absurd hk (Nat.not_lt_zero k)) (fun k hk => absurd hk (Nat.not_lt_zero k)) (fun T q j m N X hH => ?_)
    obtain ⟨T5, q5, j5, N5, rx5, hM5, hg5, mk5, hb5, hX5, -⟩ := hFT T _ _ _ _ X 0 (HC_HF hH)
    exact ⟨T5, q5, j5, N5, rx5, hM5, hg5, mk5, hb5, hX5⟩
  · have f1 : ¬ S1.1 3 5 = 0 := by rw [hF.1.2.1]; exact nz hF.1.1
    exact b_Reader_readChoice_12 (fun z => absurd z (by decide)) (fun _ => b_Reader_readChoice_19 (fun _ => b_Reader_readChoice_141 ⟨rfl, Or.inr ⟨f, pl, hF.1, fun T q j m N X hH => hF.2 T _ _ _ _ X 0 (HC_HF hH)⟩⟩) (fun z => absurd z f1))
end RD6
