/-! the class's readCall and readNamed, beside the reference's -/
section RD2
variable {l : Launch} {Gr : zG} {n w : Nat} {d : Nat} {b : Nat → Int32} {t p i ws dp p' i' q j m N X u : Nat} {S S' T T' : zS}
/-- NAME() -/
theorem ft_cal0 (hg : ip_gk (lg_tbl, vwCl, Gr)) (htx : ∀ k, k < t → tx (b k)) (h : HF b t q j dp m N X u p T) (hdp : dp < 30) {T0 : zS} {p2 N0 v : Nat} (hop : OP l Gr n w d b t T T0 0 p2 p2 j (j + 2) dp m N0 X 7 (nI (j + 1)) (nI p)) (hid : nid b t T0 v p) (r0 : T0.1 78 j = 1) (r1 : T0.1 78 (j + 1) = 8) (r2 : T0.1 79 (j + 1) = nI v) (r3 : T0.1 81 (j + 1) = nI p) (h41 : tk b t p2 = 41) (s1 : S'.1 4 i = 28) (s2 : S'.1 6 i = nI p) (s3 : S'.1 7 i = 0) (s4 : S'.1 4 (i + 1) = 30) (s5 : S'.1 5 (i + 1) = nI i) : FT l Gr n w d b t S' T p i (np b t p2) (i + 2) j dp m X u := by
  obtain ⟨rx0, hM0, hgp0, mk0, hb0, e83, e84, e85, e86, hj0⟩ := hop
  have hp2 := hM0.1.2.2.2.1
  have ht := hM0.1.2.2.2.2
  have hb1 := hb0.1
  have hb2 := hb0.2.1
  have hpt := (te_s htx hp2 (c := 41) (by decide) (by decide) (by decide) h41).2
  have hM1 := MC_at (q' := p2) hM0 hp2
  obtain ⟨Y, eY⟩ : ∃ Y, Y = zi (zi T0 73 6 (nI p2)) 73 25 0 := ⟨_, rfl⟩
  have hY : MC b t p2 (j + 2) (dp + 1) (m + 1) N0 Y := by rw [eY]; exact MC_25 hM1
  have gY : ∀ c k, c ≠ 73 → Y.1 c k = T0.1 c k := fun c k hc => by rw [eY, zi_c hc, zi_c hc]
  have mkY : MK b t T0 Y (j + 2) (m + 1) := by rw [eY]; exact MK_tr (MK_zi (by omega)) (MK_zi (by omega))
  obtain ⟨W, eW⟩ : ∃ W, W = zi (mTk Y p2 (dp + 1) (m + 1)) 80 (j + 1) 0 := ⟨_, rfl⟩
  obtain ⟨Z, eZ⟩ : ∃ Z, Z = mP W (j + 2) 9 (W.1 79 (j + 1)) 0 (Y.1 85 m) := ⟨_, rfl⟩
  have hW : MC b t (p2 + 1) (j + 2) dp m N0 W := by rw [eW]; exact MC_o (MC_mTk hY hpt) (by omega)
  have hZ : MC b t (p2 + 1) (j + 3) dp m N0 Z := by rw [eZ]; exact MC_mP hW
  have mkY0 : MK b t Y Z 0 (m + 1) := by
    rw [eZ, eW]
    exact MK_tr mTk_MK (MK_tr (MK_zi (by omega)) (MK_mP (by omega)))
  have zW' : ∀ a, a < j + 2 → Z.1 78 a = W.1 78 a ∧ Z.1 79 a = W.1 79 a ∧ Z.1 80 a = W.1 80 a ∧ Z.1 81 a = W.1 81 a ∧ Z.2 82 a = W.2 82 a := fun a ha => by
    have z1 := (MK_mP (b := b) (t := t) (T := W) (j := j + 2) (m := 0) (x1 := 9) (x2 := W.1 79 (j + 1)) (x3 := 0) (x4 := Y.1 85 m) (Nat.le_refl _)).1 a (Nat.zero_le _) ha
    rw [← eZ] at z1
    exact z1
  have gW : ∀ c k, c ≠ 73 → ¬ (c = 80 ∧ k = j + 1) → W.1 c k = T0.1 c k := fun c k hc h2 => by rw [eW, zi_get, if_neg h2, mTk_c hc, gY _ _ hc]
  have W2 : ∀ k, W.2 82 k = T0.2 82 k := fun k => by rw [eW, eY]; rfl
  have mkTZ : MK b t T Z j m := by
    refine ⟨fun a q1 q2 => ?_, (MK_tr (MK_tr (MK_le mk0 (Nat.zero_le _) (Nat.le_refl _)) (MK_le mkY (Nat.zero_le _) (by omega))) (MK_le mkY0 (Nat.le_refl _) (by omega))).2⟩
    have x := mk0.1 a q1 q2
    have z := zW' a (by omega)
    refine ⟨?_, ?_, ?_, ?_, ?_⟩
    · rw [z.1, gW _ _ (by decide) (by omega)]; exact x.1
    · rw [z.2.1, gW _ _ (by decide) (by omega)]; exact x.2.1
    · rw [z.2.2.1, gW _ _ (by decide) (by omega)]; exact x.2.2.1
    · rw [z.2.2.2.1, gW _ _ (by decide) (by omega)]; exact x.2.2.2.1
    · rw [z.2.2.2.2, W2]; exact x.2.2.2.2
  have f83 : Y.1 83 m = 7 := (gY _ _ (by decide)).trans e83
  have f84 : Y.1 84 m = nI (j + 1) := (gY _ _ (by decide)).trans e84
  have f85 : Y.1 85 m = nI p := (gY _ _ (by decide)).trans e85
  have z0 := zW' j (by omega)
  have z1 := zW' (j + 1) (by omega)
  have w79 : W.1 79 (j + 1) = nI v := by rw [gW _ _ (by decide) (by omega)]; exact r2
  have rZ := mP_r (T := W) (j0 := j + 2) (x1 := 9) (x2 := W.1 79 (j + 1)) (x3 := 0) (x4 := Y.1 85 m)
  rw [← eZ] at rZ
  refine fcl (x2 := 1) (Y := Y) hg htx h hdp rx0 hM0 hgp0 (by rw [h41]; decide) (by rw [h41]; decide) (fun Q k => cl_0f (d := d + 6) hg hM1 (by omega) (by omega) (by omega) (by omega) ?_ ?_ ?_ (by rw [← eY]; exact k)) hY (Or.inl ⟨h41, Or.inr (Or.inl f83)⟩) (fun Q k => pt_7f (c := j + 1) hg hY hpt hdp (by omega) (by omega) (by omega) f83 f84 (by decide) (by rw [← eW, ← eZ]; exact k)) hZ mkTZ (gX_cal ⟨v, 0, i + 1, j + 2, mkY0.2.2.2.2.2 _ _ (nid_MK hid mkY), ⟨rfl, rfl⟩, rfl, rfl, s1, s2, s3, s4, s5, ?_, ?_, ?_, ?_, ?_, rZ.1, rZ.2.1.trans w79, rZ.2.2.2.trans f85⟩) ?_ ⟨by omega, by omega, nb_up hb0.2.2 (by omega)⟩
  · rw [zi_c (by decide), show m + 1 - 1 = m by omega]; exact e83
  · rw [zi_c (by decide), show m + 1 - 1 = m by omega, show j + 2 - 1 = j + 1 by omega]; exact e84
  · rw [zi_c (by decide), show j + 2 - 1 = j + 1 by omega]; exact r1
  · rw [z0.1, gW _ _ (by decide) (by omega)]; exact r0
  · rw [z1.1, gW _ _ (by decide) (by omega)]; exact r1
  · rw [z1.2.1]; exact w79
  · rw [z1.2.2.1, eW]; exact zi_v
  · rw [z1.2.2.2.1, gW _ _ (by decide) (by omega)]; exact r3
  · rw [eZ, mP_k (by decide), eW, zi_c (by decide), mTk_25, eY]; exact zi_v
/-- a call's EXPRs: S0 is the store at its NAME -/
theorem w_args (hg : ip_gk (lg_tbl, vwCl, Gr)) (ho : ip_old (lg_tbl, vwCl, Gr)) (htx : ∀ k, k < t → tx (b k)) {D : Nat} (hD : 6 ≤ D) (hdp : dp < 30) (IH : KE l Gr n w d b t (dp + 1) D) {S0 : zS} {x2 : Int32} (hx2 : x2 = nI dp) (hip : i ≤ p) (hws : ws ≤ 10 * dp + 10) {Q : Option Value → zS → Prop} (hQ : ∀ S', FR l Gr n w d b t S0 S' p i ws dp → Q none S') :
    ∀ (f k : Nat) (S : zS) (p1 i1 : Nat), t - p1 ≤ f → CS b t p1 i1 ws S → CK S0 S i ws → S.1 4 i = 28 → S.1 6 i = nI p → i + 1 + k ≤ i1 → i1 + p + 1 ≤ i + p1 → p < p1 → p + 2 * k + 2 ≤ p1 → Hx S (i + 1) i1 0 k (330 - 11 * (dp : Int)) ((p1 : Int) - p) → (∀ T q j m N X u, HF b t q j dp m N X u p T → ∃ T1 q0 j1 N0 v, AR l Gr n w d b t S T T1 p i i1 q0 p1 j j1 dp m N0 X k v) → zW l Gr (zc n w) 168 M_Reader_readCall (D + 1) 50 [some (.ref 66), some (.int (nI p)), some (.int x2), some (.int (nI i)), some (.int (nI k)), none, none] [] S Q := by
  intro f
  obtain ⟨e, rfl⟩ : ∃ e, D = e + 6 := ⟨D - 6, by omega⟩
  induction f with
  | zero =>
    intro k S p1 i1 hf h ck s1 s2 hk hb hp h2k hx hA
    have hp1 := h.2.2.2.2.2.2.2.2.1.1
    have ht := h.2.2.2.2.2.2.2.2.2
    have hpe : p1 = t := by omega
    refine b_Reader_readCall_50 (fun z => absurd z (nI_ge (a := k) (b := 4000) (by omega) (by omega))) (fun _ => ?_)
    subst hx2
    refine b_Reader_readCall_58 hg (by rw [nI_1]; exact IH _ _ _ _ h (by omega) (by omega)) (fun S2 hE => ?_)
    rcases hE with ⟨p2, i2, hE⟩ | ⟨f, pl, hE⟩
    · exfalso
      have := hE.2.2.1
      have := hE.1.2.2.2.2.2.2.2.2.1.1
      omega
    · have f1 : ¬ S2.1 3 5 = 0 := by rw [hE.1.2.1]; exact nz hE.1.1
      refine b_Reader_readCall_74 hg (w_addWithN f1) (fun v S3 hv => ?_)
      rw [hv.2]
      refine b_Reader_readCall_88 (fun _ => b_Reader_readCall_115 (b_Reader_readCall_116 (fun _ => b_Reader_readCall_130 (b_Reader_readCall_45 (fun _ => ?_) (fun z => absurd rfl z))) (fun z => absurd rfl z))) (fun z => absurd z f1)
      have f2 : ∀ (k : Nat) (v : Int32), ¬ (zi S2 7 k v).1 3 5 = 0 := fun k v => by rw [zi_c (by decide)]; exact f1
      refine b_Reader_readCall_136 hg (vp_in_nI (by omega) (by omega)) (w_expectN hg (f2 _ _)) (fun S4 e4 => ?_)
      rw [e4]
      refine b_Reader_readCall_153 hg (w_addN hg (f2 _ _)) (fun v S5 hv => b_Reader_readCall_164 (hQ _ (Or.inr ⟨f, pl, ⟨hE.1.1, ?_, ?_, ?_⟩, fun T q j m N X u hH => ?_⟩)))
      · rw [hv.2, zi_c (by decide)]; exact hE.1.2.1
      · rw [hv.2, zi_c (by decide)]; exact hE.1.2.2.1
      · rw [hv.2]; exact CK_tr (CK_le ck (Nat.zero_le _) (Nat.zero_le _)) (CK_tr hE.1.2.2.2 (CK_zi (by omega)))
      · obtain ⟨T1, q0, j1, N0, v, hAR⟩ := hA T q j m N X u hH
        obtain ⟨rx0, hM0, hgp0, mk0, hb0, ⟨e83, -⟩, -⟩ := hAR
        refine ZF_tr rx0 (MK_le mk0 (Nat.zero_le _) (Nat.zero_le _)) (hE.2 T1 q0 j1 (m + 1) N0 X 0 ⟨hM0, hgp0, hb0, Nat.zero_le _, Nat.zero_le _, fun k hk => absurd hk (Nat.not_lt_zero k), Or.inr ?_, Or.inr ?_⟩)
        · rw [show m + 1 - 1 - 0 = m by omega, e83]; decide
        · rw [show m + 1 - 1 = m by omega, e83]; decide
  | succ f ih =>
    intro k S p1 i1 hf h ck s1 s2 hk hb hp h2k hx hA
    have hp1 := h.2.2.2.2.2.2.2.2.1.1
    have ht := h.2.2.2.2.2.2.2.2.2
    refine b_Reader_readCall_50 (fun z => absurd z (nI_ge (a := k) (b := 4000) (by omega) (by omega))) (fun _ => ?_)
    have hHE : ∀ T q j m N X u, HF b t q j dp m N X u p T → ∃ T1 q0 j1 N0 v, AR l Gr n w d b t S T T1 p i i1 q0 p1 j j1 dp m N0 X k v ∧ HE b t q0 j1 (dp + 1) (m + 1) N0 X 0 p1 T1 := fun T q j m N X u hH => by
      obtain ⟨T1, q0, j1, N0, v, hAR⟩ := hA T q j m N X u hH
      have hAR' := hAR
      obtain ⟨rx0, hM0, hgp0, mk0, hb0, ⟨e83, -⟩, -⟩ := hAR
      refine ⟨T1, q0, j1, N0, v, hAR', hM0, hgp0, hb0, Nat.zero_le _, Nat.zero_le _, fun k hk => absurd hk (Nat.not_lt_zero k), Or.inr ?_, Or.inr ?_⟩
      · rw [show m + 1 - 1 - 0 = m by omega, e83]; decide
      · rw [show m + 1 - 1 = m by omega, e83]; decide
    subst hx2
    refine b_Reader_readCall_58 hg (by rw [nI_1]; exact IH _ _ _ _ h (by omega) (by omega)) (fun S2 hE => ?_)
    rw [h.2.2.1]
    rcases hE with ⟨p2, i2, hE⟩ | ⟨f, pl, hE⟩
    · obtain ⟨h2, ck2, hlt, hbd, ho2, h63, hET⟩ := hE
      have hp2 := h2.2.2.2.2.2.2.2.2.1.1
      have c2 := ck2.1
      refine b_Reader_readCall_74 hg (w_addWith h2.2.2.2.2.2.2.1 h2.2.2.2.2.2.1 (by omega)) (fun v S3 hv => ?_)
      rw [hv.2]
      have h3 := CS_cA (x1 := 29) (x2 := nI i) (x3 := nI p1) (x4 := nI k) h2
      have r3 := cA_r (S := S2) (i0 := i2) (x1 := 29) (x2 := nI i) (x3 := nI p1) (x4 := nI k)
      have ck3 : CK S0 (cA S2 i2 29 (nI i) (nI p1) (nI k)) i ws := CK_tr ck (CK_tr (CK_le ck2 (by omega) (Nat.le_refl _)) (CK_cA (by omega)))
      have s1' : (cA S2 i2 29 (nI i) (nI p1) (nI k)).1 4 i = 28 := by rw [(cA_o (by omega)).1, (c2 i (Nat.zero_le _) (by omega)).1]; exact s1
      have s2' : (cA S2 i2 29 (nI i) (nI p1) (nI k)).1 6 i = nI p := by rw [(cA_o (by omega)).2.2.1, (c2 i (Nat.zero_le _) (by omega)).2.2.1]; exact s2
      have csA : cgS S2 (cA S2 i2 29 (nI i) (nI p1) (nI k)) (i + 1) i2 := fun a q1 q2 => cA_o (by omega)
      have hx2 : Hx S2 (i + 1) i2 (0 + 1) (k + 1) (330 - 11 * (dp : Int)) ((p2 : Int) - p) := Hx_app (Hx_0 hx c2 (Nat.le_refl _)) hbd.2.2 (Int.le_refl _) (by omega) (by omega) (by omega)
      have hx3 : Hx (cA S2 i2 29 (nI i) (nI p1) (nI k)) (i + 1) (i2 + 1) 0 ((k + 1 : Nat) : Int) (330 - 11 * (dp : Int)) ((p2 : Int) - p) := Hx_eq (Hx_sn (e1 := -1) (e2 := 0) (Hx_cA hx2 (Nat.le_refl _)) r3.1 (by decide) (by decide) (by decide) (by omega) (by omega)) (by omega) (by omega)
      refine b_Reader_readCall_88 (fun z => absurd h3.2.2.2.2.2.2.1 z) (fun _ => b_Reader_readCall_99 (fun z => ?_) (fun z => ?_))
      · rw [h3.2.2.2.1] at z
        refine b_Reader_readCall_115 (b_Reader_readCall_116 (fun _ => b_Reader_readCall_130 (b_Reader_readCall_45 (fun _ => ?_) (fun z => absurd rfl z))) (fun z => absurd rfl z))
        rw [show nI k + Int32.ofInt 1 = nI (k + 1) from nI_1 k]
        have h4 := CS_o (c := 7) (k := i) (v := nI (k + 1)) h3 (by omega)
        refine b_Reader_readCall_136 hg (vp_in_nI (by omega) (by omega)) (by rw [nI_clamp (by omega)]; exact w_expect hg ho h4) (fun S5 h5 => ?_)
        rcases h5 with ⟨h41, e5⟩ | ⟨n41, e5⟩
        · have hpt : p2 < t := tk_pos (by rw [h41]; decide)
          have hnp := np_gt (b := b) hpt
          have h6 := CS_wS h4
          rw [e5]
          refine b_Reader_readCall_153 hg (w_add hg h6.2.2.2.2.2.2.1 h6.2.2.2.2.2.1 (by omega)) (fun v S7 hv7 => b_Reader_readCall_164 (hQ _ (Or.inl ⟨np b t p2, i2 + 2, ?_⟩)))
          rw [hv7.2]
          obtain ⟨S6, e6⟩ : ∃ S6, S6 = wS b t (np b t p2) (zi (cA S2 i2 29 (nI i) (nI p1) (nI k)) 7 i (nI (k + 1))) := ⟨_, rfl⟩
          rw [← e6] at h6 ⊢
          have g6 : ∀ c a, c ≠ 38 → ¬ (c = 7 ∧ a = i) → S6.1 c a = (cA S2 i2 29 (nI i) (nI p1) (nI k)).1 c a := fun c a h1 h2 => by
            rw [e6]; unfold wS; rw [zi_c h1, zi_c h1, zi_c h1, zi_get, if_neg h2]
          have r7 := cA_r (S := S6) (i0 := i2 + 1) (x1 := 30) (x2 := nI i) (x3 := nI p) (x4 := 0)
          have o7 : ∀ a, a < i2 + 1 → (cA S6 (i2 + 1) 30 (nI i) (nI p) 0).1 4 a = S6.1 4 a ∧ (cA S6 (i2 + 1) 30 (nI i) (nI p) 0).1 5 a = S6.1 5 a ∧ (cA S6 (i2 + 1) 30 (nI i) (nI p) 0).1 6 a = S6.1 6 a ∧ (cA S6 (i2 + 1) 30 (nI i) (nI p) 0).1 7 a = S6.1 7 a := fun a ha => cA_o (by omega)
          have hxf : hxF (cA S6 (i2 + 1) 30 (nI i) (nI p) 0) i (i2 + 2) dp p (np b t p2) := by
            have a1 : Hx S6 (i + 1) (i2 + 1) 0 ((k + 1 : Nat) : Int) (330 - 11 * (dp : Int)) ((np b t p2 : Int) - p + 1) := Hx_mono (Hx_cg hx3 (fun x q1 q2 => ⟨g6 _ _ (by decide) (by omega), g6 _ _ (by decide) (by omega), g6 _ _ (by decide) (by omega)⟩)) (Int.le_refl _) (by omega)
            exact Hx_ca (a := k + 1) (Hx_cn (by rw [(o7 i (by omega)).1, g6 _ _ (by decide) (by omega)]; exact s1') (Hx_cA a1 (Nat.le_refl _)) (by omega) (by omega) (by omega)) r7.1 r7.2.1 (by rw [(o7 i (by omega)).2.2.2, e6]; unfold wS; rw [zi_c (by decide), zi_c (by decide), zi_c (by decide)]; exact zi_v) (by rw [(o7 i (by omega)).1, g6 _ _ (by decide) (by omega)]; exact s1') (by omega) (by omega) (by omega) (by omega) (by omega)
          refine ⟨CS_cA h6, ?_, by omega, ⟨by omega, wzb_s (by omega), hxf⟩, fun T q j m N X u hH => ?_⟩
          · refine CK_tr ck3 (CK_tr (CK_zi (c := 7) (k := i) (v := nI (k + 1)) (by omega)) (CK_tr ?_ (CK_cA (by omega))))
            rw [e6]
            exact CK_wS
          · obtain ⟨T1, q0, j1, N0, v, hAR, hHE'⟩ := hHE T q j m N X u hH
            refine (ft_arg hg htx hH hdp hAR (E0_of hg (by omega) hHE' (hET T1 q0 j1 (m + 1) N0 X 0 hHE')) ho2 h63 (fun a q1 q2 => c2 a (Nat.zero_le _) q2)).2.1 h41 (fun a q1 q2 => ?_) ?_ ?_ ?_ ?_ ?_ ?_ ?_ r7.1 r7.2.1
            · have x := o7 a (by omega)
              have y := csA a q1 q2
              refine ⟨?_, ?_, ?_, ?_⟩
              · rw [x.1, g6 _ _ (by decide) (by omega)]; exact y.1
              · rw [x.2.1, g6 _ _ (by decide) (by omega)]; exact y.2.1
              · rw [x.2.2.1, g6 _ _ (by decide) (by omega)]; exact y.2.2.1
              · rw [x.2.2.2, g6 _ _ (by decide) (by omega)]; exact y.2.2.2
            · rw [(o7 i2 (by omega)).1, g6 _ _ (by decide) (by omega)]; exact r3.1
            · rw [(o7 i2 (by omega)).2.1, g6 _ _ (by decide) (by omega)]; exact r3.2.1
            · rw [(o7 i2 (by omega)).2.2.1, g6 _ _ (by decide) (by omega)]; exact r3.2.2.1
            · rw [(o7 i2 (by omega)).2.2.2, g6 _ _ (by decide) (by omega)]; exact r3.2.2.2
            · rw [(o7 i (by omega)).1, g6 _ _ (by decide) (by omega)]; exact s1'
            · rw [(o7 i (by omega)).2.2.1, g6 _ _ (by decide) (by omega)]; exact s2'
            · rw [(o7 i (by omega)).2.2.2, e6]; unfold wS; rw [zi_c (by decide), zi_c (by decide), zi_c (by decide)]; exact zi_v
        · rw [e5]
          have f1 : ¬ (cF (zi (cA S2 i2 29 (nI i) (nI p1) (nI k)) 7 i (nI (k + 1))) 1 (nI p2)).1 3 5 = 0 := by rw [cF_f.1]; decide
          refine b_Reader_readCall_153 hg (w_addN hg f1) (fun v S7 hv7 => b_Reader_readCall_164 (hQ _ (Or.inr ⟨1, nI p2, ?_, fun T q j m N X u hH => ?_⟩)))
          · rw [hv7.2]
            exact CB_F (by decide) (CK_tr (CK_le ck3 (Nat.zero_le _) (Nat.zero_le _)) (CK_zi (by omega)))
          · obtain ⟨T1, q0, j1, N0, v, hAR, hHE'⟩ := hHE T q j m N X u hH
            exact (ft_arg (S' := S2) hg htx hH hdp hAR (E0_of hg (by omega) hHE' (hET T1 q0 j1 (m + 1) N0 X 0 hHE')) ho2 h63 (fun a q1 q2 => c2 a (Nat.zero_le _) q2)).2.2 z n41
      · rw [h3.2.2.2.1] at z
        have hpt : p2 < t := tk_pos (by rw [z]; decide)
        have hnp := np_gt (b := b) hpt
        refine b_Reader_readCall_111 (b_Reader_readCall_116 (fun z => absurd z (by decide)) (fun _ => b_Reader_readCall_123 hg (w_adv hg ho h3) (fun S4 e4 => ?_)))
        rw [e4]
        refine b_Reader_readCall_130 (b_Reader_readCall_45 (fun z => absurd z (by decide)) (fun _ => ?_))
        rw [show nI k + Int32.ofInt 1 = nI (k + 1) from nI_1 k]
        have g4 : ∀ c a, c ≠ 38 → (wS b t (np b t p2) (cA S2 i2 29 (nI i) (nI p1) (nI k))).1 c a = (cA S2 i2 29 (nI i) (nI p1) (nI k)).1 c a := fun c a h1 => by
          unfold wS; rw [zi_c h1, zi_c h1, zi_c h1]
        refine ih (k + 1) _ (np b t p2) (i2 + 1) (by omega) (CS_wS h3) (CK_tr ck3 CK_wS) ((g4 _ _ (by decide)).trans s1') ((g4 _ _ (by decide)).trans s2') (by omega) (by omega) (by omega) (by omega) (Hx_mono (Hx_wS hx3) (Int.le_refl _) (by omega)) (fun T q j m N X u hH => ?_)
        obtain ⟨T1, q0, j1, N0, v, hAR, hHE'⟩ := hHE T q j m N X u hH
        obtain ⟨T2, j2, N2, hA2⟩ := (ft_arg (S' := wS b t (np b t p2) (cA S2 i2 29 (nI i) (nI p1) (nI k))) hg htx hH hdp hAR (E0_of hg (by omega) hHE' (hET T1 q0 j1 (m + 1) N0 X 0 hHE')) ho2 h63 (fun a q1 q2 => c2 a (Nat.zero_le _) q2)).1 z (fun a q1 q2 => by rw [g4 _ _ (by decide), g4 _ _ (by decide), g4 _ _ (by decide), g4 _ _ (by decide)]; exact csA a q1 q2) ((g4 _ _ (by decide)).trans r3.1) ((g4 _ _ (by decide)).trans r3.2.1) ((g4 _ _ (by decide)).trans r3.2.2.1) ((g4 _ _ (by decide)).trans r3.2.2.2)
        exact ⟨T2, p2 + 1, j2, N2, v, hA2⟩
    · have f1 : ¬ S2.1 3 5 = 0 := by rw [hE.1.2.1]; exact nz hE.1.1
      refine b_Reader_readCall_74 hg (w_addWithN f1) (fun v S3 hv => ?_)
      rw [hv.2]
      refine b_Reader_readCall_88 (fun _ => b_Reader_readCall_115 (b_Reader_readCall_116 (fun _ => b_Reader_readCall_130 (b_Reader_readCall_45 (fun _ => ?_) (fun z => absurd rfl z))) (fun z => absurd rfl z))) (fun z => absurd z f1)
      have f2 : ∀ (k : Nat) (v : Int32), ¬ (zi S2 7 k v).1 3 5 = 0 := fun k v => by rw [zi_c (by decide)]; exact f1
      refine b_Reader_readCall_136 hg (vp_in_nI (by omega) (by omega)) (w_expectN hg (f2 _ _)) (fun S4 e4 => ?_)
      rw [e4]
      refine b_Reader_readCall_153 hg (w_addN hg (f2 _ _)) (fun v S5 hv => b_Reader_readCall_164 (hQ _ (Or.inr ⟨f, pl, ⟨hE.1.1, ?_, ?_, ?_⟩, fun T q j m N X u hH => ?_⟩)))
      · rw [hv.2, zi_c (by decide)]; exact hE.1.2.1
      · rw [hv.2, zi_c (by decide)]; exact hE.1.2.2.1
      · rw [hv.2]; exact CK_tr (CK_le ck (Nat.zero_le _) (Nat.zero_le _)) (CK_tr hE.1.2.2.2 (CK_zi (by omega)))
      · obtain ⟨T1, q0, j1, N0, v, hAR, hHE'⟩ := hHE T q j m N X u hH
        exact ZF_tr hAR.1 (MK_le hAR.2.2.2.1 (Nat.zero_le _) (Nat.zero_le _)) (hE.2 T1 q0 j1 (m + 1) N0 X 0 hHE')
end RD2
