/-! readIf of both: the head -/
abbrev iL (p : Nat) : zL := [some (.ref 105), some (.int (nI p)), none, none]
def IFP (l : Launch) (Gr : zG) (n w d : Nat) (b : Nat → Int32) (t : Nat) (S6 : zS) (p i p2 p4 i1 dp vw : Nat) : Prop := ∀ T j N iw, HS b t p j dp N vw iw p T → ∃ T6 q6 j1 N6, MC b t q6 (j1 + 1) dp 0 N6 T6 ∧ gp b t q6 = p4 ∧ MK b t T T6 j 0 ∧ bud b t (2 * dp + 5) (j1 + 1) 0 N6 q6 ∧ j < j1 ∧ gX w S6 T6 (nid b t T6) p2 (i + 1) i1 (j + 1) j1 ∧ (T6.1 78 j = 20 ∧ T6.1 81 j = nI p ∧ T6.1 78 j1 = 35 ∧ T6.1 80 j1 = 0) ∧
  (∀ x, d ≤ x → ∀ Q, zW l Gr (zc n w) 168 M_Mo_ifStatement (x + 12) 99 [none, none, none, none] [.int (nI j1), .int 1, .ref 105] T6 Q → zW l Gr (zc n w) 168 M_Mo_ifStatement (x + 12) 0 (iL p) [] T Q)
section IFH
variable {l : Launch} {Gr : zG} {n w : Nat} {d : Nat} {b : Nat → Int32} {t p i ws dp p' i' q j m N X u k D D' vw iw s e : Nat} {S S' S'' T T' T'' : zS}
/-- a BLOCK opens -/
theorem ob_ok (hg : ip_gk (lg_tbl, vwCl, Gr)) (htx : ∀ k, k < t → tx (b k)) {p4 K : Nat} (hK : K ≤ 3) (M6 : MC b t q j dp 0 N T) (g6 : gp b t q = p4) (hk : tk b t p4 = 123) (hd : dp < 30) (h26 : T.1 73 26 = nI dp) (h30 : T.1 73 30 = nI vw) (h29 : T.1 73 29 = nI iw) (hb : bud b t (2 * dp) j 0 N q) : ∃ T7, (∀ x, zMv l Gr (zc n w) 168 M_Mo_openBlock (x + 3) [.ref 105, .int (nI K), .int (nI s)] T (fun A => A = T7)) ∧ HS b t (p4 + 1) j (dp + 1) N vw iw (np b t p4) T7 ∧ T7.1 87 dp = nI K ∧ T7.1 88 dp = nI s ∧ PK b t T T7 j dp ∧ TB T7 (dp + 1) := by
  have h1 := MC_p M6 g6
  have hp4 := MC_p2 h1
  have hpt : p4 < t := tk_pos (by rw [hk]; decide)
  obtain ⟨te4, -⟩ := te_s htx hp4 (c := 123) (by decide) (by decide) (by decide) hk
  have hq : q ≤ p4 := by rw [← g6]; exact gp_ge (MC_p2 M6)
  have b1 := hb.1
  obtain ⟨T7, eT7⟩ : ∃ T7, T7 = oB T p4 dp dp (nI K) (nI s) := ⟨_, rfl⟩
  have M7 : MC b t (p4 + 1) j (dp + 1) 0 N T7 := by
    rw [eT7]
    exact MC_x (MC_o (MC_o (MC_at (MC_dp (MC_at M6 (by omega))) (by omega)) (by omega)) (by omega)) (by omega)
  have t26 : T7.1 73 26 = nI (dp + 1) := by rw [eT7]; exact zi_v
  have t7k : ∀ a, a ≠ 6 → a ≠ 19 → a ≠ 26 → T7.1 73 a = T.1 73 a := fun a a1 a2 a3 => by
    rw [eT7]; unfold oB; rw [zi_k a3, zi_c (by decide), zi_c (by decide), zi_k a1, zi_k a2, zi_k a1]
  have t87 : T7.1 87 dp = nI K := by rw [eT7]; unfold oB; rw [zi_c (by decide), zi_c (by decide)]; exact zi_v
  refine ⟨T7, fun x => by rw [eT7]; exact wm_open hg htx M6 g6 hk hd h26 (by omega), ⟨⟨M7, t26, (t7k 30 (by decide) (by decide) (by decide)).trans h30, (t7k 29 (by decide) (by decide) (by decide)).trans h29⟩, by rw [np, te4], ⟨by omega, by omega, nb_le hb.2.2 (by omega)⟩⟩, t87, ?_, ?_, Or.inr ?_⟩
  · rw [eT7]; unfold oB; rw [zi_c (by decide)]; exact zi_v
  · rw [eT7]
    exact PK_tr (PK_tr (PK_tr (PK_tr (PK_tr (PK_zi (by omega)) (PK_zi (by omega))) (PK_zi (by omega))) (PK_zi (by omega))) (PK_zi (by omega))) (PK_zi (by omega))
  · rw [Nat.add_sub_cancel, t87]
    intro y
    exact absurd ((nI_eq (a := K) (b := 12) (by omega) (by omega)).mp y) (by omega)
theorem x_okA (hg : ip_gk (lg_tbl, vwCl, Gr)) (htx : ∀ k, k < t → tx (b k)) (hdp : dp ≤ 30) (hE : EOK l Gr n w d b t S S' p i ws dp p' i') (hM : MC b t q j dp 0 N T) (hgq : gp b t q = p) (hb : bud b t X j 0 N q) : ∃ Y j' N', (∀ x, d ≤ x → zMv l Gr (zc n w) 168 M_Mo_expression (x + 11) [.ref 105] T (fun A => A = Y)) ∧ MC b t p' j' dp 0 N' Y ∧ MK b t T Y j 0 ∧ bud b t X j' 0 N' p' ∧ gX w S' Y (nid b t Y) p i i' j j' := by
  have hH : HE b t q j dp 0 N X 0 p T := ⟨hM, hgq, hb, Nat.le_refl _, Nat.zero_le _, fun k hk => absurd hk (Nat.not_lt_zero k), Or.inl rfl, Or.inl rfl⟩
  obtain ⟨T', Y, q', j1, d1, m1, j', N', rx, hM1, hgp, h51, hY, hK, hbY, hX, -⟩ := E0_of hg hdp hH (hE.2.2.2.2.2.2 T q j 0 N X 0 hH)
  refine ⟨Y, j', N', fun x hx => ?_, hY, hK, hbY, hX⟩
  have ex := rx_e (d := d) (T' := Y) hg htx hM1 hgp hE.2.2.2.2.1 hE.2.2.2.2.2.1 (e_Mo_closes (h51 _ (b_Mo_closes_51 (fun z => absurd hY.2.2.2.2.1 z) (fun _ => b_Mo_closes_59 ⟨_, rfl, Or.inl rfl, rfl, rfl⟩))))
  have fin : zi Y 73 20 0 = Y := zi_id hY.2.2.2.2.1
  refine e_Mo_expression (d := x + 10) (zW_up (d := d + 10) (by omega) (b_Mo_expression_0 ?_))
  rw [hM.2.2.2.2.1]
  exact RX_EX rx ex _ (by rw [fin]; exact ⟨rfl, rfl⟩)
theorem x_badA {f pl : Int32} (hE : EBD l Gr n w d b t S S' p dp f pl) (hM : MC b t q j dp 0 N T) (hgq : gp b t q = p) (hb : bud b t X j 0 N q) : ∃ Y, (∀ x, d ≤ x → zMv l Gr (zc n w) 168 M_Mo_expression (x + 11) [.ref 105] T (fun A => A = Y)) ∧ Y.1 73 7 = f ∧ Y.1 73 8 = pl ∧ MK b t T Y 0 0 := by
  have hH : HE b t q j dp 0 N X 0 p T := ⟨hM, hgq, hb, Nat.le_refl _, Nat.zero_le _, fun k hk => absurd hk (Nat.not_lt_zero k), Or.inl rfl, Or.inl rfl⟩
  obtain ⟨T', ex, h7, h8, hK⟩ := hE.2 T q j 0 N X 0 hH
  refine ⟨zi T' 73 20 0, fun x hx => ?_, by rw [zi_k (by decide)]; exact h7, by rw [zi_k (by decide)]; exact h8, MK_tr hK (MK_zi (by omega))⟩
  refine e_Mo_expression (d := x + 10) (zW_up (d := d + 10) (by omega) (b_Mo_expression_0 ?_))
  rw [hM.2.2.2.2.1]
  exact ex _ ⟨rfl, rfl⟩
/-- the class behind a FAULT -/
theorem if_clF (hg : ip_gk (lg_tbl, vwCl, Gr)) {X : zS} {x1 x2 x4 : Int32} (hX : ¬ X.1 3 5 = 0) {Q : zS → Prop} (q : Q X) : zW l Gr (zc n w) 168 M_Reader_readIf (d + 8) 171 [some (.ref 66), none, some (.int x2), none, some (.int x4)] [] X (fun v S' => v = none ∧ Q S') :=
  b_Reader_readIf_171 hg (w_addN hg hX) (fun v A hv => b_Reader_readIf_183 ⟨rfl, by rw [hv.2]; exact q⟩)
theorem if_clE (hg : ip_gk (lg_tbl, vwCl, Gr)) {X : zS} {x1 x2 x4 : Int32} (hX : ¬ X.1 3 5 = 0) {Q : zS → Prop} (q : Q X) : zW l Gr (zc n w) 168 M_Reader_readIf (d + 8) 76 [some (.ref 66), some (.int x1), some (.int x2), none, some (.int x4)] [] X (fun v S' => v = none ∧ Q S') := by
  refine b_Reader_readIf_76 hg (w_addN hg hX) (fun v A hv => ?_)
  rw [hv.2]
  exact b_Reader_readIf_88 (fun _ => if_clF (x1 := 0) hg hX q) (fun y => absurd y hX)
theorem if_clD (hg : ip_gk (lg_tbl, vwCl, Gr)) {X : zS} {x1 x2 x3 : Int32} (hX : ¬ X.1 3 5 = 0) {Q : zS → Prop} (q : Q X) : zW l Gr (zc n w) 168 M_Reader_readIf (d + 8) 58 [some (.ref 66), some (.int x1), some (.int x2), some (.int x3), none] [] X (fun v S' => v = none ∧ Q S') := by
  refine b_Reader_readIf_58 hg (w_addN hg hX) (fun v A hv => ?_)
  rw [hv.2]
  refine b_Reader_readIf_69 hg (w_blockN hg hX) (fun A eA => ?_)
  rw [eA]
  exact if_clE hg hX q
/-- the reference's, behind a FAULT -/
theorem if_rF {Y : zS} {f x1 : Int32} (y7 : Y.1 73 7 = f) (hf : ¬ f = 0) {Q : zS → Prop} (q : Q Y) : zW l Gr (zc n w) 168 M_Mo_ifStatement (d + 1) 47 [some (.ref 105), some (.int x1), none, none] [] Y (fun v S' => v = none ∧ Q S') :=
  b_Mo_ifStatement_47 (fun _ => b_Mo_ifStatement_58 (fun _ => b_Mo_ifStatement_81 (fun _ => b_Mo_ifStatement_102 ⟨rfl, q⟩) (fun y => absurd (y7.symm.trans y) hf)) (fun y => absurd (y7.symm.trans y) hf)) (fun y => absurd (y7.symm.trans y) hf)
theorem if_rG {Y : zS} {f x1 : Int32} (y7 : Y.1 73 7 = f) (hf : ¬ f = 0) {Q : zS → Prop} (q : Q Y) : zW l Gr (zc n w) 168 M_Mo_ifStatement (d + 1) 58 [some (.ref 105), some (.int x1), none, none] [] Y (fun v S' => v = none ∧ Q S') :=
  b_Mo_ifStatement_58 (fun _ => b_Mo_ifStatement_81 (fun _ => b_Mo_ifStatement_102 ⟨rfl, q⟩) (fun y => absurd (y7.symm.trans y) hf)) (fun y => absurd (y7.symm.trans y) hf)
/-- ifStatement() behind a FAULT -/
theorem if_N (hg : ip_gk (lg_tbl, vwCl, Gr)) {f : Int32} (m : mA b t q T) (hq : q + 2 ≤ t) (h13 : T.1 73 13 = nI j) (hj : j < 12000) (h7 : T.1 73 7 = f) (hf : ¬ f = 0) {x1 : Int32} : ∃ Y, zMv l Gr (zc n w) 168 M_Mo_ifStatement (d + 12) [.ref 105, .int x1] T (fun A => A = Y) ∧ Y.1 73 7 = f ∧ Y.1 73 8 = T.1 73 8 ∧ PK b t T Y 0 0 := by
  have m1 : mA b t q (mP T j 20 0 0 x1) := ⟨by rw [mP_k (by decide)]; exact m.1, fun k hk => by rw [mP_c (by decide)]; exact m.2.1 k hk, by rw [mP_k (by decide)]; exact m.2.2.1, m.2.2.2⟩
  have m2 : mA b t (q + 2) (zi (mP T j 20 0 0 x1) 73 6 (nI (q + 2))) := mA_at m1 hq
  have m3 : mA b t (gp b t (q + 2)) (zi (zi (mP T j 20 0 0 x1) 73 6 (nI (q + 2))) 73 6 (nI (gp b t (q + 2)))) := mA_at m2 (gp_le hq)
  obtain ⟨Z, eZ⟩ : ∃ Z, Z = zi (zi (mP T j 20 0 0 x1) 73 6 (nI (q + 2))) 73 6 (nI (gp b t (q + 2))) := ⟨_, rfl⟩
  rw [← eZ] at m3
  have z7 : Z.1 73 7 = f := by rw [eZ, zi_k (by decide), zi_k (by decide), mP_k (by decide)]; exact h7
  have z8 : Z.1 73 8 = T.1 73 8 := by rw [eZ, zi_k (by decide), zi_k (by decide), mP_k (by decide)]
  obtain ⟨q', ks⟩ := wm_sgN (l := l) (Gr := Gr) (n := n) (w := w) (d := d + 8) (c := 40) hg m3 (by rw [z7]; exact hf)
  have y7 : (zi Z 73 6 (nI q')).1 73 7 = f := by rw [zi_k (by decide)]; exact z7
  refine ⟨zi Z 73 6 (nI q'), e_Mo_ifStatement (b_Mo_ifStatement_0 hg (wm_put h13 hj) (fun a A hv => ?_)), y7, by rw [zi_k (by decide)]; exact z8, by rw [eZ]; exact PK_tr (PK_tr (PK_tr (PK_mP (Nat.zero_le _)) (PK_zi (by omega))) (PK_zi (by omega))) (PK_zi (by omega))⟩
  rw [hv.2]
  refine b_Mo_ifStatement_9 (R := fun A => A = Z) hg ?_ (fun A eA => ?_)
  · rw [m1.2.2.1, show nI q + 2 = nI (q + 2) from nI_add q 2, eZ]
    exact wm_gap hg m2
  · rw [eA]
    refine b_Mo_ifStatement_24 hg ks (fun A eA => ?_)
    rw [eA]
    exact b_Mo_ifStatement_35 (fun _ => if_rF y7 hf rfl) (fun y => absurd (y7.symm.trans y) hf)
theorem w_ifhead (hg : ip_gk (lg_tbl, vwCl, Gr)) (ho : ip_old (lg_tbl, vwCl, Gr)) (htx : ∀ k, k < t → tx (b k)) (hD : 7 ≤ D) (hdp : dp ≤ 30) (KE1 : dp < 30 → KE l Gr n w d b t (dp + 1) D) {Dn : Nat} (h : CN b t p i Dn vw S) (hk : tk b t p = 206)
    (tail : ∀ S6 p2 p4 i1, dp < 30 → CN b t p4 (i1 + 1) Dn vw S6 → CK S S6 i 0 → p + 5 ≤ p4 → i + 1 < i1 → i1 + p + 3 ≤ i + p4 → Hx S6 i (i1 + 1) 0 1 341 ((p4 : Int) - p) → (S6.1 4 i = 1 ∧ S6.1 6 i = nI p ∧ S6.1 4 i1 = 14 ∧ S6.1 6 i1 = nI p2) → IFP l Gr n w d b t S6 p i p2 p4 i1 dp vw → zW l Gr (zc n w) 168 M_Reader_readIf (D + 1) 69 [some (.ref 66), some (.int (nI dp)), some (.int (nI p)), none, none] [.int (nI i1)] S6 (fun v S' => v = none ∧ IR l Gr n w d b t S S' p i Dn vw dp)) :
    zMv l Gr (zc n w) 168 M_Reader_readIf (D + 1) [.ref 66, .int (nI dp)] S (fun S' => IR l Gr n w d b t S S' p i Dn vw dp) := by
  obtain ⟨e, rfl⟩ : ∃ e, D = e + 7 := ⟨D - 7, by omega⟩
  have h0 := h.1
  have ht := CS_t h0
  have hp := CS_p h0
  have hpt : p < t := tk_pos (by rw [hk]; decide)
  have hip := h.2.2.2.2.1
  have e2 : te b t p = p + 2 := te_w htx hp (K := kw6) (c := 206) (fun s => wk_6) (by decide) (by decide) hk
  have hnp := np_ok (b := b) hp
  refine e_Reader_readIf (b_Reader_readIf_0 hg (w_add hg (CS_f h0) (CS_n h0) (by omega)) (fun v A hv => ?_))
  rw [hv.2, CS_s h0]
  have h1 : CS b t p (i + 1) 0 (cA S i 1 0 (nI p) 0) := CS_cA h0
  obtain ⟨S1, eS1⟩ : ∃ S1, S1 = cA S i 1 0 (nI p) 0 := ⟨_, rfl⟩
  have r1 := cA_r (S := S) (i0 := i) (x1 := 1) (x2 := 0) (x3 := nI p) (x4 := 0)
  have ck1 : CK S S1 i 0 := by rw [eS1]; exact CK_cA (Nat.le_refl _)
  rw [← eS1] at h1 r1 ⊢
  refine b_Reader_readIf_18 hg (w_adv hg ho h1) (fun A eA => ?_)
  rw [eA]
  have h2 := CS_wS h1
  obtain ⟨p1, ep1⟩ : ∃ p1, p1 = np b t p := ⟨_, rfl⟩
  rw [← ep1] at h2 hnp ⊢
  obtain ⟨S2, eS2⟩ : ∃ S2, S2 = wS b t p1 S1 := ⟨_, rfl⟩
  have ck2 : CK S1 S2 (i + 1) 0 := by rw [eS2]; exact CK_wS
  have ck02 : CK S S2 0 0 := CK_tr (CK_le ck1 (Nat.zero_le _) (Nat.le_refl _)) (CK_le ck2 (Nat.zero_le _) (Nat.le_refl _))
  rw [← eS2] at h2 ⊢
  rw [e2] at hnp
  have hp1 := CS_p h2
  have wb1 := h2.2.2.2.2.2.2.2.2.1
  -- the reference up to the ( 
  have st1 : ∀ T j N iw, HS b t p j dp N vw iw p T → ∃ T1, MC b t p1 (j + 1) dp 0 N T1 ∧ MK b t T T1 j 0 ∧ nb b t N p1 ∧ j + 2 * dp ≤ 3 * p ∧ T1.1 78 j = 20 ∧ T1.1 81 j = nI p ∧
    (∀ x, d ≤ x → ∀ Q, zW l Gr (zc n w) 168 M_Mo_ifStatement (x + 12) 24 (iL p) [] T1 Q → zW l Gr (zc n w) 168 M_Mo_ifStatement (x + 12) 0 (iL p) [] T Q) := fun T j N iw hH => by
    have M0 := hH.1.1
    obtain ⟨b1, -, b3⟩ := hH.2.2
    have M2 : MC b t p (j + 1) dp 0 N (mP T j 20 0 0 (nI p)) := MC_mP M0
    have M3 : MC b t (p + 2) (j + 1) dp 0 N (zi (mP T j 20 0 0 (nI p)) 73 6 (nI (p + 2))) := MC_at M2 (by omega)
    have r := mP_r (T := T) (j0 := j) (x1 := 20) (x2 := 0) (x3 := 0) (x4 := nI p)
    refine ⟨zi (zi (mP T j 20 0 0 (nI p)) 73 6 (nI (p + 2))) 73 6 (nI p1), MC_at M3 hp1, MK_tr (MK_tr (MK_mP (Nat.le_refl _)) (MK_zi (by omega))) (MK_zi (by omega)), nb_le b3 (by omega), by omega, by rw [zi_c (by decide), zi_c (by decide)]; exact r.1, by rw [zi_c (by decide), zi_c (by decide)]; exact r.2.2.2, fun x hx Q kk => ?_⟩
    refine b_Mo_ifStatement_0 hg (wm_put (MC_13 M0) (by omega)) (fun a A hv => ?_)
    rw [hv.2]
    refine b_Mo_ifStatement_9 (R := fun A => A = zi (zi (mP T j 20 0 0 (nI p)) 73 6 (nI (p + 2))) 73 6 (nI p1)) hg ?_ (fun A eA => by rw [eA]; exact kk)
    rw [MC_6 M2, show nI p + 2 = nI (p + 2) from nI_add p 2]
    have := wm_gap (l := l) (Gr := Gr) (n := n) (w := w) (d := x + 10) hg M3.1
    rw [show gp b t (p + 2) = p1 from by rw [ep1, np, e2]] at this
    exact this
  refine b_Reader_readIf_26 hg (w_opens hg ho hdp h2) (fun v S3 hv => ?_)
  rcases hv with ⟨k40, hd, ev, e3⟩ | ⟨k40, hd, ev, e3⟩ | ⟨k40, ev, e3⟩
  · rw [ev, e3]
    have hpt1 : p1 < t := tk_pos (by rw [k40]; decide)
    have hgt1 := np_gt (b := b) hpt1
    obtain ⟨te1, -⟩ := te_s htx hp1 (c := 40) (by decide) (by decide) (by decide) k40
    have h3 := CS_wS h2
    obtain ⟨p2, ep2⟩ : ∃ p2, p2 = np b t p1 := ⟨_, rfl⟩
    rw [← ep2] at h3 hgt1 ⊢
    have g12 : gp b t (p1 + 1) = p2 := by rw [ep2, np, te1]
    have st2 : ∀ T j N iw, HS b t p j dp N vw iw p T → ∃ T2, MC b t (p1 + 1) (j + 1) (dp + 1) 0 N T2 ∧ MK b t T T2 j 0 ∧ bud b t (2 * dp + 8) (j + 1) 0 N (p1 + 1) ∧ T2.1 78 j = 20 ∧ T2.1 81 j = nI p ∧
      (∀ x, d ≤ x → ∀ Q, zW l Gr (zc n w) 168 M_Mo_ifStatement (x + 12) 54 (iL p) [] T2 Q → zW l Gr (zc n w) 168 M_Mo_ifStatement (x + 12) 0 (iL p) [] T Q) := fun T j N iw hH => by
      obtain ⟨T1, M1, mk1, nb1, bj, r0, r0', pre⟩ := st1 T j N iw hH
      have M2 : MC b t (p1 + 1) (j + 1) dp 0 N (zi T1 73 6 (nI (p1 + 1))) := MC_at M1 (by omega)
      have M3 : MC b t (p1 + 1) (j + 1) (dp + 1) 0 N (zi (zi T1 73 6 (nI (p1 + 1))) 73 19 (nI (dp + 1))) := MC_dp M2
      refine ⟨_, M3, MK_tr mk1 (MK_tr (MK_zi (by omega)) (MK_zi (by omega))), ⟨by omega, by omega, nb_le nb1 (by omega)⟩, by rw [zi_c (by decide), zi_c (by decide)]; exact r0, by rw [zi_c (by decide), zi_c (by decide)]; exact r0', fun x hx Q kk => pre x hx Q (b_Mo_ifStatement_24 hg (wm_sg hg htx (by decide) (by decide) (by decide) M1.1 (gp_wb wb1) k40) (fun A eA => ?_))⟩
      rw [eA]
      refine b_Mo_ifStatement_35 (fun y => absurd (MC_f M2) y) (fun _ => b_Mo_ifStatement_42 hg (wm_deeper hg (MC_19 M2) hd) (fun A eA => ?_))
      rw [eA]
      exact b_Mo_ifStatement_47 (fun y => absurd (MC_f M3) y) (fun _ => kk)
    refine b_Reader_readIf_33 (fun _ => ?_) (fun y => absurd y (by decide))
    refine b_Reader_readIf_37 hg (by rw [nI_1]; exact KE1 hd _ _ _ _ h3 (by omega) (by omega)) (fun S4 hE => ?_)
    rw [CS_s h3]
    rcases hE with ⟨p3, i1, hE⟩ | ⟨f, pl, hE⟩
    · have c4 := hE.1
      have ck4 := hE.2.1
      have hlt4 := hE.2.2.1
      have hbd4 := hE.2.2.2.1
      have hp3 := CS_p c4
      have wb3 := c4.2.2.2.2.2.2.2.2.1
      have ck14 : CK S1 S4 (i + 1) 0 := CK_tr ck2 (CK_tr CK_wS ck4)
      have ck04 : CK S S4 i 0 := CK_tr ck1 (CK_le ck14 (by omega) (Nat.le_refl _))
      have st3 : ∀ T j N iw, HS b t p j dp N vw iw p T → ∃ Y j1 N6, MC b t p3 j1 (dp + 1) 0 N6 Y ∧ MK b t T Y j 0 ∧ bud b t (2 * dp + 8) j1 0 N6 p3 ∧ j < j1 ∧ gX w S4 Y (nid b t Y) p2 (i + 1) i1 (j + 1) j1 ∧ Y.1 78 j = 20 ∧ Y.1 81 j = nI p ∧
        (∀ x, d ≤ x → ∀ Q, zW l Gr (zc n w) 168 M_Mo_ifStatement (x + 12) 65 (iL p) [] Y Q → zW l Gr (zc n w) 168 M_Mo_ifStatement (x + 12) 0 (iL p) [] T Q) := fun T j N iw hH => by
        obtain ⟨T2, M2, mk2, b2, r0, r0', pre⟩ := st2 T j N iw hH
        obtain ⟨Y, j1, N6, kx, MY, mkY, bY, gx⟩ := x_okA (l := l) (Gr := Gr) (n := n) (w := w) (d := d) hg htx (by omega) hE M2 g12 b2
        have bx := gX_bnd gx
        have c0 := mkY.1 j (Nat.zero_le _) (by omega)
        refine ⟨Y, j1, N6, MY, MK_tr mk2 (MK_le mkY (by omega) (Nat.le_refl _)), bY, by omega, gx, c0.1.trans r0, c0.2.2.2.1.trans r0', fun x hx Q kk => pre x hx Q (b_Mo_ifStatement_54 hg (kx x hx) (fun A eA => ?_))⟩
        rw [eA]
        exact b_Mo_ifStatement_58 (fun y => absurd (MC_f MY) y) (fun _ => kk)
      refine b_Reader_readIf_52 hg (w_expect hg ho c4) (fun S5 h5 => ?_)
      rcases h5 with ⟨k41, e5⟩ | ⟨k41, e5⟩
      · rw [e5]
        have hpt3 : p3 < t := tk_pos (by rw [k41]; decide)
        have hgt3 := np_gt (b := b) hpt3
        obtain ⟨te3, -⟩ := te_s htx hp3 (c := 41) (by decide) (by decide) (by decide) k41
        have c5 := CS_wS c4
        obtain ⟨p4, ep4⟩ : ∃ p4, p4 = np b t p3 := ⟨_, rfl⟩
        rw [← ep4] at c5 hgt3 ⊢
        have g34 : gp b t (p3 + 1) = p4 := by rw [ep4, np, te3]
        refine b_Reader_readIf_58 hg (w_add hg (CS_f c5) (CS_n c5) (by omega)) (fun v A hv => ?_)
        rw [hv.1, hv.2]
        have c6 : CS b t p4 (i1 + 1) 0 (cA (wS b t p4 S4) i1 14 0 (nI p2) 0) := CS_cA c5
        have r6 := cA_r (S := wS b t p4 S4) (i0 := i1) (x1 := 14) (x2 := 0) (x3 := nI p2) (x4 := 0)
        have ck46 : CK S4 (cA (wS b t p4 S4) i1 14 0 (nI p2) 0) i1 0 := CK_tr CK_wS (CK_cA (Nat.le_refl _))
        obtain ⟨S6, eS6⟩ : ∃ S6, S6 = cA (wS b t p4 S4) i1 14 0 (nI p2) 0 := ⟨_, rfl⟩
        rw [← eS6] at c6 r6 ck46 ⊢
        have ck06 : CK S S6 i 0 := CK_tr ck04 (CK_le ck46 (by omega) (Nat.le_refl _))
        have ck16 : CK S1 S6 (i + 1) 0 := CK_tr ck14 (CK_le ck46 (by omega) (Nat.le_refl _))
        have s0 := ck16.1 i (Nat.zero_le _) (by omega)
        have hx6 : Hx S6 i (i1 + 1) 0 1 341 ((p4 : Int) - p) := by
          have A : Hx S6 (i + 1) i1 1 1 341 ((p4 : Int) - p) := Hx_0 (Hx_mono hbd4.2.2 (by omega) (by omega)) ck46.1 (Nat.le_refl _)
          exact Hx_eq (Hx_sn (e1 := -1) (e2 := 0) (Hx_cs (s0.1.trans r1.1) (by decide) (by decide) (by decide) A (by omega) (by omega)) r6.1 (by decide) (by decide) (by decide) (by omega) (by omega)) (by omega) (by omega)
        refine tail S6 p2 p4 i1 hd (CN_CK h c6 (CK_le ck06 (Nat.zero_le _) (Nat.le_refl _)) (by omega) (by omega)) ck06 (by omega) (by omega) (by omega) hx6 ⟨s0.1.trans r1.1, s0.2.2.1.trans r1.2.2.1, r6.1, r6.2.2.1⟩ (fun T j N iw hH => ?_)
        obtain ⟨Y, j1, N6, MY, mkY, bY, hj, gx, r0, r0', pre⟩ := st3 T j N iw hH
        have b1 := bY.1
        have bx := gX_bnd gx
        have M4 : MC b t (p3 + 1) j1 (dp + 1) 0 N6 (zi Y 73 6 (nI (p3 + 1))) := MC_at MY (by omega)
        have M5 : MC b t (p3 + 1) j1 dp 0 N6 (zi (zi Y 73 6 (nI (p3 + 1))) 73 19 (nI dp)) := MC_dp M4
        obtain ⟨T6, eT6⟩ : ∃ T6, T6 = mP (zi (zi Y 73 6 (nI (p3 + 1))) 73 19 (nI dp)) j1 35 0 0 (nI p) := ⟨_, rfl⟩
        have M6 : MC b t (p3 + 1) (j1 + 1) dp 0 N6 T6 := by rw [eT6]; exact MC_mP M5
        have rT := mP_r (T := zi (zi Y 73 6 (nI (p3 + 1))) 73 19 (nI dp)) (j0 := j1) (x1 := 35) (x2 := 0) (x3 := 0) (x4 := nI p)
        rw [← eT6] at rT
        have mk6 : MK b t Y T6 j1 0 := by rw [eT6]; exact MK_tr (MK_tr (MK_zi (by omega)) (MK_zi (by omega))) (MK_mP (Nat.le_refl _))
        have c0 := mk6.1 j (Nat.zero_le _) (by omega)
        refine ⟨T6, p3 + 1, j1, N6, M6, g34, MK_tr mkY (MK_le mk6 (by omega) (Nat.le_refl _)), ⟨by omega, by omega, nb_le bY.2.2 (by omega)⟩, hj, gX_cong mk6.2.2.2.2.2 gx (fun a q1 q2 => ck46.1 a (Nat.zero_le _) q2) (fun a q1 q2 => mk6.1 a (Nat.zero_le _) q2), ⟨c0.1.trans r0, c0.2.2.2.1.trans r0', rT.1, rT.2.2.1⟩, fun x hx Q kk => pre x hx Q (b_Mo_ifStatement_65 hg (wm_sg hg htx (by decide) (by decide) (by decide) MY.1 (gp_wb wb3) k41) (fun A eA => ?_))⟩
        rw [eA]
        refine b_Mo_ifStatement_71 ?_
        rw [MC_19 M4, show nI (dp + 1) - 1 = nI dp from nI_pred dp]
        refine b_Mo_ifStatement_81 (fun y => absurd (MC_f M5) y) (fun _ => b_Mo_ifStatement_88 hg (wm_put (MC_13 M5) (by omega)) (fun a A hv => ?_))
        rw [hv.1, hv.2, ← eT6]
        exact kk
      · rw [e5]
        have f5 : ¬ (cF S4 1 (nI p3)).1 3 5 = 0 := by rw [cF_f.1]; decide
        refine if_clD hg f5 (Q := fun S' => IR l Gr n w d b t S S' p i Dn vw dp) (Or.inr ⟨1, nI p3, SB_F (by decide) (SK_CK (CK_le ck04 (Nat.zero_le _) (Nat.le_refl _))), fun T j N iw c hI => ?_⟩)
        obtain ⟨Y, j1, N6, MY, mkY, bY, hj, gx, r0, r0', pre⟩ := st3 T j N iw hI.1
        obtain ⟨Z, eZ⟩ : ∃ Z, Z = zi (mF (zi Y 73 6 (nI p3)) 1 (nI p3)) 73 19 (nI dp) := ⟨_, rfl⟩
        have z7 : Z.1 73 7 = 1 := by rw [eZ, zi_k (by decide)]; exact mF_f.1
        refine ⟨Z, fun x hx => e_Mo_ifStatement (pre x hx _ (b_Mo_ifStatement_65 hg (wm_sgF hg htx (by decide) (by decide) (by decide) MY.1 (gp_wb wb3) (MC_f MY) k41) (fun A eA => ?_))), PZ_of (by decide) PX_rfl z7 (by rw [eZ, zi_k (by decide)]; exact mF_f.2) PK_rfl, PK_MK (m := 0) (MK_tr (MK_le mkY (Nat.zero_le _) (Nat.le_refl _)) (by rw [eZ]; exact MK_tr (MK_tr (MK_zi (by omega)) MK_mF) (MK_zi (by omega))))⟩
        rw [eA]
        refine b_Mo_ifStatement_71 ?_
        rw [show (mF (zi Y 73 6 (nI p3)) 1 (nI p3)).1 73 19 - 1 = nI dp from by rw [mF_k (by decide), zi_k (by decide), MC_19 MY]; exact nI_pred dp, ← eZ]
        exact b_Mo_ifStatement_81 (fun _ => b_Mo_ifStatement_102 ⟨rfl, rfl⟩) (fun y => absurd (z7.symm.trans y) (by decide))
    · have f1 : ¬ S4.1 3 5 = 0 := by rw [hE.1.2.1]; exact nz hE.1.1
      refine b_Reader_readIf_52 hg (w_expectN hg f1) (fun A eA => ?_)
      rw [eA]
      refine if_clD hg f1 (Q := fun S' => IR l Gr n w d b t S S' p i Dn vw dp) (Or.inr ⟨f, pl, SB_CB (SK_tr (SK_CK ck02) SK_wS) hE.1, fun T j N iw c hI => ?_⟩)
      obtain ⟨T2, M2, mk2, b2, r0, r0', pre⟩ := st2 T j N iw hI.1
      obtain ⟨Y, kx, y7, y8, mkY⟩ := x_badA (l := l) (Gr := Gr) (n := n) (w := w) (d := d) hE M2 g12 b2
      exact ⟨Y, fun x hx => e_Mo_ifStatement (pre x hx _ (b_Mo_ifStatement_54 hg (kx x hx) (fun A eA => by rw [eA]; exact if_rG y7 (nz hE.1.1) rfl))), PZ_of (nz hE.1.1) PX_rfl y7 y8 PK_rfl, PK_MK (m := 0) (MK_tr (MK_le mk2 (Nat.zero_le _) (Nat.le_refl _)) mkY)⟩
  · rw [ev, e3]
    refine b_Reader_readIf_33 (fun y => absurd rfl y) (fun _ => b_Reader_readIf_36 ⟨rfl, Or.inr ⟨3, nI p1, SB_F (by decide) (SK_CK ck02), fun T j N iw c hI => ?_⟩⟩)
    obtain ⟨T1, M1, mk1, nb1, bj, r0, r0', pre⟩ := st1 T j N iw hI.1
    subst hd
    have hpt1 : p1 < t := tk_pos (by rw [k40]; decide)
    have M2 : MC b t (p1 + 1) (j + 1) 30 0 N (zi T1 73 6 (nI (p1 + 1))) := MC_at M1 (by omega)
    obtain ⟨Z, eZ⟩ : ∃ Z, Z = zi (mF (zi T1 73 6 (nI (p1 + 1))) 3 (nI p1)) 73 19 (nI 31) := ⟨_, rfl⟩
    have z7 : Z.1 73 7 = 3 := by rw [eZ, zi_k (by decide)]; exact mF_f.1
    refine ⟨Z, fun x hx => e_Mo_ifStatement (pre x hx _ (b_Mo_ifStatement_24 hg (wm_sg hg htx (by decide) (by decide) (by decide) M1.1 (gp_wb wb1) k40) (fun A eA => ?_))), PZ_of (by decide) PX_rfl z7 (by rw [eZ, zi_k (by decide)]; exact mF_f.2) PK_rfl, PK_MK (m := 0) (MK_tr (MK_le mk1 (Nat.zero_le _) (Nat.le_refl _)) (by rw [eZ]; exact MK_tr (MK_tr (MK_zi (by omega)) MK_mF) (MK_zi (by omega))))⟩
    rw [eA, MC_6 M1]
    refine b_Mo_ifStatement_35 (fun y => absurd (MC_f M2) y) (fun _ => b_Mo_ifStatement_42 hg (wm_deeperF hg (MC_19 M2) (MC_f M2)) (fun A eA => ?_))
    rw [eA, ← eZ]
    exact if_rF z7 (by decide) rfl
  · rw [ev, e3]
    refine b_Reader_readIf_33 (fun y => absurd rfl y) (fun _ => b_Reader_readIf_36 ⟨rfl, Or.inr ⟨1, nI p1, SB_F (by decide) (SK_CK ck02), fun T j N iw c hI => ?_⟩⟩)
    obtain ⟨T1, M1, mk1, nb1, bj, r0, r0', pre⟩ := st1 T j N iw hI.1
    obtain ⟨Z, eZ⟩ : ∃ Z, Z = mF (zi T1 73 6 (nI p1)) 1 (nI p1) := ⟨_, rfl⟩
    have z7 : Z.1 73 7 = 1 := by rw [eZ]; exact mF_f.1
    refine ⟨Z, fun x hx => e_Mo_ifStatement (pre x hx _ (b_Mo_ifStatement_24 hg (wm_sgF hg htx (by decide) (by decide) (by decide) M1.1 (gp_wb wb1) (MC_f M1) k40) (fun A eA => ?_))), PZ_of (by decide) PX_rfl z7 (by rw [eZ]; exact mF_f.2) PK_rfl, PK_MK (m := 0) (MK_tr (MK_le mk1 (Nat.zero_le _) (Nat.le_refl _)) (by rw [eZ]; exact MK_tr (MK_zi (by omega)) MK_mF))⟩
    rw [eA, ← eZ]
    exact b_Mo_ifStatement_35 (fun _ => if_rF z7 (by decide) rfl) (fun y => absurd (z7.symm.trans y) (by decide))
end IFH
