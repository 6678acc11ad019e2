/-! NAME = EXPR ; and NAME [ EXPR ] = EXPR ; -/
section AS
variable {l : Launch} {Gr : zG} {n w : Nat} {d : Nat} {b : Nat → Int32} {t p i ws dp p' i' q j m N X u k D D' vw iw s e : Nat} {S S' S'' T T' T'' : zS}
theorem gp_p (h : MC b t q j dp m N T) (hgq : gp b t q = p) : gp b t p = p := by rw [← hgq]; exact gp_gp (MC_p2 h)
/-- name() at a NAME -/
theorem nm_run (hg : ip_gk (lg_tbl, vwCl, Gr)) (ho : ip_old (lg_tbl, vwCl, Gr)) (htx : ∀ k, k < t → tx (b k)) (h : MC b t q j dp m N T) (hgq : gp b t q = p) (hnb : nb b t N q) (hk : tk b t p = 1) (hsz : te b t p - p ≤ 16) : ∃ v T' N', zMi l Gr (zc n w) 168 M_Mo_name (d + 6) [.ref 105] T (fun a A => a = nI v ∧ A = T') ∧ nid b t T' v p ∧ MC b t (te b t p) j dp m N' T' ∧ MK b t T T' j m ∧ nb b t N' (te b t p) := by
  have hp : p ≤ t := by rw [← hgq]; exact gp_le (MC_p2 h)
  have hpt : p < t := tk_pos (by rw [hk]; decide)
  have htl := te_le (b := b) hp
  have ht := MC_t h
  obtain ⟨e1, e2, hl⟩ := te_n htx hp (Or.inl hk)
  have hN2 := nb_2 hnb hgq (MC_p2 h) hpt hl
  obtain ⟨x, T', ⟨v, ev, hid, hnm⟩, kk⟩ := zMi_ex (wm_name (l := l) (Gr := Gr) (n := n) (w := w) (d := d) hg ho htx h.1 hgq hk hsz (by omega) (MC_N h))
  obtain ⟨N', n1, n2, M1⟩ := MC_nm h htl hnm
  rw [ev] at kk
  exact ⟨v, T', N', kk, hid, M1, MK_nm (by omega) (MC_N h) hnm, nb_n htx hp hk hN2 n2⟩
theorem as_1 (hg : ip_gk (lg_tbl, vwCl, Gr)) (ho : ip_old (lg_tbl, vwCl, Gr)) (htx : ∀ k, k < t → tx (b k)) (h : HS b t q j dp N vw iw p T) (hk : tk b t p = 1) (hsz : te b t p - p ≤ 16) : ∃ v T4 N', nid b t T4 v p ∧ MC b t (np b t p) (j + 2) dp 0 N' T4 ∧ MK b t T T4 j 0 ∧ bud b t (2 * dp + 1) (j + 2) 0 N' (np b t p) ∧ (T4.1 78 j = 20 ∧ T4.1 81 j = nI p ∧ T4.1 78 (j + 1) = (if tk b t (np b t p) = 91 then 33 else 31) ∧ T4.1 79 (j + 1) = nI v ∧ T4.1 81 (j + 1) = nI p) ∧
    (∀ Q, zW l Gr (zc n w) 168 M_Mo_assignment (d + 13) 54 [some (.ref 105), some (.int (nI p)), some (.int (nI v)), none, some (.int (if tk b t (np b t p) = 91 then 1 else 0))] [.int (nI (j + 1))] T4 Q → zW l Gr (zc n w) 168 M_Mo_assignment (d + 13) 0 [some (.ref 105), some (.int (nI p)), none, none, none] [] (zi T 73 6 (nI p)) Q) := by
  have h1 := MC_p h.1.1 h.2.1
  have hp := MC_p2 h1
  have ht := MC_t h1
  have hpt : p < t := tk_pos (by rw [hk]; decide)
  have hqp : q ≤ p := by rw [← h.2.1]; exact gp_ge (MC_p2 h.1.1)
  obtain ⟨b1, -, b3⟩ := h.2.2
  obtain ⟨v, T1, N', kn, hid, M1, mk1, hnb⟩ := nm_run (l := l) (Gr := Gr) (n := n) (w := w) (d := d + 6) hg ho htx h1 (gp_p h.1.1 h.2.1) (nb_le b3 hqp) hk hsz
  have hnp := np_ok (b := b) hp
  have hgt := np_gt (b := b) hpt
  have M2 : MC b t (te b t p) (j + 1) dp 0 N' (mP T1 j 20 0 0 (nI p)) := MC_mP M1
  have M3 : MC b t (np b t p) (j + 1) dp 0 N' (zi (mP T1 j 20 0 0 (nI p)) 73 6 (nI (np b t p))) := MC_at M2 hnp.2.2
  obtain ⟨K, eK⟩ : ∃ K : Int32, K = if tk b t (np b t p) = 91 then 33 else 31 := ⟨_, rfl⟩
  obtain ⟨T4, eT⟩ : ∃ T4, T4 = mP (zi (mP T1 j 20 0 0 (nI p)) 73 6 (nI (np b t p))) (j + 1) K (nI v) 0 (nI p) := ⟨_, rfl⟩
  have M4 : MC b t (np b t p) (j + 2) dp 0 N' T4 := by rw [eT]; exact MC_mP M3
  have mk4 : MK b t T1 T4 j 0 := by rw [eT]; exact MK_tr (MK_tr (MK_mP (Nat.le_refl _)) (MK_zi (by omega))) (MK_mP (by omega))
  have r4 := mP_r (T := zi (mP T1 j 20 0 0 (nI p)) 73 6 (nI (np b t p))) (j0 := j + 1) (x1 := K) (x2 := nI v) (x3 := 0) (x4 := nI p)
  have o4 := mP_o (T := zi (mP T1 j 20 0 0 (nI p)) 73 6 (nI (np b t p))) (j0 := j + 1) (x1 := K) (x2 := nI v) (x3 := 0) (x4 := nI p) (a := j) (by omega)
  have r2 := mP_r (T := T1) (j0 := j) (x1 := 20) (x2 := 0) (x3 := 0) (x4 := nI p)
  rw [← eT] at r4 o4
  rw [zi_c (by decide)] at o4
  refine ⟨v, T4, N', nid_MK hid mk4, M4, MK_tr (MK_tr (MK_zi (by omega)) mk1) mk4, ⟨by omega, by omega, nb_le hnb hnp.2.1⟩, ⟨o4.1.trans r2.1, o4.2.2.2.trans (by rw [zi_c (by decide)]; exact r2.2.2.2), by rw [← eK]; exact r4.1, r4.2.1, r4.2.2.2⟩, fun Q kk => ?_⟩
  refine b_Mo_assignment_0 hg kn (fun a A hv => ?_)
  rw [hv.1, hv.2]
  refine b_Mo_assignment_4 (fun _ => b_Mo_assignment_13 hg (wm_put (MC_13 M1) (by omega)) (fun a A hv => ?_)) (fun y => absurd (by rw [MC_f M1]; exact Int32.le_refl _) y)
  rw [hv.2]
  refine b_Mo_assignment_22 hg (wm_gap hg M2.1) (fun A eA => ?_)
  rw [eA]
  refine b_Mo_assignment_27 hg (wm_isSign hg M3.1) (fun a A hv => ?_)
  rw [hv.1, hv.2]
  have is := tk_sg htx hnp.2.2 (c := 91) (by decide) (by decide) (by decide)
  have fin : ∀ x4 : Int32, x4 = (if tk b t (np b t p) = 91 then 1 else 0) → zW l Gr (zc n w) 168 M_Mo_assignment (d + 13) 48 [some (.ref 105), some (.int (nI p)), some (.int (nI v)), none, some (.int x4)] [.int K, .ref 105] (zi (mP T1 j 20 0 0 (nI p)) 73 6 (nI (np b t p))) Q := fun x4 e4 => by
    refine b_Mo_assignment_48 hg (wm_put (MC_13 M3) (by omega)) (fun a A hv => ?_)
    rw [hv.1, hv.2, ← eT, e4]
    exact kk
  by_cases z : tk b t (np b t p) = 91
  · rw [if_pos (is.mpr z)]
    refine b_Mo_assignment_33 (fun y => absurd y (by decide)) (fun _ => b_Mo_assignment_41 ?_)
    rw [show (33 : Int32) = K by rw [eK, if_pos z]]
    exact fin 1 (by rw [if_pos z])
  · rw [if_neg (fun y => z (is.mp y))]
    refine b_Mo_assignment_33 (fun _ => b_Mo_assignment_46 ?_) (fun y => absurd rfl y)
    rw [show (31 : Int32) = K by rw [eK, if_neg z]]
    exact fin 0 (by rw [if_neg z])
theorem as_F (hg : ip_gk (lg_tbl, vwCl, Gr)) (ho : ip_old (lg_tbl, vwCl, Gr)) (htx : ∀ k, k < t → tx (b k)) (h : HS b t q j dp N vw iw p T) (hd : dp ≤ 31) (hk : tk b t p = 1) (hsz : ¬ te b t p - p ≤ 16) : PZ l Gr n w d b t T 2 (nI p) := by
  have h1 := MC_p h.1.1 h.2.1
  have hpt : p < t := tk_pos (by rw [hk]; decide)
  obtain ⟨Y, eY⟩ : ∃ Y, Y = mF (zi (zi T 73 6 (nI p)) 73 6 (nI p)) 2 (nI p) := ⟨_, rfl⟩
  have y7 : Y.1 73 7 = 2 := by rw [eY]; exact mF_f.1
  refine PZ_of (T' := Y) (by decide) (px_asg hg ho htx h hd hpt (fun y => by rw [hk] at y; exact absurd y.1 (by decide)) (by rw [hk]; decide) (by rw [hk]; decide) (by rw [hk]; decide) (fun y => by rw [hk] at y; exact absurd y.2 (by decide)) (e_Mo_assignment (b_Mo_assignment_0 hg (wm_nameF hg ho htx h1.1 (gp_p h.1.1 h.2.1) (MC_f h1) (Or.inr ⟨hk, hsz⟩)) (fun v A hv => ?_)))) y7 (by rw [eY]; exact mF_f.2) (by rw [eY]; exact PK_tr (PK_tr (PK_zi (by omega)) (PK_zi (by omega))) PK_mF)
  rw [if_pos hk] at hv
  rw [hv.2, ← eY]
  refine b_Mo_assignment_4 (fun y => ?_) (fun _ => b_Mo_assignment_12 ⟨rfl, rfl⟩)
  rw [y7] at y
  exact absurd y (by decide)
/-- what is ahead of the = -/
def aH (w : Nat) (S T : zS) (ni : Nat → Nat → Prop) (el : Bool) (p i i3 j j3 v : Nat) : Prop :=
  (S.1 4 i = 1 ∧ S.1 6 i = nI p ∧ S.1 4 (i + 1) = (if el then 11 else 9) ∧ S.1 6 (i + 1) = nI p ∧ T.1 78 j = 20 ∧ T.1 81 j = nI p ∧ T.1 78 (j + 1) = (if el then 33 else 31) ∧ T.1 79 (j + 1) = nI v ∧ T.1 81 (j + 1) = nI p) ∧
  (if el then ∃ p1 i1 j1, gX w S T ni p1 (i + 2) i1 (j + 2) j1 ∧ i3 = i1 + 1 ∧ j3 = j1 + 1 ∧ S.1 4 i1 = 26 ∧ S.1 5 i1 = nI (i + 1) ∧ S.1 6 i1 = nI p1 ∧ T.1 78 j1 = 42 ∧ T.1 79 j1 = nI v ∧ T.1 81 j1 = nI p else i3 = i + 2 ∧ j3 = j + 2)
theorem aH_b {ni : Nat → Nat → Prop} {el : Bool} {i3 j3 v : Nat} (h : aH w S T ni el p i i3 j j3 v) : i + 2 ≤ i3 ∧ j + 2 ≤ j3 := by
  obtain ⟨-, h⟩ := h
  cases el with
  | true =>
    obtain ⟨p1, i1, j1, g, e1, e2, -⟩ := h
    have := gX_bnd g
    omega
  | false => 
    have : i3 = i + 2 ∧ j3 = j + 2 := h
    omega
theorem aH_cong {ni ni' : Nat → Nat → Prop} (hni : ∀ v p, ni v p → ni' v p) {el : Bool} {i3 j3 v : Nat} (h : aH w S T ni el p i i3 j j3 v) (cs : cgS S S' i i3) (ct : cgT T T' j j3) : aH w S' T' ni' el p i i3 j j3 v := by
  have hb := aH_b h
  obtain ⟨⟨a1, a2, a3, a4, a5, a6, a7, a8, a9⟩, h⟩ := h
  have s0 := cs i (by omega) (by omega)
  have s1 := cs (i + 1) (by omega) (by omega)
  have t0 := ct j (by omega) (by omega)
  have t1 := ct (j + 1) (by omega) (by omega)
  refine ⟨⟨s0.1.trans a1, s0.2.2.1.trans a2, s1.1.trans a3, s1.2.2.1.trans a4, t0.1.trans a5, t0.2.2.2.1.trans a6, t1.1.trans a7, t1.2.1.trans a8, t1.2.2.2.1.trans a9⟩, ?_⟩
  cases el with
  | true =>
    obtain ⟨p1, i1, j1, g, e1, e2, f1, f2, f3, g1, g2, g3⟩ := h
    have := gX_bnd g
    have s2 := cs i1 (by omega) (by omega)
    have t2 := ct j1 (by omega) (by omega)
    exact ⟨p1, i1, j1, gX_cong hni g (fun a q1 q2 => cs a (by omega) (by omega)) (fun a q1 q2 => ct a (by omega) (by omega)), e1, e2, s2.1.trans f1, s2.2.1.trans f2, s2.2.2.1.trans f3, t2.1.trans g1, t2.2.1.trans g2, t2.2.2.2.1.trans g3⟩
  | false => exact h
theorem aH_gT {ni : Nat → Nat → Prop} {el : Bool} {i3 j3 v p1 i1 j1 : Nat} (h : aH w S T ni el p i i3 j j3 v) (hv : ni v p) (hx : gX w S T ni p1 i3 i1 j3 j1) (s1 : S.1 4 i1 = (if el then 12 else 10)) (s2 : S.1 5 i1 = nI (i + 1)) (s3 : S.1 6 i1 = nI p1) (t1 : T.1 78 j1 = (if el then 34 else 32)) (t2 : T.1 79 j1 = nI v) (t3 : T.1 81 j1 = nI p) (t4 : T.1 78 (j1 + 1) = 21) (hdp : dp ≤ 30) : gT w dp S T ni D vw vw p i (i1 + 1) j (j1 + 2) := by
  obtain ⟨⟨a1, a2, a3, a4, a5, a6, a7, a8, a9⟩, h⟩ := h
  cases el with
  | true =>
    obtain ⟨p0, i0, j0, g, e1, e2, f1, f2, f3, g1, g2, g3⟩ := h
    subst e1 e2
    exact gT_elt hdp ⟨v, p0, i0, j0, p1, i1, j1, hv, g, hx, rfl, rfl, a1, a2, a3, a4, f1, f2, f3, s1, s2, s3, a5, a6, a7, a8, a9, g1, g2, g3, t1, t2, t3, t4⟩
  | false =>
    obtain ⟨e1, e2⟩ : i3 = i + 2 ∧ j3 = j + 2 := h
    subst e1 e2
    exact gT_set hdp ⟨v, p1, i1, j1, hv, hx, rfl, rfl, a1, a2, a3, a4, s1, s2, s3, a5, a6, a7, a8, a9, t1, t2, t3, t4⟩
/-- the reference ahead of the = -/
def AP (l : Launch) (Gr : zG) (n w d : Nat) (b : Nat → Int32) (t : Nat) (S3 : zS) (el : Bool) (p i p3 i3 dp vw : Nat) : Prop := ∀ T q j N iw, HS b t q j dp N vw iw p T → ∃ v T3 q3 j3 N3, nid b t T3 v p ∧ MC b t q3 j3 dp 0 N3 T3 ∧ gp b t q3 = p3 ∧ MK b t T T3 j 0 ∧ bud b t (2 * dp + 1) j3 0 N3 q3 ∧ aH w S3 T3 (nid b t T3) el p i i3 j j3 v ∧
  (∀ Q, zW l Gr (zc n w) 168 M_Mo_assignment (d + 13) 115 [some (.ref 105), some (.int (nI p)), some (.int (nI v)), none, some (.int (if el then 1 else 0))] [] T3 Q → zW l Gr (zc n w) 168 M_Mo_assignment (d + 13) 0 [some (.ref 105), some (.int (nI p)), none, none, none] [] (zi T 73 6 (nI p)) Q)
theorem w_addFull (hg : ip_gk (lg_tbl, vwCl, Gr)) {o a p : Int32} (h : S.1 3 5 = 0) (h4 : S.1 3 4 = nI 4000) : zMi l Gr (zc n w) 168 M_Code_add (d + 1) [.ref 35, .int o, .int a, .int p] S (fun v S' => v = 0 ∧ S' = S) := by
  refine e_Code_add (b_Code_add_0 (R := fun v S' => v = 0 ∧ S' = S) hg (e_Code_addWith (b_Code_addWith_0 (fun z => absurd h z) (fun _ => b_Code_addWith_7 (fun z => ?_) (fun _ => b_Code_addWith_17 ⟨_, rfl, rfl, rfl⟩)))) (fun v S' hv => b_Code_add_8 ⟨_, rfl, hv⟩))
  rw [h4] at z
  exact absurd z (by decide)
/-- = EXPR ; -/
theorem as_tail (hg : ip_gk (lg_tbl, vwCl, Gr)) (ho : ip_old (lg_tbl, vwCl, Gr)) (htx : ∀ k, k < t → tx (b k)) (hD : 6 ≤ D) (hdp : dp ≤ 30) (KE0 : KE l Gr n w d b t dp D) {Dn : Nat} {S3 : zS} {el : Bool} {p3 i3 : Nat} (h : CN b t p i Dn vw S) (hk : tk b t p = 1) (h3 : CS b t p3 i3 0 S3) (ck : CK S S3 i 0) (hp3 : p < p3) (hi3 : i < i3 ∧ i3 + p ≤ i + p3 + 1) (hx3 : Hx S3 i i3 0 (if el then 1 else 0) 341 ((p3 : Int) - p)) (hA : AP l Gr n w d b t S3 el p i p3 i3 dp vw) : zW l Gr (zc n w) 168 M_Reader_readAssignment (D + 1) 73 [some (.ref 66), some (.int (nI dp)), none, some (.int (if el then 1 else 0)), some (.int (nI (i + 1))), none] [] S3 (fun v S' => v = none ∧ SR l Gr n w d b t S S' p i Dn vw dp) := by
  obtain ⟨e, rfl⟩ : ∃ e, D = e + 6 := ⟨D - 6, by omega⟩
  have ht := CS_t h3
  have hpt : p < t := tk_pos (by rw [hk]; decide)
  have hip := h.2.2.2.2.1
  have dsp : ∀ {T T' q j N iw}, HS b t q j dp N vw iw p T → zMv l Gr (zc n w) 168 M_Mo_assignment (d + 13) [.ref 105, .int (nI p)] (zi T 73 6 (nI p)) (fun A => A = T') → PX l Gr n w d T T' := fun hH hm =>
    px_asg hg ho htx hH (by omega) hpt (fun y => by rw [hk] at y; exact absurd y.1 (by decide)) (by rw [hk]; decide) (by rw [hk]; decide) (by rw [hk]; decide) (fun y => by rw [hk] at y; exact absurd y.2 (by decide)) hm
  -- the class behind a FAULT
  have clF : ∀ (X : zS) (x5 : Int32), ¬ X.1 3 5 = 0 → ∀ Q : zS → Prop, Q X → zW l Gr (zc n w) 168 M_Reader_readAssignment (e + 6 + 1) 93 [some (.ref 66), none, none, some (.int (if el then 1 else 0)), some (.int (nI (i + 1))), some (.int x5)] [] X (fun v S' => v = none ∧ Q S') := fun X x5 hX Q q => by
    have g : ∀ K : Int32, zW l Gr (zc n w) 168 M_Reader_readAssignment (e + 6 + 1) 108 [some (.ref 66), none, none, none, some (.int (nI (i + 1))), some (.int x5)] [.int K, .ref 35] X (fun v S' => v = none ∧ Q S') := fun K => b_Reader_readAssignment_108 hg (w_addN hg hX) (fun v A hv => by
      rw [hv.2]
      exact b_Reader_readAssignment_115 hg (w_expectN hg hX) (fun A e => b_Reader_readAssignment_122 ⟨rfl, by rw [e]; exact q⟩))
    cases el with
    | true => exact b_Reader_readAssignment_93 (fun y => absurd y (by decide)) (fun _ => b_Reader_readAssignment_101 (g 12))
    | false => exact b_Reader_readAssignment_93 (fun _ => b_Reader_readAssignment_106 (g 10)) (fun y => absurd rfl y)
  refine b_Reader_readAssignment_73 hg (w_expect hg ho h3) (fun S4 h4 => ?_)
  rcases h4 with ⟨k61, e4⟩ | ⟨k61, e4⟩
  · rw [e4]
    have hpt3 : p3 < t := tk_pos (by rw [k61]; decide)
    have hnp3 := np_gt (b := b) hpt3
    obtain ⟨te3, -⟩ := te_s htx (CS_p h3) (c := 61) (by decide) (by decide) (by decide) k61
    have h4 := CS_wS h3
    obtain ⟨p4, ep4⟩ : ∃ p4, p4 = np b t p3 := ⟨_, rfl⟩
    rw [← ep4] at h4 hnp3 ⊢
    have g34 : gp b t (p3 + 1) = p4 := by rw [ep4, np, te3]
    refine b_Reader_readAssignment_79 hg (KE0 _ _ _ _ h4 (by omega) (by omega)) (fun S5 hE => ?_)
    rw [CS_s h4]
    -- the reference up to the EXPR
    have st : ∀ T q j N iw, HS b t q j dp N vw iw p T → ∃ v T4 j3 N3, nid b t T4 v p ∧ MC b t (p3 + 1) j3 dp 0 N3 T4 ∧ MK b t T T4 j 0 ∧ bud b t (2 * dp + 4) j3 0 N3 (p3 + 1) ∧ aH w S3 T4 (nid b t T4) el p i i3 j j3 v ∧
        (∀ Q, zW l Gr (zc n w) 168 M_Mo_assignment (d + 13) 135 [some (.ref 105), some (.int (nI p)), some (.int (nI v)), none, some (.int (if el then 1 else 0))] [] T4 Q → zW l Gr (zc n w) 168 M_Mo_assignment (d + 13) 0 [some (.ref 105), some (.int (nI p)), none, none, none] [] (zi T 73 6 (nI p)) Q) := fun T q j N iw hH => by
      obtain ⟨v, T3, q3, j3, N3, hid, M3, g3, mk3, b3, ha, pre⟩ := hA T q j N iw hH
      have hq3 : q3 ≤ p3 := by rw [← g3]; exact gp_ge (MC_p2 M3)
      have mk4 : MK b t T3 (zi T3 73 6 (nI (p3 + 1))) j3 0 := MK_zi (by omega)
      have hbb := aH_b ha
      have M4 : MC b t (p3 + 1) j3 dp 0 N3 (zi T3 73 6 (nI (p3 + 1))) := MC_at M3 (by omega)
      have b31 := b3.1
      refine ⟨v, zi T3 73 6 (nI (p3 + 1)), j3, N3, nid_MK hid mk4, M4, MK_tr mk3 (MK_le mk4 (by omega) (Nat.le_refl _)), ⟨by omega, by omega, nb_le b3.2.2 (by omega)⟩, aH_cong mk4.2.2.2.2.2 ha cgS_rfl (fun a q1 q2 => mk4.1 a (Nat.zero_le _) q2), fun Q kk => pre Q ?_⟩
      refine b_Mo_assignment_115 (fun y => absurd (MC_f M3) y) (fun _ => b_Mo_assignment_122 hg (wm_sg hg htx (by decide) (by decide) (by decide) M3.1 g3 k61) (fun A eA => ?_))
      rw [eA]
      exact b_Mo_assignment_128 (fun y => absurd (MC_f M4) y) (fun _ => kk)
    rcases hE with ⟨p5, i5, hE⟩ | ⟨f, pl, hE⟩
    · have h5 := hE.1
      have ck5 := hE.2.1
      have hlt5 := hE.2.2.1
      have hbd5 := hE.2.2.2.1
      have hp5 := CS_p h5
      have ck35 : CK S3 S5 i3 0 := CK_tr CK_wS ck5
      have wb5 := h5.2.2.2.2.2.2.2.2.1
      -- the reference up to the ;
      have st2 : ∀ T q j N iw, HS b t q j dp N vw iw p T → ∃ v T6 j5 N5, MC b t p5 (j5 + 1) dp 0 N5 T6 ∧ MK b t T T6 j 0 ∧ bud b t (2 * dp) (j5 + 2) 0 N5 (p5 + 1) ∧ (j < j5 ∧ j5 + 2 < 12000) ∧ (∀ T' D' S', MK b t T6 T' (j5 + 1) 0 → T'.1 78 (j5 + 1) = 21 → cgS S5 S' i i5 → S'.1 4 i5 = (if el then 12 else 10) → S'.1 5 i5 = nI (i + 1) → S'.1 6 i5 = nI p4 → gT w dp S' T' (nid b t T') D' vw vw p i (i5 + 1) j (j5 + 2)) ∧
          (∀ Q, zW l Gr (zc n w) 168 M_Mo_assignment (d + 13) 165 [some (.ref 105), some (.int (nI p)), none, none, none] [.int v] T6 Q → zW l Gr (zc n w) 168 M_Mo_assignment (d + 13) 0 [some (.ref 105), some (.int (nI p)), none, none, none] [] (zi T 73 6 (nI p)) Q) := fun T q j N iw hH => by
        obtain ⟨v, T4, j3, N3, hid, M4, mk4, b4, ha, pre⟩ := st T q j N iw hH
        obtain ⟨Y, j5, N5, kx, MY, mkY, bY, gx⟩ := x_okD (D := d + 11) (by omega) hg htx hdp hE M4 g34 b4
        have hbb := aH_b ha
        have bx := gX_bnd gx
        have b1 := bY.1
        obtain ⟨K2, eK2⟩ : ∃ K2 : Int32, K2 = if el then 34 else 32 := ⟨_, rfl⟩
        obtain ⟨T6, eT6⟩ : ∃ T6, T6 = mP Y j5 K2 (nI v) 0 (nI p) := ⟨_, rfl⟩
        have M6 : MC b t p5 (j5 + 1) dp 0 N5 T6 := by rw [eT6]; exact MC_mP MY
        have mk6 : MK b t Y T6 j5 0 := by rw [eT6]; exact MK_mP (Nat.le_refl _)
        have rT := mP_r (T := Y) (j0 := j5) (x1 := K2) (x2 := nI v) (x3 := 0) (x4 := nI p)
        rw [← eT6] at rT
        refine ⟨nI j5, T6, j5, N5, M6, MK_tr mk4 (MK_tr (MK_le mkY (by omega) (Nat.le_refl _)) (MK_le mk6 (by omega) (Nat.le_refl _))), ⟨by omega, by omega, nb_le bY.2.2 (by omega)⟩, ⟨by omega, by omega⟩, fun T' D' S' mk' h21 cs c1 c2 c3 => ?_, fun Q kk => pre Q ?_⟩
        · have ni : ∀ v p, nid b t Y v p → nid b t T' v p := fun v p z => mk'.2.2.2.2.2 v p (mk6.2.2.2.2.2 v p z)
          have ctY : ∀ a, a < j5 → T'.1 78 a = Y.1 78 a ∧ T'.1 79 a = Y.1 79 a ∧ T'.1 80 a = Y.1 80 a ∧ T'.1 81 a = Y.1 81 a ∧ T'.2 82 a = Y.2 82 a := fun a ha => by
            have x := mk'.1 a (Nat.zero_le _) (by omega)
            have y := mk6.1 a (Nat.zero_le _) ha
            exact ⟨x.1.trans y.1, x.2.1.trans y.2.1, x.2.2.1.trans y.2.2.1, x.2.2.2.1.trans y.2.2.2.1, x.2.2.2.2.trans y.2.2.2.2⟩
          have tr := mk'.1 j5 (Nat.zero_le _) (by omega)
          refine aH_gT (v := v) (p1 := p4) (i3 := i3) (j3 := j3) (aH_cong (fun v p z => ni v p (mkY.2.2.2.2.2 v p z)) ha (fun a q1 q2 => ?_) (fun a q1 q2 => ?_)) (ni v p (mkY.2.2.2.2.2 v p hid)) (gX_cong ni gx (fun a q1 q2 => cs a (by omega) q2) (fun a q1 q2 => ctY a q2)) c1 c2 c3 (tr.1.trans (rT.1.trans eK2)) (tr.2.1.trans rT.2.1) (tr.2.2.2.1.trans rT.2.2.2) h21 hdp
          · have x := cs a q1 (by omega)
            have y := ck35.1 a (Nat.zero_le _) q2
            exact ⟨x.1.trans y.1, x.2.1.trans y.2.1, x.2.2.1.trans y.2.2.1, x.2.2.2.trans y.2.2.2⟩
          · have x := ctY a (by omega)
            have y := mkY.1 a (Nat.zero_le _) q2
            exact ⟨x.1.trans y.1, x.2.1.trans y.2.1, x.2.2.1.trans y.2.2.1, x.2.2.2.1.trans y.2.2.2.1, x.2.2.2.2.trans y.2.2.2.2⟩
        · refine b_Mo_assignment_135 hg kx (fun A eA => ?_)
          rw [eA]
          refine b_Mo_assignment_139 (fun y => absurd (MC_f MY) y) (fun _ => ?_)
          have fin : zW l Gr (zc n w) 168 M_Mo_assignment (d + 13) 159 [some (.ref 105), some (.int (nI p)), some (.int (nI v)), none, none] [.int K2, .ref 105] Y Q := by
            refine b_Mo_assignment_159 hg (wm_put (MC_13 MY) (by omega)) (fun a A hv => ?_)
            rw [hv.1, hv.2, ← eT6]
            exact kk
          cases el with
          | true => exact b_Mo_assignment_146 (fun y => absurd y (by decide)) (fun _ => b_Mo_assignment_152 (by rw [eK2] at fin; exact fin))
          | false => exact b_Mo_assignment_146 (fun _ => b_Mo_assignment_157 (by rw [eK2] at fin; exact fin)) (fun y => absurd rfl y)
      have zb : ¬ tk b t p5 = 59 → ∀ T q j N iw, HS b t q j dp N vw iw p T → PZ l Gr n w d b t T 1 (nI p5) := fun k59 T q j N iw hH => by
        obtain ⟨v, T6, j5, N5, M6, mk6, b6, hj5, gt, pre⟩ := st2 T q j N iw hH
        obtain ⟨T8, eT8⟩ : ∃ T8, T8 = mP (mF (zi T6 73 6 (nI p5)) 1 (nI p5)) (j5 + 1) 21 0 0 (nI p) := ⟨_, rfl⟩
        refine PZ_of (T' := T8) (by decide) (dsp hH (e_Mo_assignment (pre _ (b_Mo_assignment_165 hg (wm_sgF hg htx (by decide) (by decide) (by decide) M6.1 (gp_wb wb5) (MC_f M6) k59) (fun A eA => ?_))))) (by rw [eT8, mP_k (by decide)]; exact mF_f.1) (by rw [eT8, mP_k (by decide)]; exact mF_f.2) (PK_MK (m := 0) (MK_tr (MK_le mk6 (Nat.zero_le _) (Nat.le_refl _)) (by rw [eT8]; exact MK_tr (MK_tr (MK_zi (by omega)) MK_mF) (MK_mP (by omega)))))
        rw [eA]
        refine b_Mo_assignment_172 hg (wm_put (j := j5 + 1) (by rw [mF_k (by decide), zi_k (by decide)]; exact MC_13 M6) (by omega)) (fun a A hv => b_Mo_assignment_181 (b_Mo_assignment_182 ⟨rfl, ?_⟩))
        rw [hv.2, eT8]
      have ck05 : CK S S5 i 0 := CK_tr ck (CK_le ck35 (by omega) (Nat.le_refl _))
      -- the class from the instruction on
      have key : ∀ K : Int32, K = (if el then 12 else 10) → zW l Gr (zc n w) 168 M_Reader_readAssignment (e + 6 + 1) 108 [some (.ref 66), none, none, none, some (.int (nI (i + 1))), some (.int (nI p4))] [.int K, .ref 35] S5 (fun v S' => v = none ∧ SR l Gr n w d b t S S' p i Dn vw dp) := fun K eK => by
        by_cases hi5 : i5 < 4000
        · refine b_Reader_readAssignment_108 hg (w_add hg (CS_f h5) (CS_n h5) hi5) (fun v A hv => ?_)
          rw [hv.2]
          have h6 : CS b t p5 (i5 + 1) 0 (cA S5 i5 K (nI (i + 1)) (nI p4) 0) := CS_cA h5
          have r6 := cA_r (S := S5) (i0 := i5) (x1 := K) (x2 := nI (i + 1)) (x3 := nI p4) (x4 := 0)
          have o6 : ∀ a, a < i5 → (cA S5 i5 K (nI (i + 1)) (nI p4) 0).1 4 a = S5.1 4 a ∧ (cA S5 i5 K (nI (i + 1)) (nI p4) 0).1 5 a = S5.1 5 a ∧ (cA S5 i5 K (nI (i + 1)) (nI p4) 0).1 6 a = S5.1 6 a ∧ (cA S5 i5 K (nI (i + 1)) (nI p4) 0).1 7 a = S5.1 7 a := fun a ha => cA_o (by omega)
          obtain ⟨S6, eS6⟩ : ∃ S6, S6 = cA S5 i5 K (nI (i + 1)) (nI p4) 0 := ⟨_, rfl⟩
          have ck6 : CK S S6 i 0 := by rw [eS6]; exact CK_tr ck05 (CK_cA (by omega))
          rw [← eS6] at h6 r6 o6 ⊢
          refine b_Reader_readAssignment_115 hg (w_expect hg ho h6) (fun S7 h7 => b_Reader_readAssignment_122 ⟨rfl, ?_⟩)
          rcases h7 with ⟨k59, e7⟩ | ⟨k59, e7⟩
          · have hpt5 : p5 < t := tk_pos (by rw [k59]; decide)
            have hnp5 := np_gt (b := b) hpt5
            obtain ⟨te5, -⟩ := te_s htx hp5 (c := 59) (by decide) (by decide) (by decide) k59
            have h7 := CS_wS h6
            rw [e7]
            refine Or.inl ⟨np b t p5, i5 + 1, Dn, vw, CN_CK h h7 (CK_le (CK_tr ck6 CK_wS) (Nat.zero_le _) (Nat.le_refl _)) (by omega) (by omega), SK_CK (CK_tr ck6 CK_wS), by omega, Nat.le_refl _, ⟨by omega, by omega, Hx_wS (hx_as eK (by rw [eS6]; exact Hx_cA (Hx_0 hx3 ck35.1 (Nat.le_refl _)) (by omega)) (by rw [eS6]; exact Hx_cA hbd5.2.2 (Nat.le_refl _)) r6.1 (by omega) (by omega) (by omega) (by omega))⟩, fun T q j N iw hH hTB => ?_⟩
            obtain ⟨v, T6, j5, N5, M6, mk6, b6, hj5, gt, pre⟩ := st2 T q j N iw hH
            have M7 : MC b t (p5 + 1) (j5 + 1) dp 0 N5 (zi T6 73 6 (nI (p5 + 1))) := MC_at M6 (by omega)
            obtain ⟨T8, eT8⟩ : ∃ T8, T8 = mP (zi T6 73 6 (nI (p5 + 1))) (j5 + 1) 21 0 0 (nI p) := ⟨_, rfl⟩
            have M8 : MC b t (p5 + 1) (j5 + 2) dp 0 N5 T8 := by rw [eT8]; exact MC_mP M7
            have mk8 : MK b t T6 T8 (j5 + 1) 0 := by rw [eT8]; exact MK_tr (MK_zi (by omega)) (MK_mP (Nat.le_refl _))
            have mkT : MK b t T T8 j 0 := MK_tr mk6 (MK_le mk8 (by omega) (Nat.le_refl _))
            have r8 : T8.1 78 (j5 + 1) = 21 := by rw [eT8]; exact mP_r.1
            have w7 : ∀ c k, c ≠ 38 → (wS b t (np b t p5) S6).1 c k = S6.1 c k := fun c k hc => wS_c hc
            refine ⟨T8, p5 + 1, j5 + 2, N5, dsp hH (e_Mo_assignment (pre _ (b_Mo_assignment_165 hg (wm_sg hg htx (by decide) (by decide) (by decide) M6.1 (gp_wb wb5) k59) (fun A eA => ?_)))), ⟨PC_MK hH.1 M8 (MK_le mkT (Nat.zero_le _) (Nat.le_refl _)), by rw [np, te5], b6⟩, PK_MK mkT, gt T8 Dn _ mk8 r8 (fun a q1 q2 => ?_) ((w7 4 i5 (by decide)).trans (r6.1.trans eK)) ((w7 5 i5 (by decide)).trans r6.2.1) ((w7 6 i5 (by decide)).trans r6.2.2.1)⟩
            · rw [eA]
              refine b_Mo_assignment_172 hg (wm_put (MC_13 M7) (by omega)) (fun a A hv => b_Mo_assignment_181 (b_Mo_assignment_182 ⟨rfl, ?_⟩))
              rw [hv.2, eT8]
            · have x := o6 a q2
              exact ⟨(w7 4 a (by decide)).trans x.1, (w7 5 a (by decide)).trans x.2.1, (w7 6 a (by decide)).trans x.2.2.1, (w7 7 a (by decide)).trans x.2.2.2⟩
          · rw [e7]
            exact Or.inr ⟨1, nI p5, SB_F (by decide) (SK_CK (CK_le ck6 (Nat.zero_le _) (Nat.le_refl _))), fun T q j N iw hH hTB => zb k59 T q j N iw hH⟩
        · have ei : i5 = 4000 := by omega
          have ep : ¬ p5 < t := by omega
          have k59 : ¬ tk b t p5 = 59 := by rw [tk_end ep]; decide
          refine b_Reader_readAssignment_108 hg (w_addFull hg (CS_f h5) (by rw [CS_n h5, ei])) (fun v A hv => ?_)
          rw [hv.2]
          refine b_Reader_readAssignment_115 hg (w_expect hg ho h5) (fun S7 h7 => b_Reader_readAssignment_122 ⟨rfl, ?_⟩)
          rcases h7 with ⟨y, e7⟩ | ⟨_, e7⟩
          · exact absurd y k59
          · rw [e7]
            exact Or.inr ⟨1, nI p5, SB_F (by decide) (SK_CK (CK_le ck05 (Nat.zero_le _) (Nat.le_refl _))), fun T q j N iw hH hTB => zb k59 T q j N iw hH⟩
      cases el with
      | true => exact b_Reader_readAssignment_93 (fun y => absurd y (by decide)) (fun _ => b_Reader_readAssignment_101 (key 12 rfl))
      | false => exact b_Reader_readAssignment_93 (fun _ => b_Reader_readAssignment_106 (key 10 rfl)) (fun y => absurd rfl y)
    · have f1 : ¬ S5.1 3 5 = 0 := by rw [hE.1.2.1]; exact nz hE.1.1
      refine clF S5 (nI p4) f1 (fun S' => SR l Gr n w d b t S S' p i Dn vw dp) (Or.inr ⟨f, pl, SB_CB (SK_CK (CK_le (CK_tr ck CK_wS) (Nat.zero_le _) (Nat.le_refl _))) hE.1, fun T q j N iw hH hTB => ?_⟩)
      obtain ⟨v, T4, j3, N3, hid, M4, mk4, b4, ha, pre⟩ := st T q j N iw hH
      obtain ⟨Y, kx, y7, y8, mkY, -⟩ := x_badD (D := d + 11) (by omega) hE M4 g34 b4
      have fy : ¬ Y.1 73 7 = 0 := by rw [y7]; exact nz hE.1.1
      exact PZ_of (nz hE.1.1) (dsp hH (e_Mo_assignment (pre _ (b_Mo_assignment_135 hg kx (fun A eA => by rw [eA]; exact b_Mo_assignment_139 (fun _ => b_Mo_assignment_182 ⟨rfl, rfl⟩) (fun y => absurd y fy)))))) y7 y8 (PK_MK (MK_tr (MK_le mk4 (Nat.zero_le _) (Nat.zero_le _)) mkY))
  · rw [e4]
    have f4 : ¬ (cF S3 1 (nI p3)).1 3 5 = 0 := by rw [cF_f.1]; decide
    refine b_Reader_readAssignment_79 (R := fun S' => S' = cF S3 1 (nI p3)) hg (w_exprN hg f4) (fun S5 e5 => ?_)
    rw [e5]
    refine clF _ _ f4 (fun S' => SR l Gr n w d b t S S' p i Dn vw dp) (Or.inr ⟨1, nI p3, SB_F (by decide) (SK_CK (CK_le ck (Nat.zero_le _) (Nat.le_refl _))), fun T q j N iw hH hTB => ?_⟩)
    obtain ⟨v, T3, q3, j3, N3, hid, M3, g3, mk3, b3, ha, pre⟩ := hA T q j N iw hH
    obtain ⟨Y, eY⟩ : ∃ Y, Y = mF (zi T3 73 6 (nI p3)) 1 (nI p3) := ⟨_, rfl⟩
    have y7 : Y.1 73 7 = 1 := by rw [eY]; exact mF_f.1
    have fy : ¬ Y.1 73 7 = 0 := by rw [y7]; decide
    refine PZ_of (T' := Y) (by decide) (dsp hH (e_Mo_assignment (pre _ (b_Mo_assignment_115 (fun y => absurd (MC_f M3) y) (fun _ => b_Mo_assignment_122 hg (wm_sgF hg htx (by decide) (by decide) (by decide) M3.1 g3 (MC_f M3) k61) (fun A eA => ?_)))))) y7 (by rw [eY]; exact mF_f.2) (PK_MK (m := 0) (MK_tr (MK_le mk3 (Nat.zero_le _) (Nat.le_refl _)) (by rw [eY]; exact MK_tr (MK_zi (by omega)) MK_mF)))
    rw [eA, ← eY]
    exact b_Mo_assignment_128 (fun _ => b_Mo_assignment_139 (fun _ => b_Mo_assignment_182 ⟨rfl, rfl⟩) (fun y => absurd y fy)) (fun y => absurd y fy)
end AS
