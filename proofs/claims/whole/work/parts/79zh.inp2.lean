/-! input on the reference's side, step by step -/
abbrev nL (a b c : Option Value) : zL := [some (.ref 105), none, a, b, c, none, none]
section INR
variable {l : Launch} {Gr : zG} {n w : Nat} {d : Nat} {b : Nat → Int32} {t p i ws dp p' i' q j m N X u k D D' vw iw s e : Nat} {S S' S'' T T' T'' : zS}
abbrev NX (l : Launch) (Gr : zG) (n w d : Nat) (T : zS) (p pc : Nat) (L : zL) (T1 : zS) : Prop := ∀ Q, zW l Gr (zc n w) 168 M_Mo_inputItem (d + 13) pc L [] T1 Q → zW l Gr (zc n w) 168 M_Mo_inputItem (d + 13) 0 (nL none none none) [] (zi T 73 6 (nI p)) Q
theorem ns_1 (hg : ip_gk (lg_tbl, vwCl, Gr)) (htx : ∀ k, k < t → tx (b k)) (h : HS b t q j 0 N vw iw p T) (hk : tk b t p = 200) : ∃ T1, MC b t (np b t p) j 0 0 N T1 ∧ MK b t T T1 j 0 ∧ nb b t N (np b t p) ∧ p + 5 ≤ np b t p ∧ j ≤ 3 * p ∧ NX l Gr n w d T p 14 (nL none none none) T1 := by
  have h1 := MC_p h.1.1 h.2.1
  have hp := MC_p2 h1
  have hqp : q ≤ p := by rw [← h.2.1]; exact gp_ge (MC_p2 h.1.1)
  obtain ⟨b1, -, b3⟩ := h.2.2
  have e5 : te b t p = p + 5 := te_w htx hp (K := kw0) (c := 200) (fun s => wk_0) (by decide) (by decide) hk
  have hnp := np_ok (b := b) hp
  have tle := te_le (b := b) hp
  rw [e5] at hnp
  have M2 : MC b t (p + 5) j 0 0 N (zi (zi T 73 6 (nI p)) 73 6 (nI (p + 5))) := MC_at h1 (by omega)
  refine ⟨zi (zi (zi T 73 6 (nI p)) 73 6 (nI (p + 5))) 73 6 (nI (np b t p)), MC_at M2 hnp.2.2, MK_tr (MK_tr (MK_zi (by omega)) (MK_zi (by omega))) (MK_zi (by omega)), nb_le b3 (by omega), hnp.2.1, by omega, fun Q kk => ?_⟩
  refine b_Mo_inputItem_0 (R := fun A => A = zi (zi (zi T 73 6 (nI p)) 73 6 (nI (p + 5))) 73 6 (nI (np b t p))) hg ?_ (fun A eA => by rw [eA]; exact kk)
  rw [MC_6 h1, show nI p + 5 = nI (p + 5) from nI_add p 5]
  have := wm_gap (l := l) (Gr := Gr) (n := n) (w := w) (d := d + 11) hg M2.1
  rw [show gp b t (p + 5) = np b t p from by rw [np, e5]] at this
  exact this
theorem ns_2 (hg : ip_gk (lg_tbl, vwCl, Gr)) (ho : ip_old (lg_tbl, vwCl, Gr)) (htx : ∀ k, k < t → tx (b k)) (h : HS b t q j 0 N vw iw p T) (hk : tk b t p = 200) {p1 : Nat} (ep1 : p1 = np b t p) (wb1 : wb b t p1) (k1 : tk b t p1 = 1) (hsz : te b t p1 - p1 ≤ 16) : ∃ v T2 N2, nid b t T2 v p1 ∧ MC b t (te b t p1) j 0 0 N2 T2 ∧ MK b t T T2 j 0 ∧ nb b t N2 (te b t p1) ∧ p + 5 ≤ p1 ∧ j ≤ 3 * p ∧ NX l Gr n w d T p 31 (nL (some (.int (nI p1))) (some (.int (nI v))) none) T2 := by
  obtain ⟨T1, M1, mk1, nb1, hp5, bj, pre⟩ := ns_1 (l := l) (Gr := Gr) (n := n) (w := w) (d := d) hg htx h hk
  rw [← ep1] at M1 nb1 hp5
  obtain ⟨v, T2, N2, kn, hid, M2, mk2, nb2⟩ := nm_run (l := l) (Gr := Gr) (n := n) (w := w) (d := d + 6) hg ho htx M1 (gp_wb wb1) nb1 k1 hsz
  refine ⟨v, T2, N2, hid, M2, MK_tr mk1 mk2, nb2, hp5, bj, fun Q kk => pre Q (b_Mo_inputItem_14 hg kn (fun a A hv => ?_))⟩
  rw [hv.1, hv.2, MC_6 M1]
  exact b_Mo_inputItem_23 (fun y => absurd (MC_f M2) y) (fun _ => kk)
theorem ns_3 (hg : ip_gk (lg_tbl, vwCl, Gr)) (ho : ip_old (lg_tbl, vwCl, Gr)) (htx : ∀ k, k < t → tx (b k)) (h : HS b t q j 0 N vw iw p T) (hk : tk b t p = 200) {p1 p2 : Nat} (ep1 : p1 = np b t p) (wb1 : wb b t p1) (k1 : tk b t p1 = 1) (hsz : te b t p1 - p1 ≤ 16) (ep2 : p2 = np b t p1) (k2 : tk b t p2 = 201) : ∃ v T3 N2, nid b t T3 v p1 ∧ MC b t (p2 + 2) j 0 0 N2 T3 ∧ MK b t T T3 j 0 ∧ nb b t N2 (p2 + 2) ∧ p + 5 ≤ p1 ∧ j ≤ 3 * p ∧ NX l Gr n w d T p 45 (nL (some (.int (nI p1))) (some (.int (nI v))) none) T3 := by
  obtain ⟨v, T2, N2, hid, M2, mk2, nb2, hp5, bj, pre⟩ := ns_2 (l := l) (Gr := Gr) (n := n) (w := w) (d := d) hg ho htx h hk ep1 wb1 k1 hsz
  have hp2 : p2 ≤ t := by rw [ep2]; exact gp_le (MC_p2 M2)
  have e2 : te b t p2 = p2 + 2 := te_w htx hp2 (K := kw1) (c := 201) (fun s => wk_1) (by decide) (by decide) k2
  have tle := te_le (b := b) hp2
  have g12 : te b t p1 ≤ p2 := by rw [ep2]; exact gp_ge (MC_p2 M2)
  have mk3 : MK b t T2 (zi T2 73 6 (nI (p2 + 2))) j 0 := MK_zi (by omega)
  have M3 : MC b t (p2 + 2) j 0 0 N2 (zi T2 73 6 (nI (p2 + 2))) := MC_at M2 (by omega)
  refine ⟨v, _, N2, nid_MK hid mk3, M3, MK_tr mk2 mk3, nb_le nb2 (by omega), hp5, bj, fun Q kk => pre Q (b_Mo_inputItem_31 hg ho (wm_kwOf hg ho htx M2.1 ep2.symm (MC_f M2)) (fun A hA => ?_))⟩
  rcases hA with ⟨-, eA⟩ | ⟨y, -⟩
  · rw [eA]
    exact b_Mo_inputItem_38 (fun y => absurd (MC_f M3) y) (fun _ => kk)
  · exact absurd k2 y
theorem en_r (hn : 2 ≤ n ∧ n ≤ 16) : ((nI n : Int32)).toInt64 - 1 = lN (n - 1) := by
  rw [nI_l (by omega)]
  exact lN_sub (a := n) (b := 1) (by omega)
theorem ns_4 (hg : ip_gk (lg_tbl, vwCl, Gr)) (ho : ip_old (lg_tbl, vwCl, Gr)) (hn : 2 ≤ n ∧ n ≤ 16) (htx : ∀ k, k < t → tx (b k)) (h : HS b t q j 0 N vw iw p T) (hk : tk b t p = 200) {p1 p2 p3 V : Nat} (ep1 : p1 = np b t p) (wb1 : wb b t p1) (k1 : tk b t p1 = 1) (hsz : te b t p1 - p1 ≤ 16) (ep2 : p2 = np b t p1) (k2 : tk b t p2 = 201) (ep3 : p3 = np b t p2) (k3 : tk b t p3 = 2) (hl : te b t p3 - p3 ≤ 10) (eV : V = nv b p3 (te b t p3 - p3)) (hV : V ≤ n - 1) : ∃ v T4 N2, nid b t T4 v p1 ∧ MC b t (te b t p3) j 0 0 N2 T4 ∧ MK b t T T4 j 0 ∧ nb b t N2 (te b t p3) ∧ p + 7 ≤ p3 ∧ j ≤ 3 * p ∧ NX l Gr n w d T p 71 (nL (some (.int (nI p1))) (some (.int (nI v))) (some (.int (nI V)))) T4 := by
  obtain ⟨v, T3, N2, hid, M3, mk3, nb3, hp5, bj, pre⟩ := ns_3 (l := l) (Gr := Gr) (n := n) (w := w) (d := d) hg ho htx h hk ep1 wb1 k1 hsz ep2 k2
  have hp2 : p2 + 2 ≤ t := MC_p2 M3
  have e2 : te b t p2 = p2 + 2 := te_w htx (by omega) (K := kw1) (c := 201) (fun s => wk_1) (by decide) (by decide) k2
  have g23 : gp b t (p2 + 2) = p3 := by rw [ep3, np, e2]
  have hp3 : p3 ≤ t := by rw [← g23]; exact gp_le hp2
  have g3 : p2 + 2 ≤ p3 := by rw [← g23]; exact gp_ge hp2
  have hp1 : p1 ≤ p2 := by rw [ep2]; exact Nat.le_trans (te_ge wb1.1) (np_ok (b := b) wb1.1).2.1
  have etd := isd_tk htx hp3 k3
  have hte3 := te_ge (b := b) hp3
  obtain ⟨X, eX⟩ : ∃ X, X = zi (zj T3 73 12 (lN (nv b p3 (min (re pd b t p3 - p3) 10)))) 73 6 (nI (re pd b t p3)) := ⟨_, rfl⟩
  have MX : MC b t (te b t p3) j 0 0 N2 X := by rw [eX, ← etd]; exact MC_at (MC_zj M3) (te_le hp3)
  have mkX : MK b t T3 X j 0 := by rw [eX]; exact MK_tr (MK_zj (by omega)) (MK_zi (by omega))
  have x12 : X.2 73 12 = lN V := by
    rw [eX]
    rw [← etd, Nat.min_eq_left hl, eV]
    show (zj T3 73 12 (lN (nv b p3 (te b t p3 - p3)))).2 73 12 = _
    exact zj_v
  refine ⟨v, X, N2, nid_MK hid mkX, MX, MK_tr mk3 mkX, nb_le nb3 (by omega), by omega, bj, fun Q kk => pre Q (b_Mo_inputItem_45 (R := fun A => A = X) hg ?_ (fun A eA => ?_))⟩
  · rw [en_r hn]
    have := wm_number (l := l) (Gr := Gr) (n := n) (w := w) (d := d + 10) (lo := 0) (hi := n - 1) hg (by omega) (by omega) M3.1 g23 (MC_f M3) ((tk_d htx hp3).mpr k3)
    obtain ⟨v0, A0, ⟨e0, Z, eZ, hZ⟩, kk⟩ := this
    refine ⟨v0, A0, ⟨e0, ?_⟩, kk⟩
    rcases hZ with ⟨-, -, -, y⟩ | ⟨y, -⟩
    · rw [y, eZ, eX]
    · rw [← etd, ← eV] at y
      exact absurd ⟨hl, Nat.zero_le _, hV⟩ y
  · rw [eA]
    refine b_Mo_inputItem_57 (fun y => absurd (MC_f MX) y) (fun _ => ?_)
    rw [x12, lN_i]
    exact kk
theorem ns_5 (hg : ip_gk (lg_tbl, vwCl, Gr)) (ho : ip_old (lg_tbl, vwCl, Gr)) (hn : 2 ≤ n ∧ n ≤ 16) (htx : ∀ k, k < t → tx (b k)) (h : HS b t q j 0 N vw iw p T) (hk : tk b t p = 200) {p1 p2 p3 p4 V : Nat} (ep1 : p1 = np b t p) (wb1 : wb b t p1) (k1 : tk b t p1 = 1) (hsz : te b t p1 - p1 ≤ 16) (ep2 : p2 = np b t p1) (k2 : tk b t p2 = 201) (ep3 : p3 = np b t p2) (k3 : tk b t p3 = 2) (hl : te b t p3 - p3 ≤ 10) (eV : V = nv b p3 (te b t p3 - p3)) (hV : V ≤ n - 1) (ep4 : p4 = np b t p3) (k4 : tk b t p4 = 58) : ∃ v T5 N2, nid b t T5 v p1 ∧ MC b t (p4 + 1) j 0 0 N2 T5 ∧ MK b t T T5 j 0 ∧ nb b t N2 (p4 + 1) ∧ p + 7 ≤ p4 ∧ j ≤ 3 * p ∧ NX l Gr n w d T p 84 (nL (some (.int (nI p1))) (some (.int (nI v))) (some (.int (nI V)))) T5 := by
  obtain ⟨v, T4, N2, hid, M4, mk4, nb4, hp7, bj, pre⟩ := ns_4 (l := l) (Gr := Gr) (n := n) (w := w) (d := d) hg ho hn htx h hk ep1 wb1 k1 hsz ep2 k2 ep3 k3 hl eV hV
  have hp3 : p3 ≤ t := by
    by_cases y : p3 ≤ t
    · exact y
    · exact absurd (tk_pos (b := b) (t := t) (p := p3) (by rw [k3]; decide)) (by omega)
  have hte3 := te_ge (b := b) hp3
  have g34 : te b t p3 ≤ p4 := by rw [ep4]; exact gp_ge (MC_p2 M4)
  have hpt4 : p4 < t := tk_pos (by rw [k4]; decide)
  have mk5 : MK b t T4 (zi T4 73 6 (nI (p4 + 1))) j 0 := MK_zi (by omega)
  have M5 : MC b t (p4 + 1) j 0 0 N2 (zi T4 73 6 (nI (p4 + 1))) := MC_at M4 (by omega)
  refine ⟨v, _, N2, nid_MK hid mk5, M5, MK_tr mk4 mk5, nb_le nb4 (by omega), by omega, bj, fun Q kk => pre Q (b_Mo_inputItem_71 hg (wm_sg hg htx (by decide) (by decide) (by decide) M4.1 ep4.symm k4) (fun A eA => ?_))⟩
  rw [eA]
  exact b_Mo_inputItem_77 (fun y => absurd (MC_f M5) y) (fun _ => kk)
theorem ns_6 (hg : ip_gk (lg_tbl, vwCl, Gr)) (ho : ip_old (lg_tbl, vwCl, Gr)) (hn : 2 ≤ n ∧ n ≤ 16) (htx : ∀ k, k < t → tx (b k)) (h : HS b t q j 0 N vw iw p T) (hk : tk b t p = 200) {p1 p2 p3 p4 p5 p6 V r z : Nat} (ep1 : p1 = np b t p) (wb1 : wb b t p1) (k1 : tk b t p1 = 1) (hsz : te b t p1 - p1 ≤ 16) (ep2 : p2 = np b t p1) (k2 : tk b t p2 = 201) (ep3 : p3 = np b t p2) (k3 : tk b t p3 = 2) (hl : te b t p3 - p3 ≤ 10) (eV : V = nv b p3 (te b t p3 - p3)) (hV : V ≤ n - 1) (ep4 : p4 = np b t p3) (k4 : tk b t p4 = 58) (g5 : gp b t (p4 + 1) = p5) (hT : TYO b t p5 r z p6) : ∃ v T6 q6 N2, nid b t T6 v p1 ∧ MC b t q6 j 0 0 N2 T6 ∧ gp b t q6 = p6 ∧ PK b t T T6 j 0 ∧ P3 T T6 ∧ nb b t N2 q6 ∧ p + 11 ≤ q6 ∧ j ≤ 3 * p ∧ T6.1 73 31 = nI z ∧ T6.1 73 32 = nI r ∧ NX l Gr n w d T p 96 (nL (some (.int (nI p1))) (some (.int (nI v))) (some (.int (nI V)))) T6 := by
  obtain ⟨v, T5, N2, hid, M5, mk5, nb5, hp7, bj, pre⟩ := ns_5 (l := l) (Gr := Gr) (n := n) (w := w) (d := d) hg ho hn htx h hk ep1 wb1 k1 hsz ep2 k2 ep3 k3 hl eV hV ep4 k4
  obtain ⟨Y, q6, ky, MY, g6, hq6, y31, y32, p3Y, pkY⟩ := wm_type (l := l) (Gr := Gr) (n := n) (w := w) (d := d + 6) hg ho htx M5 g5 hT
  have hp5 : p4 + 1 ≤ p5 := by rw [← g5]; exact gp_ge (MC_p2 M5)
  refine ⟨v, Y, q6, N2, (pkY 0 0).2.2.2.2.2.2 v p1 hid, MY, g6, PK_tr (PK_MK mk5) (pkY j 0), P3_tr (P3_MK mk5) p3Y, nb_le nb5 (by omega), by omega, bj, y31, y32, fun Q kk => pre Q (b_Mo_inputItem_84 hg ky (fun A eA => ?_))⟩
  rw [eA]
  exact b_Mo_inputItem_88 (fun _ => kk) (fun y => absurd (by rw [MC_f MY]; exact Int32.le_refl _) y)
/-- from the words on: too many, or its two rows and ; -/
theorem ns_7 (hg : ip_gk (lg_tbl, vwCl, Gr)) {p1 v V z : Nat} {Q : Option Value → zS → Prop} (hz : z ≤ 64) (hiw : iw ≤ 256) (h31 : T.1 73 31 = nI z) (h29 : T.1 73 29 = nI iw)
    (kk : zW l Gr (zc n w) 168 M_Mo_inputItem (d + 13) 111 (nL (some (.int (nI p1))) (some (.int (nI v))) (some (.int (nI V)))) [.int (nI (max 1 z))] T Q) : zW l Gr (zc n w) 168 M_Mo_inputItem (d + 13) 96 (nL (some (.int (nI p1))) (some (.int (nI v))) (some (.int (nI V)))) [] T Q := by
  refine b_Mo_inputItem_96 (fun y => b_Mo_inputItem_107 ?_) (fun y => b_Mo_inputItem_103 ?_)
  · rw [h31] at y ⊢
    have : ¬ z = 0 := fun x => y (by rw [x]; rfl)
    rw [show max 1 z = z by omega] at kk
    exact kk
  · rw [h31] at y
    have : z = 0 := (nI_eq (a := z) (b := 0) (by omega) (by omega)).mp y
    subst this
    exact kk
theorem ns_8 (hg : ip_gk (lg_tbl, vwCl, Gr)) (htx : ∀ k, k < t → tx (b k)) {p1 p6 v V r z : Nat} (M : MC b t q j 0 0 N T) (g6 : gp b t q = p6) (hj : j + 2 < 12000) (hz : z ≤ 64) (hV : V ≤ 15) (hr : r ≤ 1) (hle : iw + max 1 z ≤ 256) (h31 : T.1 73 31 = nI z) (h32 : T.1 73 32 = nI r) (h29 : T.1 73 29 = nI iw) : ∃ Z, MC b t q (j + 2) 0 0 N Z ∧ PK b t T Z j 0 ∧ (Z.1 73 26 = T.1 73 26 ∧ Z.1 73 30 = T.1 73 30 ∧ Z.1 73 29 = nI (iw + max 1 z)) ∧ (Z.1 78 j = 22 ∧ Z.1 79 j = nI v ∧ Z.1 81 j = nI p1 ∧ Z.1 78 (j + 1) = 23 ∧ Z.1 79 (j + 1) = nI v ∧ Z.1 80 (j + 1) = nI r ∧ Z.2 82 (j + 1) = lN (256 * V + z)) ∧
    (∀ Q, (tk b t p6 = 59 → zW l Gr (zc n w) 168 M_Mo_inputItem (d + 13) 195 [none, none, none, none, none, none, none] [] (zi Z 73 6 (nI (p6 + 1))) Q) → (¬ tk b t p6 = 59 → zW l Gr (zc n w) 168 M_Mo_inputItem (d + 13) 195 [none, none, none, none, none, none, none] [] (mF (zi Z 73 6 (nI p6)) 1 (nI p6)) Q) → zW l Gr (zc n w) 168 M_Mo_inputItem (d + 13) 111 (nL (some (.int (nI p1))) (some (.int (nI v))) (some (.int (nI V)))) [.int (nI (max 1 z))] T Q) := by
  have M1 : MC b t q (j + 1) 0 0 N (mP T j 22 (nI v) 0 (nI p1)) := MC_mP M
  have r1 := mP_r (T := T) (j0 := j) (x1 := 22) (x2 := nI v) (x3 := 0) (x4 := nI p1)
  obtain ⟨A, eA⟩ : ∃ A, A = mP T j 22 (nI v) 0 (nI p1) := ⟨_, rfl⟩
  rw [← eA] at M1 r1
  have a32 : A.1 73 32 = nI r := by rw [eA, mP_k (by decide)]; exact h32
  have M2 : MC b t q (j + 2) 0 0 N (mP A (j + 1) 23 (nI v) (nI r) (nI p1)) := MC_mP M1
  have r2 := mP_r (T := A) (j0 := j + 1) (x1 := 23) (x2 := nI v) (x3 := nI r) (x4 := nI p1)
  have o2 := mP_o (T := A) (j0 := j + 1) (a := j) (x1 := 23) (x2 := nI v) (x3 := nI r) (x4 := nI p1) (by omega)
  obtain ⟨B, eB⟩ : ∃ B, B = mP A (j + 1) 23 (nI v) (nI r) (nI p1) := ⟨_, rfl⟩
  rw [← eB] at M2 r2 o2
  have bk : ∀ a, a ≠ 13 → B.1 73 a = T.1 73 a := fun a ha => by rw [eB, mP_k ha, eA, mP_k ha]
  obtain ⟨Z, eZ⟩ : ∃ Z, Z = zi (zj B 82 (j + 1) (lN (256 * V + z))) 73 29 (nI (iw + max 1 z)) := ⟨_, rfl⟩
  have MZ : MC b t q (j + 2) 0 0 N Z := by rw [eZ]; exact MC_x (MC_zj M2) (by omega)
  have zc' : ∀ c a, c ≠ 73 → Z.1 c a = B.1 c a := fun c a hc => by rw [eZ, zi_c hc]; rfl
  have zk' : ∀ a, a ≠ 29 → Z.1 73 a = B.1 73 a := fun a ha => by rw [eZ, zi_k ha]; rfl
  refine ⟨Z, MZ, ?_, ⟨(zk' 26 (by decide)).trans (bk 26 (by decide)), (zk' 30 (by decide)).trans (bk 30 (by decide)), by rw [eZ]; exact zi_v⟩, ⟨?_, ?_, ?_, ?_, ?_, ?_, ?_⟩, fun Q ky kn => ?_⟩
  · rw [eZ, eB, eA]
    exact PK_tr (PK_tr (PK_tr (PK_mP (Nat.le_refl _)) (PK_mP (by omega))) (PK_zj (by omega))) (PK_zi (by omega))
  · rw [zc' _ _ (by decide), o2.1]; exact r1.1
  · rw [zc' _ _ (by decide), o2.2.1]; exact r1.2.1
  · rw [zc' _ _ (by decide), o2.2.2.2]; exact r1.2.2.2
  · rw [zc' _ _ (by decide)]; exact r2.1
  · rw [zc' _ _ (by decide)]; exact r2.2.1
  · rw [zc' _ _ (by decide)]; exact r2.2.2.1
  · rw [eZ]
    show (zj B 82 (j + 1) _).2 82 (j + 1) = _
    exact zj_v
  · refine b_Mo_inputItem_111 (fun _ => ?_) (fun y => ?_)
    · refine b_Mo_inputItem_133 hg (wm_put (MC_13 M) (by omega)) (fun a A' hv => ?_)
      rw [hv.2, ← eA]
      refine b_Mo_inputItem_142 (R := fun v A => v = nI (j + 1) ∧ A = B) hg (by rw [a32, eB]; exact wm_put (MC_13 M1) (by omega)) (fun a A' hv => ?_)
      rw [hv.1, hv.2]
      have eq : zi (zj B 82 ((nI (j + 1)).toNatClampNeg) (256 * (nI V).toInt64 + (B.1 73 31).toInt64)) 73 29 (B.1 73 29 + nI (max 1 z)) = Z := by
        rw [nI_clamp (by omega), bk 31 (by decide), bk 29 (by decide), h31, h29, nI_add, nI_l (by omega), nI_l (by omega), eZ]
        congr 2
        rw [show (256 : Int64) = lN 256 from rfl, lN_mul, lN_add]
      by_cases y : tk b t p6 = 59
      · refine b_Mo_inputItem_156 (R := fun A => A = zi Z 73 6 (nI (p6 + 1))) hg (vp_in_nI (by omega) (by omega)) ?_ (fun A eA => by rw [eA]; exact ky y)
        rw [eq]
        exact wm_sg hg htx (by decide) (by decide) (by decide) MZ.1 g6 y
      · refine b_Mo_inputItem_156 (R := fun A => A = mF (zi Z 73 6 (nI p6)) 1 (nI p6)) hg (vp_in_nI (by omega) (by omega)) ?_ (fun A eA => by rw [eA]; exact kn y)
        rw [eq]
        exact wm_sgF hg htx (by decide) (by decide) (by decide) MZ.1 g6 (MC_f MZ) y
    · rw [h29, nI_add] at y
      exact absurd (nI_le (a := iw + max 1 z) (b := 256) hle (by omega)) y
end INR
