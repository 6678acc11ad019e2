section FN
variable {l : Launch} {Gr : zG} {n w : Nat} {d : Nat} {b : Nat → Int32} {t p i ws dp p' i' q j m N X u : Nat} {S S' T T' : zS}
theorem tk_pos (h : ¬ tk b t p = 0) : p < t := by
  by_cases z : p < t
  · exact z
  · exfalso
    apply h
    unfold tk
    rw [if_neg z]
theorem dig_te (htx : ∀ k, k < t → tx (b k)) (hp : p ≤ t) (hk : tk b t p = 2) : te b t p = re pd b t p := by
  rcases tk_all htx hp with ⟨-, e, -, -⟩ | ⟨-, -, -, -, e⟩ | ⟨-, hl, el, e, -, -⟩ | ⟨hpt, hn, el, -, a1, a2⟩
  · rw [hk] at e; exact absurd e (by decide)
  · exact e
  · exfalso
    rw [hk] at e
    rcases wk_cases (wd b p (we b t p)) with w1 | ⟨k, hk, w1⟩
    · rw [w1] at e; exact absurd e (by decide)
    · rw [w1] at e
      exact absurd ((nI_eq (a := 2) (b := 200 + k) (by omega) (by omega)).mp e) (by omega)
  · exfalso
    have := (tk_d htx hp).mpr hk
    rw [el] at this
    exact hn (Or.inr this)
/-- a NUMBER -/
theorem ft_num (hg : ip_gk (lg_tbl, vwCl, Gr)) (hw : w ≤ 32) (htx : ∀ k, k < t → tx (b k)) (h : HF b t q j dp m N X u p T) (hdp : dp ≤ 30) (hk : tk b t p = 2) (h10 : te b t p - p ≤ 10) (hv : nv b p (te b t p - p) ≤ 4294967295) (s1 : S'.1 4 i = 22) (s2 : S'.1 5 i = nI (nv b p (te b t p - p))) : FT l Gr n w d b t S' T p i (np b t p) (i + 1) j dp m X u := by
  have h' := h
  obtain ⟨hC, hgq, hbd, -⟩ := h
  have hp : p ≤ t := (MC_p hC hgq).1.2.2.2.1
  have hpt : p < t := tk_pos (by rw [hk]; decide)
  have hqp : q ≤ p := by rw [← hgq]; exact gp_ge hC.1.2.2.2.1
  have et := dig_te htx hp hk
  have htl := te_le (b := b) hp
  have htg := te_gt (b := b) hpt
  have ht := hC.1.2.2.2.2
  have b1 := hbd.1
  have b2 := hbd.2.1
  have k := to_num (l := l) (Gr := Gr) (n := n) (w := w) (d := d + 2) hg htx hC hgq hk (by omega)
  rw [← et, if_pos ⟨h10, hv⟩] at k
  have x12 : (tNr b t T p).2 73 12 = lN (nv b p (te b t p - p)) := by
    unfold tNr
    show (zj (zi T 73 6 (nI p)) 73 12 (lN (nv b p (min (re pd b t p - p) 10)))).2 73 12 = _
    rw [zj_get, if_pos ⟨rfl, rfl⟩, ← et, show min (te b t p - p) 10 = te b t p - p by omega]
  have M1 : MC b t (te b t p) j dp m N (tNr b t T p) := by
    unfold tNr
    rw [← et]
    exact MC_at (MC_zj (MC_p hC hgq)) htl
  have M2 : MC b t (te b t p) (j + 2) dp m N (tNum w (tNr b t T p) p j) := MC_zj (MC_mP (MC_mP M1))
  have mk : MK b t T (tNum w (tNr b t T p) p j) j m := MK_tr (MK_tr (MK_tr (MK_tr (MK_tr (MK_zi (by omega)) (MK_zj (by omega))) (MK_zi (by omega))) (MK_mP (by omega))) (MK_mP (by omega))) (MK_zj (by omega))
  refine fo_1 hg h' hdp k M2 mk rfl ⟨by omega, by omega, nb_up hbd.2.2 (by omega)⟩ (gX_num ⟨_, by omega, rfl, rfl, s1, s2, ?_, ?_, ?_, ?_⟩)
  · show (mP (mP (tNr b t T p) j 1 0 0 (nI p)) (j + 1) 2 0 0 (nI p)).1 78 j = 1
    rw [((MK_mP (b := b) (t := t) (j := j + 1) (m := 0) (Nat.le_refl _)).1 j (Nat.zero_le _) (by omega)).1]
    exact mP_r.1
  · show (mP (mP (tNr b t T p) j 1 0 0 (nI p)) (j + 1) 2 0 0 (nI p)).1 78 (j + 1) = 2
    exact mP_r.1
  · show (mP (mP (tNr b t T p) j 1 0 0 (nI p)) (j + 1) 2 0 0 (nI p)).1 81 (j + 1) = nI p
    exact mP_r.2.2.2
  · show (zj (mP (mP (tNr b t T p) j 1 0 0 (nI p)) (j + 1) 2 0 0 (nI p)) 82 (j + 1) _).2 82 (j + 1) = _
    rw [zj_get, if_pos ⟨rfl, rfl⟩, x12, msk_l hw]
theorem ft_numF (hg : ip_gk (lg_tbl, vwCl, Gr)) (htx : ∀ k, k < t → tx (b k)) (h : HF b t q j dp m N X u p T) (hdp : dp ≤ 30) (hk : tk b t p = 2) (hbad : ¬ (te b t p - p ≤ 10 ∧ nv b p (te b t p - p) ≤ 4294967295)) : ZF l Gr n w d b t T 2 (nI p) := by
  have h' := h
  obtain ⟨hC, hgq, hbd, hum, -⟩ := h
  have hp : p ≤ t := (MC_p hC hgq).1.2.2.2.1
  have hpt : p < t := tk_pos (by rw [hk]; decide)
  have hqp : q ≤ p := by rw [← hgq]; exact gp_ge hC.1.2.2.2.1
  have et := dig_te htx hp hk
  have htl := te_le (b := b) hp
  have ht := hC.1.2.2.2.2
  have b1 := hbd.1
  have b2 := hbd.2.1
  have k := to_num (l := l) (Gr := Gr) (n := n) (w := w) (d := d + 2) hg htx hC hgq hk (by omega)
  rw [← et, if_neg hbad] at k
  have M1 : MC b t (te b t p) j dp m N (tNr b t T p) := by
    unfold tNr
    rw [← et]
    exact MC_at (MC_zj (MC_p hC hgq)) htl
  have f13 : (tNum w (mF (tNr b t T p) 2 (nI p)) p j).1 73 13 = nI (j + 2) := by
    show (mP (mP (mF (tNr b t T p) 2 (nI p)) j 1 0 0 (nI p)) (j + 1) 2 0 0 (nI p)).1 73 13 = _
    exact mP_13
  refine fo_1F (j1 := j + 2) hg h' hdp k f13 (by omega) ?_ ?_ (by omega) ?_ (by decide) ?_ ?_
  · show (mP (mP (mF (tNr b t T p) 2 (nI p)) j 1 0 0 (nI p)) (j + 1) 2 0 0 (nI p)).1 73 19 = _
    rw [mP_k (by decide), mP_k (by decide), mF_k (by decide)]; exact M1.2.2.2.1
  · show (mP (mP (mF (tNr b t T p) 2 (nI p)) j 1 0 0 (nI p)) (j + 1) 2 0 0 (nI p)).1 73 20 = _
    rw [mP_k (by decide), mP_k (by decide), mF_k (by decide)]; exact M1.2.2.2.2.1
  · exact MK_tr (MK_tr (MK_tr (MK_tr (MK_tr (MK_tr (MK_zi (by omega)) (MK_zj (by omega))) (MK_zi (by omega))) MK_mF) (MK_mP (by omega))) (MK_mP (by omega))) (MK_zj (by omega))
  · show (mP (mP (mF (tNr b t T p) 2 (nI p)) j 1 0 0 (nI p)) (j + 1) 2 0 0 (nI p)).1 73 7 = _
    rw [mP_k (by decide), mP_k (by decide)]; exact mF_f.1
  · show (mP (mP (mF (tNr b t T p) 2 (nI p)) j 1 0 0 (nI p)) (j + 1) 2 0 0 (nI p)).1 73 8 = _
    rw [mP_k (by decide), mP_k (by decide)]; exact mF_f.2
/-- true, false -/
theorem ft_tru (hg : ip_gk (lg_tbl, vwCl, Gr)) (ho : ip_old (lg_tbl, vwCl, Gr)) (htx : ∀ k, k < t → tx (b k)) (h : HF b t q j dp m N X u p T) (hdp : dp ≤ 30) (hk : tk b t p = 211 ∨ tk b t p = 212) (s1 : S'.1 4 i = 23) (s2 : S'.1 5 i = if tk b t p = 211 then -1 else -2) : FT l Gr n w d b t S' T p i (np b t p) (i + 1) j dp m X u := by
  have h' := h
  obtain ⟨hC, hgq, hbd, -⟩ := h
  have hp : p ≤ t := (MC_p hC hgq).1.2.2.2.1
  have hpt : p < t := tk_pos (fun z => by rw [z] at hk; exact absurd hk (by decide))
  have hqp : q ≤ p := by rw [← hgq]; exact gp_ge hC.1.2.2.2.1
  have htl := te_le (b := b) hp
  have htg := te_gt (b := b) hpt
  have ht := hC.1.2.2.2.2
  have b1 := hbd.1
  have b2 := hbd.2.1
  have k := to_tru (l := l) (Gr := Gr) (n := n) (w := w) (d := d + 2) hg ho htx hC hgq hk (by omega)
  obtain ⟨K, eK⟩ : ∃ K : Int32, K = if tk b t p = 211 then 3 else 4 := ⟨_, rfl⟩
  rw [← eK] at k
  have M2 : MC b t (te b t p) (j + 2) dp m N (tTru b t T p j K) := MC_at (MC_mP (MC_mP (MC_p hC hgq))) htl
  have mk : MK b t T (tTru b t T p j K) j m := MK_tr (MK_tr (MK_tr (MK_zi (by omega)) (MK_mP (by omega))) (MK_mP (by omega))) (MK_zi (by omega))
  refine fo_1 hg h' hdp k M2 mk rfl ⟨by omega, by omega, nb_up hbd.2.2 (by omega)⟩ (gX_tru ⟨rfl, rfl, s1, ?_, ?_, ?_⟩)
  · unfold tTru
    rw [zi_c (by decide), ((MK_mP (b := b) (t := t) (j := j + 1) (m := 0) (Nat.le_refl _)).1 j (Nat.zero_le _) (by omega)).1]
    exact mP_r.1
  · unfold tTru; rw [zi_c (by decide)]; exact mP_r.2.2.2
  · have r : (tTru b t T p j K).1 78 (j + 1) = K := by unfold tTru; rw [zi_c (by decide)]; exact mP_r.1
    rw [r, s2, eK]
    by_cases z : tk b t p = 211
    · rw [if_pos z, if_pos z]; exact Or.inl ⟨rfl, rfl⟩
    · rw [if_neg z, if_neg z]; exact Or.inr ⟨rfl, rfl⟩
/-- no operand, or too long a NAME -/
theorem ft_bad (hg : ip_gk (lg_tbl, vwCl, Gr)) (ho : ip_old (lg_tbl, vwCl, Gr)) (htx : ∀ k, k < t → tx (b k)) (h : HF b t q j dp m N X u p T) (hdp : dp ≤ 30) (n40 : ¬ tk b t p = 40) (nu : ¬ (tk b t p = 45 ∨ tk b t p = 126 ∨ tk b t p = 33)) (n2 : ¬ tk b t p = 2) (nt : ¬ (tk b t p = 211 ∨ tk b t p = 212)) (nc : ¬ (tk b t p = 209 ∨ tk b t p = 210)) (hbad : ¬ tk b t p = 1 ∨ (tk b t p = 1 ∧ ¬ te b t p - p ≤ 16)) : ZF l Gr n w d b t T (if tk b t p = 1 then 2 else 1) (nI p) := by
  have h' := h
  obtain ⟨hC, hgq, hbd, hum, -⟩ := h
  have hp : p ≤ t := (MC_p hC hgq).1.2.2.2.1
  have ht := hC.1.2.2.2.2
  have hq := hC.1.2.2.2.1
  have b1 := hbd.1
  have b2 := hbd.2.1
  have k := to_bad (l := l) (Gr := Gr) (n := n) (w := w) (d := d + 2) hg ho htx hC hgq n40 nu n2 nt nc hbad
  have M1 := MC_at (q' := p) (MC_p hC hgq) hp
  refine fo_1F (j1 := j) hg h' hdp k (by rw [mF_k (by decide)]; exact M1.2.2.1) (by omega) (by rw [mF_k (by decide)]; exact M1.2.2.2.1) (by rw [mF_k (by decide)]; exact M1.2.2.2.2.1) (by omega) ?_ ?_ mF_f.1 mF_f.2
  · exact MK_tr (MK_tr (MK_zi (by omega)) (MK_zi (by omega))) MK_mF
  · split <;> decide
theorem nb_2 (h : nb b t N q) (hgq : gp b t q = p) (hq : q ≤ t) (hpt : p < t) (hl : isl (b p)) : 2 * N ≤ p := by
  have hqp : q ≤ p := by rw [← hgq]; exact gp_ge hq
  by_cases e : q = p
  · subst e
    rcases h with h | h
    · exact h
    · exact absurd ⟨hpt, Or.inl hl⟩ h.2
  · rcases h with h | h <;> omega
theorem nb_n {N' : Nat} (htx : ∀ k, k < t → tx (b k)) (hp : p ≤ t) (hk : tk b t p = 1) (h : 2 * N ≤ p) (hN : N' ≤ N + 1) : nb b t N' (te b t p) := by
  have hpt : p < t := tk_pos (by rw [hk]; decide)
  obtain ⟨e1, e2, hl⟩ := te_n htx hp (Or.inl hk)
  have ewe : we b t p = re pn b t p := by unfold we; rw [lk_in hpt, if_pos hl]
  have hra := (re_all (P := pn) (b := b) (t := t) _ p rfl hp).2.2.2
  right
  rw [ewe] at e1 e2
  rw [e1]
  refine ⟨by omega, fun z => hra ⟨z.1, decide_eq_true z.2⟩⟩
/-- a NAME's number is found; what the three ways share -/
theorem nm_all (hg : ip_gk (lg_tbl, vwCl, Gr)) (ho : ip_old (lg_tbl, vwCl, Gr)) (htx : ∀ k, k < t → tx (b k)) (h : HF b t q j dp m N X u p T) (hdp : dp ≤ 30) (hk : tk b t p = 1) (hsz : te b t p - p ≤ 16) : ∃ x T' v X0 N', zMi l Gr (zc n w) 168 M_Mo_takeOperand (d + 9) [.ref 105] T (fun a A => a = x ∧ A = T') ∧ nid b t X0 v p ∧ MC b t (te b t p) j dp m N' X0 ∧ MK b t T X0 j m ∧ nb b t N' (te b t p) ∧
    ((tk b t (np b t p) = 91 ∧ x = 0 ∧ T' = if dp < 30 then tIdx X0 p (np b t p) j dp m (nI v) else tIdxF X0 p (np b t p) j m (nI v)) ∨
     (tk b t (np b t p) = 40 ∧ x = (if tk b t (np b t (np b t p)) = 41 then 1 else 0) ∧ T' = if dp < 30 then tCal X0 p (np b t p) (np b t (np b t p)) j dp m (nI v) else tCalF X0 p (np b t p) (np b t (np b t p)) j m (nI v)) ∨
     (¬ tk b t (np b t p) = 91 ∧ ¬ tk b t (np b t p) = 40 ∧ x = 1 ∧ T' = tNam X0 p (np b t p) j (nI v))) := by
  obtain ⟨hC, hgq, hbd, -⟩ := h
  have M0 := MC_p hC hgq
  have hp : p ≤ t := M0.1.2.2.2.1
  have hpt : p < t := tk_pos (by rw [hk]; decide)
  have hqp : q ≤ p := by rw [← hgq]; exact gp_ge hC.1.2.2.2.1
  have htl := te_le (b := b) hp
  have ht := hC.1.2.2.2.2
  have b1 := hbd.1
  have b2 := hbd.2.1
  obtain ⟨e1, e2, hl⟩ := te_n htx hp (Or.inl hk)
  have hN2 := nb_2 hbd.2.2 hgq hC.1.2.2.2.1 hpt hl
  have hnp := np_ok (b := b) hp
  obtain ⟨x, T', hv, k⟩ := zMi_ex (to_name (l := l) (Gr := Gr) (n := n) (w := w) (d := d) hg ho htx hC hgq hk hsz (p1 := np b t p) (p2 := gp b t (np b t p + 1)) rfl rfl (by omega) (by omega) hdp (by omega))
  obtain ⟨v, X0, hid, hnm, hcase⟩ := hv
  obtain ⟨N', n1, n2, M1⟩ := MC_nm M0 htl hnm
  refine ⟨x, T', v, X0, N', k, hid, M1, MK_tr (MK_zi (by omega)) (MK_nm (by omega) M0.2.2.2.2.2 hnm), nb_n htx hp hk hN2 n2, ?_⟩
  rcases hcase with c | c | c
  · exact Or.inl c
  · right
    left
    have := (te_s htx hnp.2.2 (c := 40) (by decide) (by decide) (by decide) c.1).1
    rw [show gp b t (np b t p + 1) = np b t (np b t p) from by rw [← this]] at c
    exact c
  · exact Or.inr (Or.inr c)
theorem nid_MK {v : Nat} (h : nid b t T v p) (hK : MK b t T T' j m) : nid b t T' v p := hK.2.2.2.2.2 v p h
theorem ft_nam (hg : ip_gk (lg_tbl, vwCl, Gr)) (ho : ip_old (lg_tbl, vwCl, Gr)) (htx : ∀ k, k < t → tx (b k)) (h : HF b t q j dp m N X u p T) (hdp : dp ≤ 30) (hk : tk b t p = 1) (hsz : te b t p - p ≤ 16) (n91 : ¬ tk b t (np b t p) = 91) (n40 : ¬ tk b t (np b t p) = 40) (s1 : S'.1 4 i = 24) (s2 : S'.1 6 i = nI p) : FT l Gr n w d b t S' T p i (np b t p) (i + 1) j dp m X u := by
  obtain ⟨x, T', v, X0, N', k, hid, M1, mk1, hnb, hc⟩ := nm_all (l := l) (Gr := Gr) (n := n) (w := w) (d := d) hg ho htx h hdp hk hsz
  have h' := h
  obtain ⟨hC, hgq, hbd, -⟩ := h
  have hp : p ≤ t := (MC_p hC hgq).1.2.2.2.1
  have hpt : p < t := tk_pos (by rw [hk]; decide)
  have hqp : q ≤ p := by rw [← hgq]; exact gp_ge hC.1.2.2.2.1
  have htg := te_gt (b := b) hpt
  have hnp := np_ok (b := b) hp
  have b1 := hbd.1
  have b2 := hbd.2.1
  rcases hc with ⟨c, -⟩ | ⟨c, -⟩ | ⟨-, -, ex, eT⟩
  · exact absurd c n91
  · exact absurd c n40
  rw [ex, eT] at k
  have M2 : MC b t (np b t p) (j + 2) dp m N' (tNam X0 p (np b t p) j (nI v)) := MC_mP (MC_at (MC_mP M1) hnp.2.2)
  have mk2 : MK b t X0 (tNam X0 p (np b t p) j (nI v)) j m := MK_tr (MK_tr (MK_mP (by omega)) (MK_zi (by omega))) (MK_mP (by omega))
  have rr := mP_r (T := zi (mP X0 j 1 0 0 (nI p)) 73 6 (nI (np b t p))) (j0 := j + 1) (x1 := 5) (x2 := nI v) (x3 := 0) (x4 := nI p)
  refine fo_1 hg h' hdp k M2 (MK_tr mk1 mk2) (gp_wb hnp.1) ⟨by omega, by omega, nb_le hnb hnp.2.1⟩ (gX_nam ⟨v, nid_MK hid mk2, rfl, rfl, s1, s2, ?_, rr.1, rr.2.1, rr.2.2.2⟩)
  unfold tNam
  rw [((MK_mP (b := b) (t := t) (j := j + 1) (m := 0) (Nat.le_refl _)).1 j (Nat.zero_le _) (by omega)).1, zi_c (by decide)]
  exact mP_r.1
/-- NAME[ -/
theorem op_idx (hg : ip_gk (lg_tbl, vwCl, Gr)) (ho : ip_old (lg_tbl, vwCl, Gr)) (htx : ∀ k, k < t → tx (b k)) (h : HF b t q j dp m N X u p T) (hdp : dp < 30) (hk : tk b t p = 1) (hsz : te b t p - p ≤ 16) (h91 : tk b t (np b t p) = 91) : ∃ T0 v N0, OP l Gr n w d b t T T0 1 (np b t p + 1) (np b t (np b t p)) j (j + 2) dp m N0 X 6 (nI v) (nI p) ∧ nid b t T0 v p ∧ T0.1 78 j = 1 ∧ T0.1 78 (j + 1) = 6 ∧ T0.1 79 (j + 1) = nI v ∧ T0.1 81 (j + 1) = nI p := by
  obtain ⟨x, T', v, X0, N', k, hid, M1, mk1, hnb, hc⟩ := nm_all (l := l) (Gr := Gr) (n := n) (w := w) (d := d) hg ho htx h (by omega) hk hsz
  obtain ⟨hC, hgq, hbd, -⟩ := h
  have hp : p ≤ t := (MC_p hC hgq).1.2.2.2.1
  have hpt : p < t := tk_pos (by rw [hk]; decide)
  have hqp : q ≤ p := by rw [← hgq]; exact gp_ge hC.1.2.2.2.1
  have htg := te_gt (b := b) hpt
  have hnp := np_ok (b := b) hp
  obtain ⟨et, hpt1⟩ := te_s htx hnp.2.2 (c := 91) (by decide) (by decide) (by decide) h91
  have b1 := hbd.1
  have b2 := hbd.2.1
  rcases hc with ⟨-, ex, eT⟩ | ⟨c, -⟩ | ⟨c, -⟩
  · rw [if_pos hdp] at eT
    rw [ex, eT] at k
    have M2 : MC b t (np b t p + 1) (j + 2) (dp + 1) (m + 1) N' (tIdx X0 p (np b t p) j dp m (nI v)) := MC_mU (MC_mP (MC_at (MC_dp (MC_at (MC_mP M1) hnp.2.2)) (by omega)))
    have mk2 : MK b t X0 (tIdx X0 p (np b t p) j dp m (nI v)) j m := MK_tr (MK_tr (MK_tr (MK_tr (MK_tr (MK_mP (by omega)) (MK_zi (by omega))) (MK_zi (by omega))) (MK_zi (by omega))) (MK_mP (by omega))) (MK_mU (by omega))
    have r := mU_r (T := mP (zi (zi (zi (mP X0 j 1 0 0 (nI p)) 73 6 (nI (np b t p))) 73 19 (nI (dp + 1))) 73 6 (nI (np b t p + 1))) (j + 1) 6 (nI v) 0 (nI p)) (m0 := m) (x1 := 6) (x2 := nI v) (x3 := nI p)
    refine ⟨tIdx X0 p (np b t p) j dp m (nI v), v, N', ⟨rx_0 hg hC.2.1 k, M2, ?_, MK_tr mk1 mk2, ⟨by omega, by omega, nb_le hnb (by omega)⟩, r.1, r.2.1, r.2.2.1, r.2.2.2, by omega⟩, nid_MK hid mk2, ?_, ?_, ?_, ?_⟩
    · show gp b t (np b t p + 1) = gp b t (te b t (np b t p))
      rw [et]
    · unfold tIdx
      rw [mU_c (by decide), ((MK_mP (b := b) (t := t) (j := j + 1) (m := 0) (Nat.le_refl _)).1 j (Nat.zero_le _) (by omega)).1, zi_c (by decide), zi_c (by decide), zi_c (by decide)]
      exact mP_r.1
    · unfold tIdx; rw [mU_c (by decide)]; exact mP_r.1
    · unfold tIdx; rw [mU_c (by decide)]; exact mP_r.2.1
    · unfold tIdx; rw [mU_c (by decide)]; exact mP_r.2.2.2
  · rw [h91] at c; exact absurd c (by decide)
  · exact absurd h91 c
/-- NAME( -/
theorem op_cal (hg : ip_gk (lg_tbl, vwCl, Gr)) (ho : ip_old (lg_tbl, vwCl, Gr)) (htx : ∀ k, k < t → tx (b k)) (h : HF b t q j dp m N X u p T) (hdp : dp < 30) (hk : tk b t p = 1) (hsz : te b t p - p ≤ 16) (h40 : tk b t (np b t p) = 40) : ∃ T0 v N0, OP l Gr n w d b t T T0 (if tk b t (np b t (np b t p)) = 41 then 0 else 1) (np b t (np b t p)) (np b t (np b t p)) j (j + 2) dp m N0 X 7 (nI (j + 1)) (nI p) ∧ nid b t T0 v p ∧ T0.1 78 j = 1 ∧ T0.1 78 (j + 1) = 8 ∧ T0.1 79 (j + 1) = nI v ∧ T0.1 81 (j + 1) = nI p := by
  obtain ⟨x, T', v, X0, N', k, hid, M1, mk1, hnb, hc⟩ := nm_all (l := l) (Gr := Gr) (n := n) (w := w) (d := d) hg ho htx h (by omega) hk hsz
  obtain ⟨hC, hgq, hbd, -⟩ := h
  have hp : p ≤ t := (MC_p hC hgq).1.2.2.2.1
  have hpt : p < t := tk_pos (by rw [hk]; decide)
  have hqp : q ≤ p := by rw [← hgq]; exact gp_ge hC.1.2.2.2.1
  have htg := te_gt (b := b) hpt
  have hnp := np_ok (b := b) hp
  obtain ⟨et, hpt1⟩ := te_s htx hnp.2.2 (c := 40) (by decide) (by decide) (by decide) h40
  have hnp2 := np_ok (b := b) hnp.2.2
  have ht := hC.1.2.2.2.2
  have b1 := hbd.1
  have b2 := hbd.2.1
  rcases hc with ⟨c, -⟩ | ⟨-, ex, eT⟩ | ⟨-, c, -⟩
  · rw [h40] at c; exact absurd c (by decide)
  · rw [if_pos hdp] at eT
    rw [ex, eT] at k
    have hge2 := hnp2.2.1
    rw [et] at hge2
    obtain ⟨p2, ep2⟩ : ∃ p2, p2 = np b t (np b t p) := ⟨_, rfl⟩
    rw [← ep2] at k hnp2 hge2 ⊢
    have M2 : MC b t p2 (j + 2) (dp + 1) (m + 1) N' (tCal X0 p (np b t p) p2 j dp m (nI v)) := MC_at (MC_mU (MC_mP (MC_at (MC_dp (MC_at (MC_mP M1) hnp.2.2)) (by omega)))) hnp2.2.2
    have mk2 : MK b t X0 (tCal X0 p (np b t p) p2 j dp m (nI v)) j m := MK_tr (MK_tr (MK_tr (MK_tr (MK_tr (MK_tr (MK_mP (by omega)) (MK_zi (by omega))) (MK_zi (by omega))) (MK_zi (by omega))) (MK_mP (by omega))) (MK_mU (by omega))) (MK_zi (by omega))
    have r := mU_r (T := mP (zi (zi (zi (mP X0 j 1 0 0 (nI p)) 73 6 (nI (np b t p))) 73 19 (nI (dp + 1))) 73 6 (nI (np b t p + 1))) (j + 1) 8 (nI v) 0 (nI p)) (m0 := m) (x1 := 7) (x2 := nI (j + 1)) (x3 := nI p)
    have e83 : (tCal X0 p (np b t p) p2 j dp m (nI v)).1 83 m = 7 := by unfold tCal; rw [zi_c (by decide)]; exact r.1
    have rx : RX l Gr n w d T 1 (tCal X0 p (np b t p) p2 j dp m (nI v)) (if tk b t p2 = 41 then 0 else 1) := by
      by_cases z : tk b t p2 = 41
      · rw [if_pos z] at k ⊢
        exact rx_c (m := m) hg hC.2.1 k (by omega) hC.2.2.2.2.1 M2.2.2.2.2.1 e83
      · rw [if_neg z] at k ⊢
        exact rx_0 hg hC.2.1 k
    refine ⟨tCal X0 p (np b t p) p2 j dp m (nI v), v, N', ⟨rx, M2, gp_wb hnp2.1, MK_tr mk1 mk2, ⟨by omega, by omega, nb_le hnb (by omega)⟩, e83, ?_, ?_, ?_, by omega⟩, nid_MK hid mk2, ?_, ?_, ?_, ?_⟩
    · unfold tCal; rw [zi_c (by decide)]; exact r.2.1
    · unfold tCal; rw [zi_c (by decide)]; exact r.2.2.1
    · unfold tCal; rw [zi_c (by decide)]; exact r.2.2.2
    · unfold tCal
      rw [zi_c (by decide), mU_c (by decide), ((MK_mP (b := b) (t := t) (j := j + 1) (m := 0) (Nat.le_refl _)).1 j (Nat.zero_le _) (by omega)).1, zi_c (by decide), zi_c (by decide), zi_c (by decide)]
      exact mP_r.1
    · unfold tCal; rw [zi_c (by decide), mU_c (by decide)]; exact mP_r.1
    · unfold tCal; rw [zi_c (by decide), mU_c (by decide)]; exact mP_r.2.1
    · unfold tCal; rw [zi_c (by decide), mU_c (by decide)]; exact mP_r.2.2.2
  · exact absurd h40 c
/-- NAME[ or NAME( where 30 lie in one another -/
theorem op_nmF (hg : ip_gk (lg_tbl, vwCl, Gr)) (ho : ip_old (lg_tbl, vwCl, Gr)) (htx : ∀ k, k < t → tx (b k)) (h : HF b t q j 30 m N X u p T) (hk : tk b t p = 1) (hsz : te b t p - p ≤ 16) (hc1 : tk b t (np b t p) = 91 ∨ tk b t (np b t p) = 40) : ZF l Gr n w d b t T 3 (nI (np b t p)) := by
  obtain ⟨x, T', v, X0, N', k, hid, M1, mk1, hnb, hc⟩ := nm_all (l := l) (Gr := Gr) (n := n) (w := w) (d := d) hg ho htx h (by omega) hk hsz
  obtain ⟨hC, hgq, hbd, -⟩ := h
  have ht := hC.1.2.2.2.2
  have hq := hC.1.2.2.2.1
  have b2 := hbd.2.1
  rcases hc with ⟨c, ex, eT⟩ | ⟨c, ex, eT⟩ | ⟨c, c2, -⟩
  · rw [if_neg (by omega)] at eT
    rw [ex, eT] at k
    have f7 : (tIdxF X0 p (np b t p) j m (nI v)).1 73 7 = 3 := by unfold tIdxF; rw [mU_k (by decide), mP_k (by decide), zi_k (by decide), zi_k (by decide)]; exact mF_f.1
    refine ZF_of (rx_0 hg hC.2.1 k) (EX_f (by rw [f7]; decide)) f7 ?_ (MK_tr (MK_le mk1 (Nat.zero_le _) (Nat.zero_le _)) ?_)
    · unfold tIdxF; rw [mU_k (by decide), mP_k (by decide), zi_k (by decide), zi_k (by decide)]; exact mF_f.2
    · exact MK_tr (MK_tr (MK_tr (MK_tr (MK_tr (MK_tr (MK_mP (by omega)) (MK_zi (by omega))) MK_mF) (MK_zi (by omega))) (MK_zi (by omega))) (MK_mP (by omega))) (MK_mU (by omega))
  · rw [if_neg (by omega)] at eT
    rw [ex, eT] at k
    obtain ⟨p2, ep2⟩ : ∃ p2, p2 = np b t (np b t p) := ⟨_, rfl⟩
    rw [← ep2] at k
    have r := mU_r (T := mP (zi (zi (mF (zi (mP X0 j 1 0 0 (nI p)) 73 6 (nI (np b t p))) 3 (nI (np b t p))) 73 19 (nI 31)) 73 6 (nI (np b t p + 1))) (j + 1) 8 (nI v) 0 (nI p)) (m0 := m) (x1 := 7) (x2 := nI (j + 1)) (x3 := nI p)
    have f7 : (tCalF X0 p (np b t p) p2 j m (nI v)).1 73 7 = 3 := by unfold tCalF; rw [zi_k (by decide), mU_k (by decide), mP_k (by decide), zi_k (by decide), zi_k (by decide)]; exact mF_f.1
    have rx : ∃ y, RX l Gr n w d T 1 (tCalF X0 p (np b t p) p2 j m (nI v)) y := by
      by_cases z : tk b t p2 = 41
      · rw [if_pos z] at k
        refine ⟨_, rx_c (m := m) hg hC.2.1 k (by omega) hC.2.2.2.2.1 ?_ ?_⟩
        · unfold tCalF; rw [zi_k (by decide)]; exact zi_v
        · unfold tCalF; rw [zi_c (by decide)]; exact r.1
      · rw [if_neg z] at k
        exact ⟨_, rx_0 hg hC.2.1 k⟩
    obtain ⟨y, rx⟩ := rx
    refine ZF_of rx (EX_f (by rw [f7]; decide)) f7 ?_ (MK_tr (MK_le mk1 (Nat.zero_le _) (Nat.zero_le _)) ?_)
    · unfold tCalF; rw [zi_k (by decide), mU_k (by decide), mP_k (by decide), zi_k (by decide), zi_k (by decide)]; exact mF_f.2
    · exact MK_tr (MK_tr (MK_tr (MK_tr (MK_tr (MK_tr (MK_tr (MK_mP (by omega)) (MK_zi (by omega))) MK_mF) (MK_zi (by omega))) (MK_zi (by omega))) (MK_mP (by omega))) (MK_mU (by omega))) (MK_zi (by omega))
  · exact absurd hc1 (fun z => z.elim c c2)
end FN
