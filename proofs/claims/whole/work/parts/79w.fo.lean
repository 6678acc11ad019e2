/-! for: the reference's part -/
section FO
variable {l : Launch} {Gr : zG} {n w : Nat} {d : Nat} {b : Nat → Int32} {t p i ws dp p' i' q j m N X u k D D' vw iw s e : Nat} {S S' S'' T T' T'' : zS}
/-- closeBlock() of a for -/
theorem cb_for (hg : ip_gk (lg_tbl, vwCl, Gr)) (ho : ip_old (lg_tbl, vwCl, Gr)) (htx : ∀ k, k < t → tx (b k)) (h : HS b t q j (dp + 1) N vw iw p T) (hd : dp < 30) (hk : tk b t p = 125) (h87 : T.1 87 dp = 3) (h88 : T.1 88 dp = nI s) (hs : s < j) : ∃ Y, PX l Gr n w d T Y ∧ HS b t (p + 1) (j + 2) dp N vw iw (np b t p) Y ∧ PK b t T Y s dp ∧ (Y.1 78 j = 40 ∧ Y.1 79 j = nI s ∧ Y.1 78 (j + 1) = 21 ∧ Y.1 80 s = nI j) ∧ (∀ a, a < j → Y.1 78 a = T.1 78 a ∧ Y.1 79 a = T.1 79 a ∧ (a ≠ s → Y.1 80 a = T.1 80 a) ∧ Y.1 81 a = T.1 81 a ∧ Y.2 82 a = T.2 82 a ∧ Y.1 89 a = T.1 89 a) := by
  have h1 := MC_p h.1.1 h.2.1
  have hp := MC_p2 h1
  have ht := MC_t h1
  have hpt : p < t := tk_pos (by rw [hk]; decide)
  have hqp : q ≤ p := by rw [← h.2.1]; exact gp_ge (MC_p2 h.1.1)
  obtain ⟨b1, -, b3⟩ := h.2.2
  obtain ⟨te1, -⟩ := te_s htx hp (c := 125) (by decide) (by decide) (by decide) hk
  obtain ⟨X, eX⟩ : ∃ X, X = zi (zi (zi (zi T 73 6 (nI p)) 73 6 (nI (p + 1))) 73 19 (nI dp)) 73 26 (nI dp) := ⟨_, rfl⟩
  have MX : MC b t (p + 1) j dp 0 N X := by rw [eX]; exact MC_x (MC_dp (MC_at h1 (by omega))) (by omega)
  have Xc : ∀ c a, c ≠ 73 → X.1 c a = T.1 c a := fun c a hc => by rw [eX, zi_c hc, zi_c hc, zi_c hc, zi_c hc]
  have M1 : MC b t (p + 1) (j + 1) dp 0 N (mP X j 40 (nI s) 0 (X.1 81 s)) := MC_mP MX
  obtain ⟨A, eA⟩ : ∃ A, A = mP X j 40 (nI s) 0 (X.1 81 s) := ⟨_, rfl⟩
  have rA := mP_r (T := X) (j0 := j) (x1 := 40) (x2 := nI s) (x3 := 0) (x4 := X.1 81 s)
  have oA : ∀ a, a < j → A.1 78 a = X.1 78 a ∧ A.1 79 a = X.1 79 a ∧ A.1 80 a = X.1 80 a ∧ A.1 81 a = X.1 81 a := fun a ha => by rw [eA]; exact mP_o (by omega)
  rw [← eA] at M1 rA
  have M2 : MC b t (p + 1) (j + 1) dp 0 N (zi A 80 s (nI j)) := MC_o M1 (by omega)
  obtain ⟨Y, eY⟩ : ∃ Y, Y = mP (zi A 80 s (nI j)) (j + 1) 21 0 0 (X.1 81 s) := ⟨_, rfl⟩
  have MY : MC b t (p + 1) (j + 2) dp 0 N Y := by rw [eY]; exact MC_mP M2
  have rY := mP_r (T := zi A 80 s (nI j)) (j0 := j + 1) (x1 := 21) (x2 := 0) (x3 := 0) (x4 := X.1 81 s)
  have oY : ∀ a, a < j + 1 → Y.1 78 a = A.1 78 a ∧ Y.1 79 a = A.1 79 a ∧ Y.1 80 a = (zi A 80 s (nI j)).1 80 a ∧ Y.1 81 a = A.1 81 a := fun a ha => by
    have := mP_o (T := zi A 80 s (nI j)) (j0 := j + 1) (x1 := 21) (x2 := 0) (x3 := 0) (x4 := X.1 81 s) (a := a) (by omega)
    rw [← eY, zi_c (by decide), zi_c (by decide), zi_c (show (81 : Nat) ≠ 80 by decide)] at this
    exact this
  rw [← eY] at rY
  have Yk : ∀ a, a ≠ 6 → a ≠ 13 → a ≠ 19 → a ≠ 26 → Y.1 73 a = T.1 73 a := fun a a1 a2 a3 a4 => by
    rw [eY, mP_k a2, zi_c (by decide), eA, mP_k a2, eX, zi_k a4, zi_k a3, zi_k a1, zi_k a1]
  have Y26 : Y.1 73 26 = nI dp := by rw [eY, mP_k (by decide), zi_c (by decide), eA, mP_k (by decide), eX]; exact zi_v
  have e26 : (zi T 73 6 (nI p)).1 73 26 - 1 = nI dp := by rw [zi_k (by decide), h.1.2.1]; exact nI_pred dp
  have e19 : (zi T 73 6 (nI p)).1 73 19 - 1 = nI dp := by rw [MC_19 h1]; exact nI_pred dp
  have hin : vp_in (nI s) 12000 := vp_in_nI (by omega) (by omega)
  refine ⟨Y, px_cl hg ho htx h (by omega) (by omega) hk (e_Mo_closeBlock (b_Mo_closeBlock_0 (by rw [e26]; exact vp_in_nI (by omega) (by omega)) (fun y => ?_) (fun _ => ?_))), ⟨⟨MY, Y26, (Yk 30 (by decide) (by decide) (by decide) (by decide)).trans h.1.2.2.1, (Yk 29 (by decide) (by decide) (by decide) (by decide)).trans h.1.2.2.2⟩, by rw [np, te1], ⟨by omega, by omega, nb_le b3 (by omega)⟩⟩, ?_, ⟨?_, ?_, rY.1, ?_⟩, fun a ha => ?_⟩
  · rw [e26, nI_clamp (by omega), zi_c (by decide)] at y
    exact absurd h87 y
  · rw [e26, e19, nI_clamp (by omega), MC_6 h1, nI_1, zi_c (by decide), h88, ← eX]
    refine b_Mo_closeBlock_55 hg hin (wm_put (MC_13 MX) (by omega)) (fun v A' hv => ?_)
    rw [nI_clamp (by omega)] at hv
    rw [hv.1, hv.2, ← eA]
    refine b_Mo_closeBlock_69 (R := fun v A => v = nI (j + 1) ∧ A = Y) hg hin ?_ (fun v B hv => b_Mo_closeBlock_91 ⟨rfl, hv.2⟩)
    rw [nI_clamp (by omega), (oA s hs).2.2.2]
    have := wm_put (l := l) (Gr := Gr) (n := n) (w := w) (d := d + 12) (j := j + 1) (k := 21) (a := 0) (c := 0) (p := X.1 81 s) (MC_13 M2) (by omega)
    rw [← eY] at this
    exact this
  · rw [eY, eA, eX]
    exact PK_tr (PK_tr (PK_tr (PK_tr (PK_tr (PK_tr (PK_zi (by omega)) (PK_zi (by omega))) (PK_zi (by omega))) (PK_zi (by omega))) (PK_mP (by omega))) (PK_zi (by omega))) (PK_mP (by omega))
  · exact (oY j (by omega)).1.trans rA.1
  · exact (oY j (by omega)).2.1.trans rA.2.1
  · exact (oY s (by omega)).2.2.1.trans zi_v
  · have x := oY a (by omega)
    have y := oA a ha
    refine ⟨x.1.trans (y.1.trans (Xc _ _ (by decide))), x.2.1.trans (y.2.1.trans (Xc _ _ (by decide))), fun hn => x.2.2.1.trans ((zi_k hn).trans (y.2.2.1.trans (Xc _ _ (by decide)))), x.2.2.2.trans (y.2.2.2.trans (Xc _ _ (by decide))), ?_, ?_⟩
    · rw [eY, eA, eX]; rfl
    · rw [eY, mP_c (by decide), zi_c (by decide), eA, mP_c (by decide), Xc _ _ (by decide)]
abbrev fL (p : Nat) : zL := [some (.ref 105), some (.int (nI p)), none, none, none]
theorem fs_1 (hg : ip_gk (lg_tbl, vwCl, Gr)) (htx : ∀ k, k < t → tx (b k)) (h : HS b t q j dp N vw iw p T) (hk : tk b t p = 204) : ∃ T1, MC b t (np b t p) (j + 1) dp 0 N T1 ∧ MK b t T T1 j 0 ∧ nb b t N (np b t p) ∧ p + 3 ≤ np b t p ∧ j + 2 * dp ≤ 3 * p ∧ T1.1 78 j = 20 ∧ T1.1 81 j = nI p ∧
    (∀ Q, zW l Gr (zc n w) 168 M_Mo_forStatement (d + 13) 24 (fL p) [] T1 Q → zW l Gr (zc n w) 168 M_Mo_forStatement (d + 13) 0 (fL p) [] (zi T 73 6 (nI p)) Q) := by
  have h1 := MC_p h.1.1 h.2.1
  have hp := MC_p2 h1
  have ht := MC_t h1
  have hpt : p < t := tk_pos (by rw [hk]; decide)
  have hqp : q ≤ p := by rw [← h.2.1]; exact gp_ge (MC_p2 h.1.1)
  obtain ⟨b1, -, b3⟩ := h.2.2
  have e3 : te b t p = p + 3 := te_w htx hp (K := kw4) (c := 204) (fun s => wk_4) (by decide) (by decide) hk
  have hnp := np_ok (b := b) hp
  rw [e3] at hnp
  have M2 : MC b t p (j + 1) dp 0 N (mP (zi T 73 6 (nI p)) j 20 0 0 (nI p)) := MC_mP h1
  have M3 : MC b t (p + 3) (j + 1) dp 0 N (zi (mP (zi T 73 6 (nI p)) j 20 0 0 (nI p)) 73 6 (nI (p + 3))) := MC_at M2 (by omega)
  have r := mP_r (T := zi T 73 6 (nI p)) (j0 := j) (x1 := 20) (x2 := 0) (x3 := 0) (x4 := nI p)
  refine ⟨zi (zi (mP (zi T 73 6 (nI p)) j 20 0 0 (nI p)) 73 6 (nI (p + 3))) 73 6 (nI (np b t p)), MC_at M3 hnp.2.2, MK_tr (MK_tr (MK_tr (MK_zi (by omega)) (MK_mP (Nat.le_refl _))) (MK_zi (by omega))) (MK_zi (by omega)), nb_le b3 (by omega), hnp.2.1, by omega, by rw [zi_c (by decide), zi_c (by decide)]; exact r.1, by rw [zi_c (by decide), zi_c (by decide)]; exact r.2.2.2, fun Q kk => ?_⟩
  refine b_Mo_forStatement_0 hg (wm_put (MC_13 h1) (by omega)) (fun a A hv => ?_)
  rw [hv.2]
  refine b_Mo_forStatement_9 (R := fun A => A = zi (zi (mP (zi T 73 6 (nI p)) j 20 0 0 (nI p)) 73 6 (nI (p + 3))) 73 6 (nI (np b t p))) hg ?_ (fun A eA => by rw [eA]; exact kk)
  rw [MC_6 M2, show nI p + 3 = nI (p + 3) from nI_add p 3]
  have := wm_gap (l := l) (Gr := Gr) (n := n) (w := w) (d := d + 11) hg M3.1
  rw [show gp b t (p + 3) = np b t p from by rw [np, e3]] at this
  exact this
end FO
