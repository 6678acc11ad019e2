/-! if: what is to be shown; the ends of its BLOCKs on the reference's side -/
def IT (l : Launch) (Gr : zG) (n w d : Nat) (b : Nat → Int32) (t : Nat) (S' T : zS) (p i p' i' j dp vw vw' iw D' c : Nat) : Prop := ∃ T1 Y q' j' N', (∀ x, d ≤ x → zMv l Gr (zc n w) 168 M_Mo_ifStatement (x + 12) [.ref 105, .int (nI p)] T (fun A => A = T1)) ∧ PX l Gr n w d T1 (mEi c Y j' dp) ∧ HS b t q' j' dp N' vw' iw p' Y ∧ PK b t T Y j dp ∧ gT w dp S' Y (nid b t Y) D' vw vw' p i i' j j'
def IZ (l : Launch) (Gr : zG) (n w d : Nat) (b : Nat → Int32) (t : Nat) (T : zS) (p : Nat) (f pl : Int32) : Prop := ∃ T1, (∀ x, d ≤ x → zMv l Gr (zc n w) 168 M_Mo_ifStatement (x + 12) [.ref 105, .int (nI p)] T (fun A => A = T1)) ∧ PZ l Gr n w d b t T1 f pl ∧ PK b t T T1 0 0
def HI (b : Nat → Int32) (t j dp N vw iw p c : Nat) (T : zS) : Prop := HS b t p j dp N vw iw p T ∧ CHN c T j dp
def IOK (l : Launch) (Gr : zG) (n w d : Nat) (b : Nat → Int32) (t : Nat) (S S' : zS) (p i D vw dp p' i' D' vw' : Nat) : Prop := CN b t p' i' D' vw' S' ∧ SK S S' i D ∧ p < p' ∧ D ≤ D' ∧ (i' + p ≤ i + p' ∧ i < i' ∧ hxS S' i i' p p') ∧ ∀ T j N iw c, HI b t j dp N vw iw p c T → IT l Gr n w d b t S' T p i p' i' j dp vw vw' iw D' c
def IBD (l : Launch) (Gr : zG) (n w d : Nat) (b : Nat → Int32) (t : Nat) (S S' : zS) (p dp vw : Nat) (f pl : Int32) : Prop := SB S S' f pl ∧ ∀ T j N iw c, HI b t j dp N vw iw p c T → IZ l Gr n w d b t T p f pl
def IR (l : Launch) (Gr : zG) (n w d : Nat) (b : Nat → Int32) (t : Nat) (S S' : zS) (p i D vw dp : Nat) : Prop := (∃ p' i' D' vw', IOK l Gr n w d b t S S' p i D vw dp p' i' D' vw') ∨ ∃ f pl, IBD l Gr n w d b t S S' p dp vw f pl
def KI (l : Launch) (Gr : zG) (n w d : Nat) (b : Nat → Int32) (t dp D : Nat) : Prop := ∀ S p i Dn vw, CN b t p i Dn vw S → tk b t p = 206 → zMv l Gr (zc n w) 168 M_Reader_readIf D [.ref 66, .int (nI dp)] S (fun S' => IR l Gr n w d b t S S' p i Dn vw dp)
section IFS
variable {l : Launch} {Gr : zG} {n w : Nat} {d : Nat} {b : Nat → Int32} {t p i ws dp p' i' q j m N X u k D D' vw iw s e : Nat} {S S' S'' T T' T'' : zS}
theorem CHN_up {c j0 : Nat} (h : CHN c T j0 dp) (hj : j0 ≤ j) : CHN c T j dp := by
  refine ⟨h.1, fun a ha => ?_, h.2.2⟩
  obtain ⟨x1, s, e, x2, x3, x4, x5, x6, x7, x8⟩ := h.2.1 a ha
  exact ⟨x1, s, e, x2, by omega, x4, x5, x6, by omega, x8⟩
/-- the chain is kept where rows below j0 are -/
theorem CHN_k {c j0 : Nat} (h : CHN c T j0 dp) (h87 : ∀ a, a < dp → T'.1 87 a = T.1 87 a ∧ T'.1 88 a = T.1 88 a) (hr : ∀ a, a < j0 → T'.1 78 a = T.1 78 a ∧ T'.1 80 a = T.1 80 a) : CHN c T' j0 dp := by
  refine ⟨h.1, fun a ha => ?_, ?_⟩
  · obtain ⟨x1, s, e, x2, x3, x4, x5, x6, x7, x8⟩ := h.2.1 a ha
    have := h.1
    have y := h87 (dp - 1 - a) (by omega)
    exact ⟨y.1.trans x1, s, e, y.2.trans x2, x3, (hr s x3).1.trans x4, (hr s x3).2.trans x5, x6, x7, (hr e x7).1.trans x8⟩
  · rcases h.2.2 with h | h
    · exact Or.inl h
    · by_cases z : c = dp
      · exact Or.inl z
      · right
        rw [(h87 (dp - 1 - c) (by have := ‹CHN c T j0 dp›.1; omega)).1]
        exact h
/-- closeBlock() at an if's BLOCK: it begins -/
theorem cb_0 (hg : ip_gk (lg_tbl, vwCl, Gr)) (h : HS b t q j (dp + 1) N vw iw p T) (hd : dp < 30) (hpt : p < t) (hof : T.1 87 dp = 1 ∨ T.1 87 dp = 2) (h88 : T.1 88 dp = nI s) : ∃ X, X = zi (zi (zi (zi T 73 6 (nI p)) 73 6 (nI (p + 1))) 73 19 (nI dp)) 73 26 (nI dp) ∧ MC b t (p + 1) j dp 0 N X ∧ (∀ Q, zW l Gr (zc n w) 168 M_Mo_closeBlock (d + 13) 93 [some (.ref 105), some (.int (T.1 87 dp)), some (.int (nI s)), none] [] X Q → zW l Gr (zc n w) 168 M_Mo_closeBlock (d + 13) 0 [some (.ref 105), none, none, none] [] (zi T 73 6 (nI p)) Q) := by
  have h1 := MC_p h.1.1 h.2.1
  have e26 : (zi T 73 6 (nI p)).1 73 26 - 1 = nI dp := by rw [zi_k (by decide), h.1.2.1]; exact nI_pred dp
  have e19 : (zi T 73 6 (nI p)).1 73 19 - 1 = nI dp := by rw [MC_19 h1]; exact nI_pred dp
  refine ⟨_, rfl, MC_x (MC_dp (MC_at h1 (by omega))) (by omega), fun Q kk => b_Mo_closeBlock_0 (by rw [e26]; exact vp_in_nI (by omega) (by omega)) (fun y => ?_) (fun y => ?_)⟩
  · rw [e26, e19, nI_clamp (by omega), MC_6 h1, nI_1, zi_c (by decide), zi_c (by decide), h88]
    exact kk
  · rw [e26, nI_clamp (by omega), zi_c (by decide)] at y
    rcases hof with z | z <;> rw [z] at y <;> exact absurd y (by decide)
/-- the if ends, and the ifs behind else that end with it -/
theorem cb_end (hg : ip_gk (lg_tbl, vwCl, Gr)) (ho : ip_old (lg_tbl, vwCl, Gr)) (htx : ∀ k, k < t → tx (b k)) {c j0 : Nat} (h : HS b t q j (dp + 1) N vw iw p T) (hd : dp < 30) (hk : tk b t p = 125) (hof : T.1 87 dp = 2 ∨ (T.1 87 dp = 1 ∧ ¬ tk b t (np b t p) = 207)) (h88 : T.1 88 dp = nI s) (hs : s < j) (h80 : T.1 80 s = nI e) (he : e < j) (hc : CHN c T j0 dp) (hj0 : j0 ≤ s ∧ (e = 0 ∨ j0 ≤ e)) (hcj : j + 2 + 2 * c ≤ 12000) : ∃ Y q', PX l Gr n w d T (mEi c Y (j + 2) dp) ∧ HS b t q' (j + 2) dp N vw iw (np b t p) Y ∧ (∀ a, a ≤ s → (e = 0 ∨ a ≤ e) → PK b t T Y a dp) ∧ (Y.1 80 (if e = 0 then s else e) = nI j ∧ Y.1 78 j = 37 ∧ Y.1 79 j = nI s ∧ Y.1 78 (j + 1) = 21) ∧ (∀ a, a < j → Y.1 78 a = T.1 78 a ∧ Y.1 79 a = T.1 79 a ∧ (a ≠ (if e = 0 then s else e) → Y.1 80 a = T.1 80 a) ∧ Y.1 81 a = T.1 81 a ∧ Y.2 82 a = T.2 82 a ∧ Y.1 89 a = T.1 89 a) := by
  have h1 := MC_p h.1.1 h.2.1
  have hp := MC_p2 h1
  have ht := MC_t h1
  have hpt : p < t := tk_pos (by rw [hk]; decide)
  have hqp : q ≤ p := by rw [← h.2.1]; exact gp_ge (MC_p2 h.1.1)
  obtain ⟨b1, -, b3⟩ := h.2.2
  obtain ⟨te1, -⟩ := te_s htx hp (c := 125) (by decide) (by decide) (by decide) hk
  have hgp : gp b t (p + 1) = np b t p := by rw [np, te1]
  have hnp := np_ok (b := b) hp
  rw [te1] at hnp
  obtain ⟨X, eX, MX, pre⟩ := cb_0 (l := l) (Gr := Gr) (n := n) (w := w) (d := d) hg h hd hpt (hof.elim Or.inr (fun y => Or.inl y.1)) h88
  have Xc : ∀ c a, c ≠ 73 → X.1 c a = T.1 c a := fun c a hc => by rw [eX, zi_c hc, zi_c hc, zi_c hc, zi_c hc]
  -- the store at which endIf() is called
  obtain ⟨Z, q', eZ, MZ, gZ, hq', k215⟩ : ∃ Z q', Z = zi X 73 6 (nI q') ∧ MC b t q' j dp 0 N Z ∧ gp b t q' = np b t p ∧ p + 1 ≤ q' ∧ (∀ Q, zW l Gr (zc n w) 168 M_Mo_closeBlock (d + 13) 215 [some (.ref 105), none, some (.int (nI s)), none] [] Z Q → zW l Gr (zc n w) 168 M_Mo_closeBlock (d + 13) 93 [some (.ref 105), some (.int (T.1 87 dp)), some (.int (nI s)), none] [] X Q) := by
    rcases hof with y | ⟨y, n207⟩
    · refine ⟨X, p + 1, (zi_id (MC_6 MX)).symm, MX, hgp, Nat.le_refl _, fun Q kk => ?_⟩
      rw [y]
      exact b_Mo_closeBlock_93 (fun _ => kk) (fun z => absurd z (by decide))
    · have M2 : MC b t (np b t p) j dp 0 N (zi X 73 6 (nI (np b t p))) := MC_at MX hnp.2.2
      refine ⟨zi X 73 6 (nI (np b t p)), np b t p, rfl, M2, gp_wb hnp.1, hnp.2.1, fun Q kk => ?_⟩
      rw [y]
      refine b_Mo_closeBlock_93 (fun z => absurd rfl z) (fun _ => b_Mo_closeBlock_98 hg (wm_gap hg MX.1) (fun A eA => ?_))
      rw [eA, hgp]
      refine b_Mo_closeBlock_102 hg ho (wm_isW7 hg ho M2.1) (fun a A hv => ?_)
      have i7 := tk_w htx hnp.2.2 (K := kw7) (c := 207) (fun s => wk_7) (by decide) (by decide)
      rw [hv.1, hv.2, if_neg (fun z => n207 (i7.mp z))]
      exact b_Mo_closeBlock_109 (fun _ => kk) (fun z => absurd rfl z)
  have Zc : ∀ c a, c ≠ 73 → Z.1 c a = T.1 c a := fun c a hc => by rw [eZ, zi_c hc, Xc c a hc]
  have Zk : ∀ a, a ≠ 6 → Z.1 73 a = X.1 73 a := fun a ha => by rw [eZ, zi_k ha]
  have Xk : ∀ a, a ≠ 6 → a ≠ 19 → a ≠ 26 → X.1 73 a = T.1 73 a := fun a a1 a2 a3 => by rw [eX, zi_k a3, zi_k a2, zi_k a1, zi_k a1]
  have Z26 : Z.1 73 26 = nI dp := by rw [Zk 26 (by decide), eX]; exact zi_v
  have z80 : Z.1 80 s = nI e := by rw [Zc 80 s (by decide)]; exact h80
  have kE := wm_endIf (l := l) (Gr := Gr) (n := n) (w := w) (d := d + 11) hg hs he z80 (MC_13 MZ) (by omega)
  obtain ⟨Y, eY⟩ : ∃ Y, Y = eI Z s e j := ⟨_, rfl⟩
  rw [← eY] at kE
  have MY : MC b t q' (j + 2) dp 0 N Y := by rw [eY]; exact eI_MC MZ
  have Yk : ∀ a, a ≠ 13 → Y.1 73 a = Z.1 73 a := fun a ha => by rw [eY]; exact eI_k ha
  have Yc : ∀ c a, c ≠ 73 ∧ c ≠ 78 ∧ c ≠ 79 ∧ c ≠ 80 ∧ c ≠ 81 → Y.1 c a = T.1 c a := fun c a hc => by rw [eY, eI_c hc, Zc c a hc.1]
  have oY : ∀ a, a < j → Y.1 78 a = T.1 78 a ∧ Y.1 79 a = T.1 79 a ∧ (a ≠ (if e = 0 then s else e) → Y.1 80 a = T.1 80 a) ∧ Y.1 81 a = T.1 81 a := fun a ha => by
    have x := eI_o (T := Z) (s := s) (e := e) (j := j) ha
    rw [← eY, Zc 78 a (by decide), Zc 79 a (by decide), Zc 80 a (by decide), Zc 81 a (by decide)] at x
    exact x
  have rY := eI_r (T := Z) hs he
  rw [← eY] at rY
  have hcY : CHN c Y (j + 2) dp := CHN_up (CHN_k hc (fun a ha => ⟨Yc 87 a (by decide), Yc 88 a (by decide)⟩) (fun a ha => ⟨(oY a (by omega)).1, (oY a (by omega)).2.2.1 (by by_cases z : e = 0 <;> simp only [z, if_true, if_false] <;> omega)⟩)) (by omega)
  refine ⟨Y, q', px_cl hg ho htx h (by omega) (by omega) hk (e_Mo_closeBlock (pre _ (k215 _ (b_Mo_closeBlock_215 hg kE (fun A eA => ?_))))), ⟨⟨MY, (Yk 26 (by decide)).trans Z26, ?_, ?_⟩, gZ, ⟨by omega, by omega, nb_le b3 (by omega)⟩⟩, fun a h1 h2 => ?_, rY, fun a ha => ?_⟩
  · rw [eA]
    exact wx_ei hg c Y (j + 2) dp (MC_13 MY) ((Yk 26 (by decide)).trans Z26) (MC_19 MY) hcY (by omega) (by omega) ⟨rfl, rfl⟩
  · rw [Yk 30 (by decide), Zk 30 (by decide), Xk 30 (by decide) (by decide) (by decide)]; exact h.1.2.2.1
  · rw [Yk 29 (by decide), Zk 29 (by decide), Xk 29 (by decide) (by decide) (by decide)]; exact h.1.2.2.2
  · rw [eY]
    refine PK_tr ?_ (eI_PK (by omega) (by by_cases z : e = 0 <;> simp only [z, if_true, if_false] <;> omega))
    rw [eZ, eX]
    exact PK_tr (PK_tr (PK_tr (PK_tr (PK_zi (by omega)) (PK_zi (by omega))) (PK_zi (by omega))) (PK_zi (by omega))) (PK_zi (by omega))
  · have x := oY a ha
    refine ⟨x.1, x.2.1, x.2.2.1, x.2.2.2, ?_, Yc 89 a (by decide)⟩
    rw [eY, eZ, eX]
    rfl
/-- } else: up to the word behind it -/
theorem cb_else (hg : ip_gk (lg_tbl, vwCl, Gr)) (ho : ip_old (lg_tbl, vwCl, Gr)) (htx : ∀ k, k < t → tx (b k)) (h : HS b t q j (dp + 1) N vw iw p T) (hd : dp < 30) (hk : tk b t p = 125) (hof : T.1 87 dp = 1) (h207 : tk b t (np b t p) = 207) (h88 : T.1 88 dp = nI s) (hs : s < j) : ∃ Z, MC b t (np b t (np b t p)) (j + 1) dp 0 N Z ∧ (Z.1 73 26 = nI dp ∧ Z.1 73 30 = nI vw ∧ Z.1 73 29 = nI iw) ∧ bud b t (2 * dp + 12) (j + 1) 0 N (np b t (np b t p)) ∧ (∀ a, a ≤ s → PK b t T Z a dp) ∧ (Z.1 80 s = nI j ∧ Z.1 78 j = 36 ∧ Z.1 79 j = nI s ∧ Z.1 80 j = 0) ∧ (∀ a, a < j → Z.1 78 a = T.1 78 a ∧ Z.1 79 a = T.1 79 a ∧ (a ≠ s → Z.1 80 a = T.1 80 a) ∧ Z.1 81 a = T.1 81 a ∧ Z.2 82 a = T.2 82 a ∧ Z.1 89 a = T.1 89 a) ∧
    (∀ Q, zW l Gr (zc n w) 168 M_Mo_closeBlock (d + 13) 148 [some (.ref 105), none, some (.int (nI s)), none] [] Z Q → zW l Gr (zc n w) 168 M_Mo_closeBlock (d + 13) 0 [some (.ref 105), none, none, none] [] (zi T 73 6 (nI p)) Q) := by
  have h1 := MC_p h.1.1 h.2.1
  have hp := MC_p2 h1
  have ht := MC_t h1
  have hpt : p < t := tk_pos (by rw [hk]; decide)
  have hqp : q ≤ p := by rw [← h.2.1]; exact gp_ge (MC_p2 h.1.1)
  obtain ⟨b1, -, b3⟩ := h.2.2
  obtain ⟨te1, -⟩ := te_s htx hp (c := 125) (by decide) (by decide) (by decide) hk
  have hgp : gp b t (p + 1) = np b t p := by rw [np, te1]
  have hnp := np_ok (b := b) hp
  rw [te1] at hnp
  obtain ⟨p1, ep1⟩ : ∃ p1, p1 = np b t p := ⟨_, rfl⟩
  rw [← ep1] at h207 hgp hnp ⊢
  have te2 : te b t p1 = p1 + 4 := te_w htx hnp.2.2 (K := kw7) (c := 207) (fun s => wk_7) (by decide) (by decide) h207
  have hnp2 := np_ok (b := b) hnp.2.2
  rw [te2] at hnp2
  have hgp2 : gp b t (p1 + 4) = np b t p1 := by rw [np, te2]
  have tle := te_le (b := b) hnp.2.2
  obtain ⟨X, eX, MX, pre⟩ := cb_0 (l := l) (Gr := Gr) (n := n) (w := w) (d := d) hg h hd hpt (Or.inl hof) h88
  have Xc : ∀ c a, c ≠ 73 → X.1 c a = T.1 c a := fun c a hc => by rw [eX, zi_c hc, zi_c hc, zi_c hc, zi_c hc]
  have Xk : ∀ a, a ≠ 6 → a ≠ 19 → a ≠ 26 → X.1 73 a = T.1 73 a := fun a a1 a2 a3 => by rw [eX, zi_k a3, zi_k a2, zi_k a1, zi_k a1]
  have M2 : MC b t p1 j dp 0 N (zi X 73 6 (nI p1)) := MC_at MX hnp.2.2
  obtain ⟨A, eA⟩ : ∃ A, A = zi (zi X 73 6 (nI p1)) 73 6 (nI (p1 + 4)) := ⟨_, rfl⟩
  have MA : MC b t (p1 + 4) j dp 0 N A := by rw [eA]; exact MC_at M2 (by omega)
  have Ac : ∀ c a, c ≠ 73 → A.1 c a = T.1 c a := fun c a hc => by rw [eA, zi_c hc, zi_c hc, Xc c a hc]
  obtain ⟨B, eB⟩ : ∃ B, B = mP A j 36 (nI s) 0 (A.1 81 s) := ⟨_, rfl⟩
  have MB : MC b t (p1 + 4) (j + 1) dp 0 N B := by rw [eB]; exact MC_mP MA
  have rB := mP_r (T := A) (j0 := j) (x1 := 36) (x2 := nI s) (x3 := 0) (x4 := A.1 81 s)
  have oB' : ∀ a, a < j → B.1 78 a = A.1 78 a ∧ B.1 79 a = A.1 79 a ∧ B.1 80 a = A.1 80 a ∧ B.1 81 a = A.1 81 a := fun a ha => by rw [eB]; exact mP_o (by omega)
  rw [← eB] at rB
  have MC2 : MC b t (p1 + 4) (j + 1) dp 0 N (zi B 80 s (nI j)) := MC_o MB (by omega)
  obtain ⟨Z, eZ⟩ : ∃ Z, Z = zi (zi B 80 s (nI j)) 73 6 (nI (np b t p1)) := ⟨_, rfl⟩
  have MZ : MC b t (np b t p1) (j + 1) dp 0 N Z := by rw [eZ]; exact MC_at MC2 hnp2.2.2
  have Zk : ∀ a, a ≠ 6 → a ≠ 13 → Z.1 73 a = X.1 73 a := fun a a1 a2 => by rw [eZ, zi_k a1, zi_c (by decide), eB, mP_k a2, eA, zi_k a1, zi_k a1]
  have hin : vp_in (nI s) 12000 := vp_in_nI (by omega) (by omega)
  refine ⟨Z, MZ, ⟨?_, ?_, ?_⟩, ⟨by omega, by omega, nb_le b3 (by omega)⟩, fun a ha => ?_, ⟨?_, ?_, ?_, ?_⟩, fun a ha => ?_, fun Q kk => pre Q ?_⟩
  · rw [Zk 26 (by decide) (by decide), eX]; exact zi_v
  · rw [Zk 30 (by decide) (by decide), Xk 30 (by decide) (by decide) (by decide)]; exact h.1.2.2.1
  · rw [Zk 29 (by decide) (by decide), Xk 29 (by decide) (by decide) (by decide)]; exact h.1.2.2.2
  · rw [eZ, eB, eA, eX]
    exact PK_tr (PK_tr (PK_tr (PK_tr (PK_tr (PK_tr (PK_tr (PK_tr (PK_zi (by omega)) (PK_zi (by omega))) (PK_zi (by omega))) (PK_zi (by omega))) (PK_zi (by omega))) (PK_zi (by omega))) (PK_mP (by omega))) (PK_zi (by omega))) (PK_zi (by omega))
  · rw [eZ, zi_c (by decide)]; exact zi_v
  · rw [eZ, zi_c (by decide), zi_c (by decide)]; exact rB.1
  · rw [eZ, zi_c (by decide), zi_c (by decide)]; exact rB.2.1
  · rw [eZ, zi_c (by decide), zi_k (by omega)]; exact rB.2.2.1
  · have x := oB' a ha
    refine ⟨?_, ?_, fun hn => ?_, ?_, ?_, ?_⟩
    · rw [eZ, zi_c (by decide), zi_c (by decide), x.1, Ac 78 a (by decide)]
    · rw [eZ, zi_c (by decide), zi_c (by decide), x.2.1, Ac 79 a (by decide)]
    · rw [eZ, zi_c (by decide), zi_k hn, x.2.2.1, Ac 80 a (by decide)]
    · rw [eZ, zi_c (by decide), zi_c (by decide), x.2.2.2, Ac 81 a (by decide)]
    · rw [eZ, eB, eA, eX]; rfl
    · rw [eZ, zi_c (by decide), zi_c (by decide), eB, mP_c (by decide), Ac 89 a (by decide)]
  · rw [hof]
    refine b_Mo_closeBlock_93 (fun z => absurd rfl z) (fun _ => b_Mo_closeBlock_98 hg (wm_gap hg MX.1) (fun A' eA' => ?_))
    rw [eA', hgp]
    refine b_Mo_closeBlock_102 hg ho (wm_isW7 hg ho M2.1) (fun a A' hv => ?_)
    have i7 := tk_w htx hnp.2.2 (K := kw7) (c := 207) (fun s => wk_7) (by decide) (by decide)
    rw [hv.1, hv.2, if_pos (i7.mpr h207)]
    refine b_Mo_closeBlock_109 (fun z => absurd z (by decide)) (fun _ => b_Mo_closeBlock_112 (R := fun v S' => v = nI j ∧ S' = B) hg hin ?_ (fun a A' hv => ?_))
    · rw [MC_6 M2, show nI p1 + 4 = nI (p1 + 4) from nI_add p1 4, ← eA, nI_clamp (by omega), show (zi X 73 6 (nI p1)).1 81 s = A.1 81 s from by rw [eA, zi_c (by decide), zi_c (by decide), zi_c (by decide)], eB]
      exact wm_put (MC_13 MA) (by omega)
    · rw [hv.1, hv.2]
      refine b_Mo_closeBlock_136 (R := fun S' => S' = Z) hg hin ?_ (fun A' eA' => by rw [eA']; exact kk)
      rw [nI_clamp (by omega)]
      have := wm_gap (l := l) (Gr := Gr) (n := n) (w := w) (d := d + 11) hg MC2.1
      rw [hgp2, ← eZ] at this
      exact this
end IFS
