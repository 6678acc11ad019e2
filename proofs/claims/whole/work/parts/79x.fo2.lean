/-! readFor of both -/
section FO2
variable {l : Launch} {Gr : zG} {n w : Nat} {d : Nat} {b : Nat → Int32} {t p i ws dp p' i' q j m N X u k D D' vw iw s e : Nat} {S S' S'' T T' T'' : zS}
/-- behind a FAULT: the class's readFor from the first EXPR on -/
theorem fo_clF (hg : ip_gk (lg_tbl, vwCl, Gr)) {X : zS} {x2 x4 x6 : Int32} (hX : ¬ X.1 3 5 = 0) {Q : zS → Prop} (q : ∀ v a, Q (zi X 7 a v)) : zW l Gr (zc n w) 168 M_Reader_readFor (d + 8) 123 [some (.ref 66), some (.int (nI dp)), some (.int x2), none, some (.int x4), none, some (.int x6), none] [] X (fun v S' => v = none ∧ Q S') := by
  refine b_Reader_readFor_123 hg (w_addN hg hX) (fun v A hv => ?_)
  rw [hv.2]
  refine b_Reader_readFor_135 hg (w_addN hg hX) (fun v A hv => ?_)
  rw [hv.1, hv.2]
  refine b_Reader_readFor_148 hg (w_blockN hg hX) (fun A eA => ?_)
  rw [eA]
  refine b_Reader_readFor_155 hg (w_addWithN hX) (fun v A hv => ?_)
  rw [hv.2]
  exact b_Reader_readFor_171 (vp_in_nI (n := 0) (by omega) (by omega)) ⟨rfl, q _ _⟩
theorem fo_clE (hg : ip_gk (lg_tbl, vwCl, Gr)) {X : zS} {x2 x4 : Int32} (hX : ¬ X.1 3 5 = 0) {Q : zS → Prop} (q : ∀ v a, Q (zi X 7 a v)) : zW l Gr (zc n w) 168 M_Reader_readFor (d + 8) 109 [some (.ref 66), some (.int (nI dp)), some (.int x2), none, some (.int x4), none, none, none] [] X (fun v S' => v = none ∧ Q S') := by
  refine b_Reader_readFor_109 (R := fun S' => S' = X) hg (w_exprN hg hX) (fun A eA => ?_)
  rw [eA]
  exact fo_clF hg hX q
theorem fo_clD (hg : ip_gk (lg_tbl, vwCl, Gr)) {X : zS} {x2 x4 x5 : Int32} (hX : ¬ X.1 3 5 = 0) {Q : zS → Prop} (q : ∀ v a, Q (zi X 7 a v)) : zW l Gr (zc n w) 168 M_Reader_readFor (d + 8) 89 [some (.ref 66), some (.int (nI dp)), some (.int x2), none, some (.int x4), some (.int x5), none, none] [] X (fun v S' => v = none ∧ Q S') := by
  refine b_Reader_readFor_89 hg (w_addN hg hX) (fun v A hv => ?_)
  rw [hv.2]
  refine b_Reader_readFor_101 hg (w_expectN hg hX) (fun A eA => ?_)
  rw [eA]
  exact fo_clE hg hX q
theorem fo_clC (hg : ip_gk (lg_tbl, vwCl, Gr)) {X : zS} {x2 x4 : Int32} (hX : ¬ X.1 3 5 = 0) {Q : zS → Prop} (q : ∀ v a, Q (zi X 7 a v)) : zW l Gr (zc n w) 168 M_Reader_readFor (d + 8) 75 [some (.ref 66), some (.int (nI dp)), some (.int x2), none, some (.int x4), none, none, none] [] X (fun v S' => v = none ∧ Q S') := by
  refine b_Reader_readFor_75 (R := fun S' => S' = X) hg (w_exprN hg hX) (fun A eA => ?_)
  rw [eA]
  exact fo_clD hg hX q
/-- the reference's, behind a FAULT -/
theorem fo_rF {Y : zS} {f x1 x4 : Int32} (y7 : Y.1 73 7 = f) (hf : fz f) {Q : zS → Prop} (q : Q Y) : zW l Gr (zc n w) 168 M_Mo_forStatement (d + 4) 71 [some (.ref 105), some (.int x1), none, none, some (.int x4)] [] Y (fun v S' => v = none ∧ Q S') :=
  b_Mo_forStatement_71 (fun _ => b_Mo_forStatement_95 (fun _ => b_Mo_forStatement_106 (fun _ => b_Mo_forStatement_138 ⟨rfl, q⟩) (fun y => absurd (y7.symm.trans y) (nz hf))) (fun y => absurd (y7.symm.trans y) (nz hf))) (fun y => absurd (y7.symm.trans y) (nz hf))
theorem fo_rG {Y : zS} {f x1 x4 : Int32} (y7 : Y.1 73 7 = f) (hf : fz f) {Q : zS → Prop} (q : Q Y) : zW l Gr (zc n w) 168 M_Mo_forStatement (d + 4) 95 [some (.ref 105), some (.int x1), none, none, some (.int x4)] [] Y (fun v S' => v = none ∧ Q S') :=
  b_Mo_forStatement_95 (fun _ => b_Mo_forStatement_106 (fun _ => b_Mo_forStatement_138 ⟨rfl, q⟩) (fun y => absurd (y7.symm.trans y) (nz hf))) (fun y => absurd (y7.symm.trans y) (nz hf))
/-- ahead of the BLOCK, on the reference's side -/
def FP (l : Launch) (Gr : zG) (n w d : Nat) (b : Nat → Int32) (t : Nat) (S6 : zS) (p i p1 pa pb i1 i2 p6 dp vw : Nat) : Prop := ∀ T q j N iw, HS b t q j dp N vw iw p T → ∃ v T6 j1 j2 N6, nid b t T6 v p1 ∧ MC b t p6 (j2 + 2) dp 0 N6 T6 ∧ MK b t T T6 j 0 ∧ bud b t (2 * dp + 3) (j2 + 2) 0 N6 p6 ∧ j + 2 ≤ j1 ∧ j1 + 1 ≤ j2 ∧ gX w S6 T6 (nid b t T6) pa (i + 2) i1 (j + 2) j1 ∧ gX w S6 T6 (nid b t T6) pb (i1 + 1) i2 (j1 + 1) j2 ∧ (T6.1 78 j = 20 ∧ T6.1 81 j = nI p ∧ T6.1 78 (j + 1) = 38 ∧ T6.1 79 (j + 1) = nI v ∧ T6.1 81 (j + 1) = nI p1 ∧ T6.1 78 j1 = 41 ∧ T6.1 78 j2 = 41 ∧ T6.1 78 (j2 + 1) = 39 ∧ T6.1 79 (j2 + 1) = nI v ∧ T6.1 81 (j2 + 1) = nI p) ∧
  (∀ Q, zW l Gr (zc n w) 168 M_Mo_forStatement (d + 13) 135 [none, none, none, none, none] [.int (nI (j2 + 1)), .int 3, .ref 105] T6 Q → zW l Gr (zc n w) 168 M_Mo_forStatement (d + 13) 0 (fL p) [] (zi T 73 6 (nI p)) Q)
/-- the BLOCK and the end -/
theorem fo_tail (hg : ip_gk (lg_tbl, vwCl, Gr)) (ho : ip_old (lg_tbl, vwCl, Gr)) (htx : ∀ k, k < t → tx (b k)) (hD : 6 ≤ D) (hdp : dp ≤ 30) (IH : dp < 30 → KS l Gr n w d b t (dp + 1) D) {Dn : Nat} {S6 : zS} {p1 pa pb i1 i2 p6 : Nat} (hk : tk b t p = 204) (hip : i ≤ p) (h6 : CN b t p6 (i2 + 2) (Dn + 1) vw S6) (sk6 : SK S S6 i Dn) (hp6 : p + 8 ≤ p6) (hi : i + 2 < i1 ∧ i1 + 1 < i2 ∧ i2 + p + 4 ≤ i + p6) (hx6 : Hx S6 i (i2 + 1) 0 2 341 ((p6 : Int) - p)) (hd : dcl S6 Dn p1 2 0 0 0) (rS : S6.1 4 i = 1 ∧ S6.1 6 i = nI p ∧ S6.1 4 (i + 1) = 17 ∧ S6.1 5 (i + 1) = nI Dn ∧ S6.1 6 (i + 1) = nI p1 ∧ S6.1 4 i1 = 18 ∧ S6.1 6 i1 = nI pa ∧ S6.1 4 i2 = 18 ∧ S6.1 6 i2 = nI pb ∧ S6.1 4 (i2 + 1) = 19 ∧ S6.1 5 (i2 + 1) = nI Dn ∧ S6.1 6 (i2 + 1) = nI p) (hF : FP l Gr n w d b t S6 p i p1 pa pb i1 i2 p6 dp vw) : zW l Gr (zc n w) 168 M_Reader_readFor (D + 2) 148 [some (.ref 66), some (.int (nI dp)), some (.int (nI p)), none, some (.int (nI Dn)), none, none, none] [.int (nI (i2 + 1))] S6 (fun v S' => v = none ∧ SR l Gr n w d b t S S' p i Dn vw dp) := by
  obtain ⟨e, rfl⟩ : ∃ e, D = e + 6 := ⟨D - 6, by omega⟩
  have c6 := h6.1
  have ht := CS_t c6
  have hp6t := CS_p c6
  have wb6 := c6.2.2.2.2.2.2.2.2.1
  have hin : vp_in (nI (i2 + 1)) 4000 := vp_in_nI (by omega) (by omega)
  have dsp : ∀ {T T' q j N iw}, HS b t q j dp N vw iw p T → zMv l Gr (zc n w) 168 M_Mo_forStatement (d + 13) [.ref 105, .int (nI p)] (zi T 73 6 (nI p)) (fun A => A = T') → PX l Gr n w d T T' := fun hH hm => px_for hg ho htx hH (by omega) hk hm
  refine b_Reader_readFor_148 hg (w_block hg ho (by omega) hdp IH h6) (fun S7 hB => ?_)
  -- a FAULT in the BLOCK
  have clB : ∀ (f pl : Int32), S7.1 3 5 = f → S7.1 3 6 = pl → fz f → SK S S7 0 0 → (∀ T q j N iw, HS b t q j dp N vw iw p T → TB T dp → PZ l Gr n w d b t T f pl) → zW l Gr (zc n w) 168 M_Reader_readFor (e + 6 + 2) 155 [some (.ref 66), none, some (.int (nI p)), none, some (.int (nI Dn)), none, none, some (.int (nI (i2 + 1)))] [] S7 (fun v S' => v = none ∧ SR l Gr n w d b t S S' p i Dn vw dp) := fun f pl h5 h6' hf sk hz => by
    have f1 : ¬ S7.1 3 5 = 0 := by rw [h5]; exact nz hf
    refine b_Reader_readFor_155 hg (w_addWithN f1) (fun v A hv => ?_)
    rw [hv.2]
    refine b_Reader_readFor_171 hin ⟨rfl, Or.inr ⟨f, pl, ⟨hf, ?_, ?_, SK_tr sk (SK_zi (by omega))⟩, hz⟩⟩
    · rw [zi_c (by decide)]; exact h5
    · rw [zi_c (by decide)]; exact h6'
  rcases hB with ⟨hno, e7⟩ | ⟨h123, hd30, hB | ⟨f, pl, hB⟩⟩
  · obtain ⟨f, ef⟩ : ∃ f : Int32, f = if tk b t p6 = 123 then 3 else 1 := ⟨_, rfl⟩
    have hfz : fz f := by rw [ef]; split <;> decide
    rw [← ef] at e7
    refine clB f (nI p6) (by rw [e7]; exact cF_f.1) (by rw [e7]; exact cF_f.2) hfz (by rw [e7]; exact SK_tr (SK_0 sk6) (SK_CK (ws := 0) CK_cF)) (fun T q j N iw hH hTB => ?_)
    obtain ⟨v, T6, j1, j2, N6, hid, M6, mk6, b6, hj1, hj2, g1, g2, rT, pre⟩ := hF T q j N iw hH
    have h26 : T6.1 73 26 = nI dp := (P3_MK mk6).1.trans hH.1.2.1
    obtain ⟨Y, ky, y7, y8, pkY⟩ := wm_openF (l := l) (Gr := Gr) (n := n) (w := w) (d := d + 9) (x1 := 3) (x2 := nI (j2 + 1)) hg htx M6 (gp_wb wb6) hdp hno h26 (by omega)
    rw [← ef] at y7
    exact PZ_of (T' := Y) (nz hfz) (dsp hH (e_Mo_forStatement (pre _ (b_Mo_forStatement_135 hg ky (fun A eA => b_Mo_forStatement_138 ⟨rfl, eA⟩))))) y7 y8 (PK_tr (PK_0 (PK_MK (k := 0) mk6)) (PK_0 pkY))
  · obtain ⟨S8, p8, i8, D8, vw8, hB, h125, e7⟩ := hB
    obtain ⟨cn8, sk8, hp8, hD8, hi8, hR8⟩ := hB
    have hpt6 : p6 < t := tk_pos (by rw [h123]; decide)
    have hgt6 := np_gt (b := b) hpt6
    obtain ⟨te6, -⟩ := te_s htx hp6t (c := 123) (by decide) (by decide) (by decide) h123
    have hpt8 : p8 < t := tk_pos (by rw [h125]; decide)
    have hgt8 := np_gt (b := b) hpt8
    have c8 := cn8.1
    rw [e7]
    have c9 := CS_wS c8
    have cn9 := CN_CK cn8 c9 CK_wS (by omega) (by omega)
    obtain ⟨S9, eS9⟩ : ∃ S9, S9 = wS b t (np b t p8) S8 := ⟨_, rfl⟩
    have w9 : ∀ c a, c ≠ 38 → S9.1 c a = S8.1 c a := fun c a hc => by rw [eS9]; exact wS_c hc
    have sk69 : SK S6 S9 (i2 + 2) (Dn + 1) := SK_tr (SK_tr SK_wS sk8) (by rw [eS9]; exact SK_wS)
    rw [← eS9] at c9 cn9 ⊢
    refine b_Reader_readFor_155 hg (w_addWith (CS_f c9) (CS_n c9) (by omega)) (fun v A hv => ?_)
    rw [hv.2, nI_1]
    have c10 : CS b t (np b t p8) (i8 + 1) 0 (cA S9 i8 20 (nI Dn) (nI p) (nI (i2 + 1 + 1))) := CS_cA c9
    have r10 := cA_r (S := S9) (i0 := i8) (x1 := 20) (x2 := nI Dn) (x3 := nI p) (x4 := nI (i2 + 1 + 1))
    have o10 : ∀ a, a < i8 → (cA S9 i8 20 (nI Dn) (nI p) (nI (i2 + 1 + 1))).1 4 a = S9.1 4 a ∧ (cA S9 i8 20 (nI Dn) (nI p) (nI (i2 + 1 + 1))).1 5 a = S9.1 5 a ∧ (cA S9 i8 20 (nI Dn) (nI p) (nI (i2 + 1 + 1))).1 6 a = S9.1 6 a ∧ (cA S9 i8 20 (nI Dn) (nI p) (nI (i2 + 1 + 1))).1 7 a = S9.1 7 a := fun a ha => cA_o (by omega)
    obtain ⟨S10, eS10⟩ : ∃ S10, S10 = cA S9 i8 20 (nI Dn) (nI p) (nI (i2 + 1 + 1)) := ⟨_, rfl⟩
    have k10 : ∀ c a, c ≠ 3 ∧ c ≠ 4 ∧ c ≠ 5 ∧ c ≠ 6 ∧ c ≠ 7 → S10.1 c a = S9.1 c a := fun c a hc => by rw [eS10]; exact cA_c hc
    rw [← eS10] at c10 r10 o10 ⊢
    refine b_Reader_readFor_171 hin ⟨rfl, Or.inl ?_⟩
    rw [CS_n c10, nI_clamp (by omega)]
    obtain ⟨SF, eSF⟩ : ∃ SF, SF = zi S10 7 (i2 + 1) (nI (i8 + 1)) := ⟨_, rfl⟩
    have cF : CS b t (np b t p8) (i8 + 1) 0 SF := by rw [eSF]; exact CS_o c10 (by omega)
    have fF : ∀ c a, ¬ (c = 7 ∧ a = i2 + 1) → SF.1 c a = S10.1 c a := fun c a h => by rw [eSF, zi_get, if_neg h]
    rw [← eSF]
    have skF : SK S9 SF (i2 + 1) (Dn + 1) := SK_tr (S' := S10) (by rw [eS10]; exact SK_cA (by omega)) (by rw [eSF]; exact SK_zi (by omega))
    have sk6F : SK S6 SF (i2 + 1) (Dn + 1) := SK_tr (SK_le sk69 (by omega) (Nat.le_refl _)) skF
    -- all rows but more[head]
    have rows : ∀ a, a < i8 → SF.1 4 a = S9.1 4 a ∧ SF.1 5 a = S9.1 5 a ∧ SF.1 6 a = S9.1 6 a ∧ (a ≠ i2 + 1 → SF.1 7 a = S9.1 7 a) := fun a ha => by
      have x := o10 a ha
      exact ⟨(fF 4 a (by omega)).trans x.1, (fF 5 a (by omega)).trans x.2.1, (fF 6 a (by omega)).trans x.2.2.1, fun hn => (fF 7 a (by omega)).trans x.2.2.2⟩
    have hxF' : hxS SF i (i8 + 1) p (np b t p8) := by
      have A : Hx SF i (i2 + 1) 0 2 341 ((np b t p8 : Int) - p) := Hx_mono (Hx_0 hx6 sk6F.1 (Nat.le_refl _)) (Int.le_refl _) (by omega)
      have A2 := Hx_eq (f1 := 0) (f2 := 0) (Hx_sn (e1 := 0) (e2 := -2) A ((rows (i2 + 1) (by omega)).1.trans ((sk69.1 (i2 + 1) (Nat.zero_le _) (by omega)).1.trans rS.2.2.2.2.2.2.2.2.2.1)) (by decide) (by decide) (by decide) (by omega) (by omega)) (by omega) (by omega)
      have B : Hx SF (i2 + 1 + 1) i8 0 0 341 ((p8 : Int) - np b t p6) := Hx_cg hi8.2.2 (fun a q1 q2 => by
        have x := rows a q2
        exact ⟨x.1.trans (w9 4 a (by decide)), x.2.1.trans (w9 5 a (by decide)), (x.2.2.2 (by omega)).trans (w9 7 a (by decide))⟩)
      have A3 := Hx_app A2 B (H1 := 341) (H2 := (np b t p8 : Int) - p) (Int.le_refl _) (by omega) (Int.le_refl _) (by omega)
      exact Hx_eq (Hx_sn (e1 := 0) (e2 := 0) A3 ((fF 4 i8 (by omega)).trans r10.1) (by decide) (by decide) (by decide) (by omega) (by omega)) (by omega) (by omega)
    refine ⟨np b t p8, i8 + 1, D8, vw8, ⟨cF, ?_, ?_, ?_, by omega, by have := cn8.2.2.2.2.2.1; omega, cn8.2.2.2.2.2.2.1, NS_k cn8.2.2.2.2.2.2.2 (fun a _ => ⟨by rw [fF _ _ (by omega), k10 _ _ (by decide), w9 _ _ (by decide)], by rw [fF _ _ (by omega), k10 _ _ (by decide), w9 _ _ (by decide)]⟩)⟩, SK_tr sk6 (SK_le sk6F (by omega) (by omega)), by omega, by omega, ⟨by omega, by omega, hxF'⟩, fun T q j N iw hH hTB => ?_⟩
    · rw [fF 8 1 (by omega), k10 8 1 (by decide)]; exact cn9.2.1
    · rw [fF 8 9 (by omega), k10 8 9 (by decide)]; exact cn9.2.2.1
    · rw [fF 34 10 (by omega), k10 34 10 (by decide)]; exact cn9.2.2.2.1
    · obtain ⟨v, T6, j1, j2, N6, hid, M6, mk6, b6, hj1, hj2, g1, g2, rT, pre⟩ := hF T q j N iw hH
      have p36 := P3_MK mk6
      have h26 : T6.1 73 26 = nI dp := p36.1.trans hH.1.2.1
      have b61 := b6.1
      -- the BLOCK opens
      have ko := wm_open (l := l) (Gr := Gr) (n := n) (w := w) (d := d + 9) (x1 := 3) (x2 := nI (j2 + 1)) hg htx M6 (gp_wb wb6) h123 hd30 h26 (by omega)
      obtain ⟨T7, eT7⟩ : ∃ T7, T7 = oB T6 p6 dp dp 3 (nI (j2 + 1)) := ⟨_, rfl⟩
      rw [← eT7] at ko
      have px7 : PX l Gr n w d T T7 := dsp hH (e_Mo_forStatement (pre _ (b_Mo_forStatement_135 hg ko (fun A eA => b_Mo_forStatement_138 ⟨rfl, eA⟩))))
      have M7 : MC b t (p6 + 1) (j2 + 2) (dp + 1) 0 N6 T7 := by
        rw [eT7]
        exact MC_x (MC_o (MC_o (MC_at (MC_dp (MC_at M6 (by omega))) (by omega)) (by omega)) (by omega)) (by omega)
      have t26 : T7.1 73 26 = nI (dp + 1) := by rw [eT7]; exact zi_v
      have t7k : ∀ a, a ≠ 6 → a ≠ 19 → a ≠ 26 → T7.1 73 a = T6.1 73 a := fun a a1 a2 a3 => by
        rw [eT7]; unfold oB; rw [zi_k a3, zi_c (by decide), zi_c (by decide), zi_k a1, zi_k a2, zi_k a1]
      have pk67 : PK b t T6 T7 (j2 + 2) dp := by
        rw [eT7]
        exact PK_tr (PK_tr (PK_tr (PK_tr (PK_tr (PK_zi (by omega)) (PK_zi (by omega))) (PK_zi (by omega))) (PK_zi (by omega))) (PK_zi (by omega))) (PK_zi (by omega))
      have t87 : T7.1 87 dp = 3 := by rw [eT7]; unfold oB; rw [zi_c (by decide), zi_c (by decide)]; exact zi_v
      have t88 : T7.1 88 dp = nI (j2 + 1) := by rw [eT7]; unfold oB; rw [zi_c (by decide)]; exact zi_v
      have hs7 : HS b t (p6 + 1) (j2 + 2) (dp + 1) N6 vw iw (np b t p6) T7 := ⟨⟨M7, t26, (t7k 30 (by decide) (by decide) (by decide)).trans (p36.2.2.trans hH.1.2.2.1), (t7k 29 (by decide) (by decide) (by decide)).trans (p36.2.1.trans hH.1.2.2.2)⟩, by rw [np, te6], ⟨by omega, by omega, nb_le b6.2.2 (by omega)⟩⟩
      have tb7 : TB T7 (dp + 1) := Or.inr (by rw [Nat.add_sub_cancel, t87]; decide)
      obtain ⟨T8, q8, j8, N8, k8, px8, hs8, pk8, g8⟩ := hR8 T7 _ _ _ iw hs7 tb7
      have gb8 := gL_b g8
      have u87 : T8.1 87 dp = 3 := (pk8.2.2.1 dp (by omega)).1.trans t87
      have u88 : T8.1 88 dp = nI (j2 + 1) := (pk8.2.2.1 dp (by omega)).2.trans t88
      obtain ⟨Y, pxY, hsY, pkY, rY, oY⟩ := cb_for (l := l) (Gr := Gr) (n := n) (w := w) (d := d) hg ho htx hs8 hd30 h125 u87 u88 (by omega)
      -- rows of the reference from T6 to the end
      have row6 : ∀ a, a < j2 + 2 → Y.1 78 a = T6.1 78 a ∧ Y.1 79 a = T6.1 79 a ∧ (a ≠ j2 + 1 → Y.1 80 a = T6.1 80 a) ∧ Y.1 81 a = T6.1 81 a ∧ Y.2 82 a = T6.2 82 a := fun a ha => by
        have x := oY a (by omega)
        have y := pk8.1 a (Nat.zero_le _) ha
        have z := pk67.1 a (Nat.zero_le _) ha
        exact ⟨x.1.trans (y.1.trans z.1), x.2.1.trans (y.2.1.trans z.2.1), fun hn => (x.2.2.1 hn).trans (y.2.2.1.trans z.2.2.1), x.2.2.2.1.trans (y.2.2.2.1.trans z.2.2.2.1), x.2.2.2.2.1.trans (y.2.2.2.2.trans z.2.2.2.2)⟩
      have ni6 : ∀ v p, nid b t T6 v p → nid b t Y v p := fun v p x => pkY.2.2.2.2.2.2 v p (pk8.2.2.2.2.2.2 v p (pk67.2.2.2.2.2.2 v p x))
      have bx1 := gX_bnd g1
      have bx2 := gX_bnd g2
      have ct6 : ∀ a, a < j2 + 1 → Y.1 78 a = T6.1 78 a ∧ Y.1 79 a = T6.1 79 a ∧ Y.1 80 a = T6.1 80 a ∧ Y.1 81 a = T6.1 81 a ∧ Y.2 82 a = T6.2 82 a := fun a ha => by
        have x := row6 a (by omega)
        exact ⟨x.1, x.2.1, x.2.2.1 (by omega), x.2.2.2.1, x.2.2.2.2⟩
      have cs6 : ∀ a, a < i2 + 1 → SF.1 4 a = S6.1 4 a ∧ SF.1 5 a = S6.1 5 a ∧ SF.1 6 a = S6.1 6 a ∧ SF.1 7 a = S6.1 7 a := fun a ha => sk6F.1 a (Nat.zero_le _) ha
      have hd1 := sk69.1 (i2 + 1) (Nat.zero_le _) (by omega)
      have hd2 := rows (i2 + 1) (by omega)
      have r0 := ct6 j (by omega)
      have r1 := ct6 (j + 1) (by omega)
      have r2 := ct6 j1 (by omega)
      have r3 := ct6 j2 (by omega)
      have r4 := row6 (j2 + 1) (by omega)
      have s0 := cs6 i (by omega)
      have s1 := cs6 (i + 1) (by omega)
      have s2 := cs6 i1 (by omega)
      have s3 := cs6 i2 (by omega)
      refine ⟨Y, p8 + 1, j8 + 2, N8, PX_tr px7 (PX_tr px8 pxY), hsY, PK_tr (PK_MK mk6) (PK_tr (PK_le pk67 (by omega) (Nat.le_refl _)) (PK_tr (PK_le pk8 (by omega) (by omega)) (PK_le pkY (by omega) (Nat.le_refl _)))), gT_for hdp ⟨Dn, v, p1, pa, i1, j1, pb, i2, j2, k8, i8, j8, by omega, ni6 _ _ hid, dcl_cong hd (by omega) sk6F.2.1, gX_cong ni6 g1 (fun a q1 q2 => cs6 a (by omega)) (fun a q1 q2 => ct6 a (by omega)), gX_cong ni6 g2 (fun a q1 q2 => cs6 a (by omega)) (fun a q1 q2 => ct6 a (by omega)), gL_gT pkY.2.2.2.2.2.2 (Nat.le_refl _) ?_ g8 (fun a q1 q2 => ?_) ⟨fun a q1 q2 => ?_, fun a q1 q2 => (oY a q2).2.2.2.2.2⟩, rfl, rfl, s0.1.trans rS.1, s0.2.2.1.trans rS.2.1, s1.1.trans rS.2.2.1, s1.2.1.trans rS.2.2.2.1, s1.2.2.1.trans rS.2.2.2.2.1, s2.1.trans rS.2.2.2.2.2.1, s2.2.2.1.trans rS.2.2.2.2.2.2.1, s3.1.trans rS.2.2.2.2.2.2.2.1, s3.2.2.1.trans rS.2.2.2.2.2.2.2.2.1, hd2.1.trans (hd1.1.trans rS.2.2.2.2.2.2.2.2.2.1), hd2.2.1.trans (hd1.2.1.trans rS.2.2.2.2.2.2.2.2.2.2.1), hd2.2.2.1.trans (hd1.2.2.1.trans rS.2.2.2.2.2.2.2.2.2.2.2), by rw [eSF]; exact zi_v, (fF 4 i8 (by omega)).trans r10.1, (fF 5 i8 (by omega)).trans r10.2.1, (fF 7 i8 (by omega)).trans r10.2.2.2, r0.1.trans rT.1, r0.2.2.2.1.trans rT.2.1, r1.1.trans rT.2.2.1, r1.2.1.trans rT.2.2.2.1, r1.2.2.2.1.trans rT.2.2.2.2.1, r2.1.trans rT.2.2.2.2.2.1, r3.1.trans rT.2.2.2.2.2.2.1, r4.1.trans rT.2.2.2.2.2.2.2.1, r4.2.1.trans rT.2.2.2.2.2.2.2.2.1, rY.2.2.2, r4.2.2.2.1.trans rT.2.2.2.2.2.2.2.2.2, rY.1, rY.2.1, rY.2.2.1⟩⟩
      · intro d hd
        refine ⟨?_, ?_, ?_, ?_, ?_, ?_, ?_⟩
        all_goals rw [fF _ _ (by omega), k10 _ _ (by decide), w9 _ _ (by decide)]
      · have x := rows a (by omega)
        exact ⟨x.1.trans (w9 _ _ (by decide)), x.2.1.trans (w9 _ _ (by decide)), x.2.2.1.trans (w9 _ _ (by decide)), (x.2.2.2 (by omega)).trans (w9 _ _ (by decide))⟩
      · have x := oY a q2
        exact ⟨x.1, x.2.1, x.2.2.1 (by omega), x.2.2.2.1, x.2.2.2.2.1⟩
  · have hpt6 : p6 < t := tk_pos (by rw [h123]; decide)
    obtain ⟨te6, -⟩ := te_s htx hp6t (c := 123) (by decide) (by decide) (by decide) h123
    refine clB f pl hB.1.2.1 hB.1.2.2.1 hB.1.1 (SK_tr (SK_0 sk6) (SK_tr SK_wS hB.1.2.2.2)) (fun T q j N iw hH hTB => ?_)
    obtain ⟨v, T6, j1, j2, N6, hid, M6, mk6, b6, hj1, hj2, g1, g2, rT, pre⟩ := hF T q j N iw hH
    have p36 := P3_MK mk6
    have h26 : T6.1 73 26 = nI dp := p36.1.trans hH.1.2.1
    have b61 := b6.1
    have ko := wm_open (l := l) (Gr := Gr) (n := n) (w := w) (d := d + 9) (x1 := 3) (x2 := nI (j2 + 1)) hg htx M6 (gp_wb wb6) h123 hd30 h26 (by omega)
    obtain ⟨T7, eT7⟩ : ∃ T7, T7 = oB T6 p6 dp dp 3 (nI (j2 + 1)) := ⟨_, rfl⟩
    rw [← eT7] at ko
    have px7 : PX l Gr n w d T T7 := dsp hH (e_Mo_forStatement (pre _ (b_Mo_forStatement_135 hg ko (fun A eA => b_Mo_forStatement_138 ⟨rfl, eA⟩))))
    have M7 : MC b t (p6 + 1) (j2 + 2) (dp + 1) 0 N6 T7 := by
      rw [eT7]
      exact MC_x (MC_o (MC_o (MC_at (MC_dp (MC_at M6 (by omega))) (by omega)) (by omega)) (by omega)) (by omega)
    have t26 : T7.1 73 26 = nI (dp + 1) := by rw [eT7]; exact zi_v
    have t7k : ∀ a, a ≠ 6 → a ≠ 19 → a ≠ 26 → T7.1 73 a = T6.1 73 a := fun a a1 a2 a3 => by
      rw [eT7]; unfold oB; rw [zi_k a3, zi_c (by decide), zi_c (by decide), zi_k a1, zi_k a2, zi_k a1]
    have pk67 : PK b t T6 T7 0 0 := by
      rw [eT7]
      exact PK_tr (PK_tr (PK_tr (PK_tr (PK_tr (PK_zi (by omega)) (PK_zi (by omega))) (PK_zi (by omega))) (PK_zi (by omega))) (PK_zi (by omega))) (PK_zi (by omega))
    have t87 : T7.1 87 dp = 3 := by rw [eT7]; unfold oB; rw [zi_c (by decide), zi_c (by decide)]; exact zi_v
    have hs7 : HS b t (p6 + 1) (j2 + 2) (dp + 1) N6 vw iw (np b t p6) T7 := ⟨⟨M7, t26, (t7k 30 (by decide) (by decide) (by decide)).trans (p36.2.2.trans hH.1.2.2.1), (t7k 29 (by decide) (by decide) (by decide)).trans (p36.2.1.trans hH.1.2.2.2)⟩, by rw [np, te6], ⟨by omega, by omega, nb_le b6.2.2 (by omega)⟩⟩
    have tb7 : TB T7 (dp + 1) := Or.inr (by rw [Nat.add_sub_cancel, t87]; decide)
    exact PZ_tr px7 (PK_tr (PK_0 (PK_MK (k := 0) mk6)) pk67) (hB.2 T7 _ _ _ iw hs7 tb7)
end FO2
