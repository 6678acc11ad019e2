/-! every STATEMENT is read alike by both -/
section KST
variable {l : Launch} {Gr : zG} {n w : Nat} {d : Nat} {b : Nat → Int32} {t p i ws dp p' i' q j m N X u k D D' vw iw s e : Nat} {S S' S'' T T' T'' : zS}
theorem hs_hi (h : HS b t q j dp N vw iw p T) (hwb : wb b t p) (hTB : TB T dp) : HI b t j dp N vw iw p 0 (zi T 73 6 (nI p)) := by
  have hqp : q ≤ p := by rw [← h.2.1]; exact gp_ge (MC_p2 h.1.1)
  refine ⟨⟨⟨MC_p h.1.1 h.2.1, by rw [zi_k (by decide)]; exact h.1.2.1, by rw [zi_k (by decide)]; exact h.1.2.2.1, by rw [zi_k (by decide)]; exact h.1.2.2.2⟩, gp_wb hwb, bud_le h.2.2 hqp⟩, Nat.zero_le _, fun a ha => absurd ha (Nat.not_lt_zero a), ?_⟩
  rcases hTB with y | y
  · exact Or.inl y.symm
  · right
    rw [zi_c (by decide), Nat.sub_zero]
    exact y
theorem ir_sr (hg : ip_gk (lg_tbl, vwCl, Gr)) (ho : ip_old (lg_tbl, vwCl, Gr)) (htx : ∀ k, k < t → tx (b k)) (hdp : dp ≤ 30) {Dn : Nat} (h : CN b t p i Dn vw S) (hk : tk b t p = 206) (hR : IR l Gr n w d b t S S' p i Dn vw dp) : SR l Gr n w d b t S S' p i Dn vw dp := by
  have hwb := h.1.2.2.2.2.2.2.2.2.1
  rcases hR with ⟨p', i', D', vw', hR⟩ | ⟨f, pl, hR⟩
  · refine Or.inl ⟨p', i', D', vw', hR.1, hR.2.1, hR.2.2.1, hR.2.2.2.1, hR.2.2.2.2.1, fun T q j N iw hH hTB => ?_⟩
    obtain ⟨T1, Y, q', j', N', run, px, hs, pk, g⟩ := hR.2.2.2.2.2 _ _ _ iw 0 (hs_hi hH hwb hTB)
    exact ⟨Y, q', j', N', PX_tr (px_if hg ho htx hH (by omega) hk (run (d + 1) (by omega))) px, hs, PK_tr (PK_zi (by omega)) pk, g⟩
  · refine Or.inr ⟨f, pl, hR.1, fun T q j N iw hH hTB => ?_⟩
    obtain ⟨T1, run, pz, pk⟩ := hR.2 _ _ _ iw 0 (hs_hi hH hwb hTB)
    exact PZ_tr (px_if hg ho htx hH (by omega) hk (run (d + 1) (by omega))) (PK_tr (PK_zi (by omega)) pk) pz
theorem k_st (hg : ip_gk (lg_tbl, vwCl, Gr)) (ho : ip_old (lg_tbl, vwCl, Gr)) (hw : w ≤ 32) (htx : ∀ k, k < t → tx (b k)) : ∀ (g dp : Nat), dp + g = 30 → (∀ D, 8 * g + 20 ≤ D → KS l Gr n w d b t dp D) ∧ (∀ D, 8 * g + 18 ≤ D → KI l Gr n w d b t dp D) := by
  intro g
  induction g with
  | zero =>
    intro dp hdp
    have ka := k_all (l := l) (Gr := Gr) (n := n) (w := w) (d := d) hg ho hw htx 0 dp hdp
    have ki : ∀ D, 18 ≤ D → KI l Gr n w d b t dp D := fun D hD => by
      obtain ⟨e, rfl⟩ : ∃ e, D = e + 2 := ⟨D - 2, by omega⟩
      exact w_if hg ho htx (by omega) (by omega) (fun y => by omega) (fun y => by omega) (fun y => by omega)
    refine ⟨fun D hD => ?_, fun D hD => ki D (by omega)⟩
    obtain ⟨e, rfl⟩ : ∃ e, D = e + 3 := ⟨D - 3, by omega⟩
    intro S p i Dn vw h hB
    refine e_Reader_readStatement (b_Reader_readStatement_0 (fun z => ?_) (fun z => ?_) (fun z => ?_) (fun z => ?_) (fun z1 z2 z3 z4 => ?_))
    · rw [CS_k h.1] at z
      exact b_Reader_readStatement_56 hg (w_assign (D := e) hg ho htx (by omega) (by omega) (ka.1 _ (by omega)) (fun y => by omega) h z) (fun S1 h1 => b_Reader_readStatement_61 (b_Reader_readStatement_95 ⟨rfl, h1⟩))
    · rw [CS_k h.1] at z
      exact b_Reader_readStatement_48 hg (w_var (D := e + 1) hg ho htx (by omega) (by omega) (ka.1 _ (by omega)) h z) (fun S1 h1 => b_Reader_readStatement_53 (b_Reader_readStatement_95 ⟨rfl, h1⟩))
    · rw [CS_k h.1] at z
      exact b_Reader_readStatement_72 hg (w_for (D := e) hg ho htx (by omega) (by omega) (ka.1 _ (by omega)) (fun y => by omega) h z) (fun S1 h1 => b_Reader_readStatement_77 (b_Reader_readStatement_95 ⟨rfl, h1⟩))
    · rw [CS_k h.1] at z
      exact b_Reader_readStatement_64 hg (ki (e + 2) (by omega) S p i Dn vw h z) (fun S1 h1 => b_Reader_readStatement_69 (b_Reader_readStatement_95 ⟨rfl, ir_sr hg ho htx (by omega) h z h1⟩))
    · rw [CS_k h.1] at z1 z2 z3 z4
      refine b_Reader_readStatement_80 hg (w_tell (CS_f h.1)) (fun S1 e1 => b_Reader_readStatement_95 ⟨rfl, Or.inr ⟨1, nI p, ?_, fun T q j N iw hH hTB => pz_asg hg ho htx hH (by omega) hB.2.2 hB.1 z2 z4 z3 hB.2.1 z1⟩⟩)
      rw [e1, CS_s h.1]
      exact SB_F (by decide) SK_rfl
  | succ g ih =>
    intro dp hdp
    have ka := k_all (l := l) (Gr := Gr) (n := n) (w := w) (d := d) hg ho hw htx (g + 1) dp hdp
    have ka1 := k_all (l := l) (Gr := Gr) (n := n) (w := w) (d := d) hg ho hw htx g (dp + 1) (by omega)
    have ks1 := ih (dp + 1) (by omega)
    have ki : ∀ D, 8 * g + 26 ≤ D → KI l Gr n w d b t dp D := fun D hD => by
      obtain ⟨e, rfl⟩ : ∃ e, D = e + 2 := ⟨D - 2, by omega⟩
      exact w_if hg ho htx (by omega) (by omega) (fun y => ka1.1 _ (by omega)) (fun y => ks1.1 _ (by omega)) (fun y => ks1.2 _ (by omega))
    refine ⟨fun D hD => ?_, fun D hD => ki D (by omega)⟩
    obtain ⟨e, rfl⟩ : ∃ e, D = e + 3 := ⟨D - 3, by omega⟩
    intro S p i Dn vw h hB
    refine e_Reader_readStatement (b_Reader_readStatement_0 (fun z => ?_) (fun z => ?_) (fun z => ?_) (fun z => ?_) (fun z1 z2 z3 z4 => ?_))
    · rw [CS_k h.1] at z
      exact b_Reader_readStatement_56 hg (w_assign (D := e) hg ho htx (by omega) (by omega) (ka.1 _ (by omega)) (fun y => ka1.1 _ (by omega)) h z) (fun S1 h1 => b_Reader_readStatement_61 (b_Reader_readStatement_95 ⟨rfl, h1⟩))
    · rw [CS_k h.1] at z
      exact b_Reader_readStatement_48 hg (w_var (D := e + 1) hg ho htx (by omega) (by omega) (ka.1 _ (by omega)) h z) (fun S1 h1 => b_Reader_readStatement_53 (b_Reader_readStatement_95 ⟨rfl, h1⟩))
    · rw [CS_k h.1] at z
      exact b_Reader_readStatement_72 hg (w_for (D := e) hg ho htx (by omega) (by omega) (ka.1 _ (by omega)) (fun y => ks1.1 _ (by omega)) h z) (fun S1 h1 => b_Reader_readStatement_77 (b_Reader_readStatement_95 ⟨rfl, h1⟩))
    · rw [CS_k h.1] at z
      exact b_Reader_readStatement_64 hg (ki (e + 2) (by omega) S p i Dn vw h z) (fun S1 h1 => b_Reader_readStatement_69 (b_Reader_readStatement_95 ⟨rfl, ir_sr hg ho htx (by omega) h z h1⟩))
    · rw [CS_k h.1] at z1 z2 z3 z4
      refine b_Reader_readStatement_80 hg (w_tell (CS_f h.1)) (fun S1 e1 => b_Reader_readStatement_95 ⟨rfl, Or.inr ⟨1, nI p, ?_, fun T q j N iw hH hTB => pz_asg hg ho htx hH (by omega) hB.2.2 hB.1 z2 z4 z3 hB.2.1 z1⟩⟩)
      rw [e1, CS_s h.1]
      exact SB_F (by decide) SK_rfl
end KST
