/-! def: its list of PARAMs on both sides -/
section DEL
variable {l : Launch} {Gr : zG} {n w : Nat} {d : Nat} {b : Nat → Int32} {t p i ws dp p' i' q j m N X u k D D' vw iw s e : Nat} {S S' S'' T T' T'' : zS}
theorem sPar_k {ni ni' : Nat → Nat → Prop} {Dn a : Nat} (h : sPar S T ni Dn i j a) (hni : ∀ v p, ni v p → ni' v p) (hS : ∀ c r, ¬ (34 ≤ c ∧ c ≤ 38) → S'.1 c r = S.1 c r) (hT : ∀ c r, c ≠ 73 → T'.1 c r = T.1 c r) : sPar S' T' ni' Dn i j a := by
  obtain ⟨x, s, r, y1, y2, y3, y4, y5, y6, y7, y8, y9, y10⟩ := h
  exact ⟨x, s, r, hni _ _ y1, y2, ⟨(hS _ _ (by omega)).trans y3.1, (hS _ _ (by omega)).trans y3.2.1, (hS _ _ (by omega)).trans y3.2.2.1, (hS _ _ (by omega)).trans y3.2.2.2.1, (hS _ _ (by omega)).trans y3.2.2.2.2⟩, (hS _ _ (by omega)).trans y4, (hS _ _ (by omega)).trans y5, (hS _ _ (by omega)).trans y6, (hT _ _ (by decide)).trans y7, (hT _ _ (by decide)).trans y8, (hT _ _ (by decide)).trans y9, (hT _ _ (by decide)).trans y10⟩
/-- no more PARAMs -/
theorem do_n (hg : ip_gk (lg_tbl, vwCl, Gr)) (htx : ∀ k, k < t → tx (b k)) {S0 : zS} {p1 Dn : Nat} (h : DO l Gr n w d b t S0 S p i p1 Dn vw iw k q) (hk : ¬ tk b t q = 44) : DD l Gr n w d b t S0 S p i p1 Dn vw iw k q 0 := by
  obtain ⟨hC, hR⟩ := h
  have hq := hC.2.2.2.2.2.2.2.2
  have wbq := hC.1.2.2.2.2.2.2.2.2.1
  refine ⟨hC, fun T qq j N hH => ?_⟩
  obtain ⟨v, T1, N1, hid, M1, pk1, p31, nb1, bj, rT, pa, pre⟩ := hR T qq j N hH
  refine ⟨v, T1, q, N1, hid, M1, gp_wb wbq, pk1, p31, nb1, hq.1, bj, rT, pa, fun Q kk => pre Q (b_Mo_defItem_166 hg (wm_isSign hg M1.1) (fun a A hv => ?_))⟩
  rw [hv.1, hv.2, if_neg (fun y => hk ((tk_sg htx (MC_p2 M1) (by decide) (by decide) (by decide)).mp y))]
  refine b_Mo_defItem_172 (fun _ => b_Mo_defItem_188 (b_Mo_defItem_189 (b_Mo_defItem_193 ?_))) (fun y => absurd rfl y)
  rw [Int32.add_zero, zi_id rfl]
  exact kk
/-- , -/
theorem do_c (hg : ip_gk (lg_tbl, vwCl, Gr)) (htx : ∀ k, k < t → tx (b k)) {S0 : zS} {p1 Dn : Nat} (h : DO l Gr n w d b t S0 S p i p1 Dn vw iw k q) (hk : tk b t q = 44) : DD l Gr n w d b t S0 (wS b t (np b t q) S) p i p1 Dn vw iw k (np b t q) 1 := by
  obtain ⟨⟨c0, x81, x89, x34, x15, sk0, rS, rD, hq⟩, hR⟩ := h
  have hqt := CS_p c0
  have hpt : q < t := tk_pos (by rw [hk]; decide)
  have hgt := np_gt (b := b) hpt
  obtain ⟨te1, -⟩ := te_s htx hqt (c := 44) (by decide) (by decide) (by decide) hk
  have f : ∀ c a, c ≠ 38 → (wS b t (np b t q) S).1 c a = S.1 c a := fun c a hc => wS_c hc
  refine ⟨⟨CS_wS c0, (f 8 1 (by decide)).trans x81, (f 8 9 (by decide)).trans x89, (f 34 10 (by decide)).trans x34, (f 15 Dn (by decide)).trans x15, SK_tr sk0 SK_wS, ⟨(f 4 i (by decide)).trans rS.1, (f 5 i (by decide)).trans rS.2.1, (f 6 i (by decide)).trans rS.2.2⟩, ⟨(f 9 Dn (by decide)).trans rD.1, (f 11 Dn (by decide)).trans rD.2.1, (f 13 Dn (by decide)).trans rD.2.2⟩, by omega, fun a ha => (f 4 _ (by decide)).trans (hq.2.1 a ha), NS_k hq.2.2 (fun a _ => ⟨f 9 a (by decide), f 10 a (by decide)⟩)⟩, fun T qq j N hH => ?_⟩
  obtain ⟨v, T1, N1, hid, M1, pk1, p31, nb1, bj, rT, pa, pre⟩ := hR T qq j N hH
  have pk2 : ∀ a, PK b t T1 (zi T1 73 6 (nI (q + 1))) a 0 := fun a => PK_zi (by omega)
  refine ⟨v, zi T1 73 6 (nI (q + 1)), q + 1, N1, (pk2 0).2.2.2.2.2.2 v p1 hid, MC_at M1 (by omega), by rw [np, te1], PK_tr pk1 (pk2 j), P3_tr p31 (P3_zi (by omega)), nb_le nb1 (by omega), by omega, bj, ⟨by rw [zi_c (by decide)]; exact rT.1, by rw [zi_c (by decide)]; exact rT.2.1, by rw [zi_c (by decide)]; exact rT.2.2.1, by rw [zi_c (by decide)]; exact rT.2.2.2⟩, fun a ha => sPar_k (pa a ha) (pk2 0).2.2.2.2.2.2 (fun c r hc => f c r (by omega)) (fun c r hc => zi_c hc), fun Q kk => pre Q (b_Mo_defItem_166 hg (wm_isSign hg M1.1) (fun a A hv => ?_))⟩
  rw [hv.1, hv.2, if_pos ((tk_sg htx (MC_p2 M1) (by decide) (by decide) (by decide)).mpr hk)]
  refine b_Mo_defItem_172 (fun y => absurd y (by decide)) (fun _ => b_Mo_defItem_184 (b_Mo_defItem_189 (b_Mo_defItem_193 ?_)))
  rw [MC_6 M1, nI_1]
  exact kk
theorem wx_dl (hg : ip_gk (lg_tbl, vwCl, Gr)) (ho : ip_old (lg_tbl, vwCl, Gr)) (htx : ∀ k, k < t → tx (b k)) {S0 : zS} {p1 Dn : Nat} (hk : tk b t p = 203) (hip : i ≤ p) (hDp : 5 * Dn ≤ p) {Q : Option Value → zS → Prop}
    (kok : ∀ S' k' q', DD l Gr n w d b t S0 S' p i p1 Dn vw iw k' q' 0 → zW l Gr (zc n w) 168 M_Reader_readDef (e + 8) 121 [some (.ref 66), none, some (.int (nI Dn)), some (.int (nI i)), none, none] [] S' Q)
    (kbd : ∀ S' f pl, DF l Gr n w d b t S0 S' p vw iw f pl → zW l Gr (zc n w) 168 M_Reader_readDef (e + 8) 121 [some (.ref 66), none, some (.int (nI Dn)), some (.int (nI i)), none, none] [] S' Q) :
    ∀ (m : Nat) (S : zS) (k q c : Nat), t - q ≤ m → c ≤ k → DO l Gr n w d b t S0 S p i p1 Dn vw iw k q → zW l Gr (zc n w) 168 M_Reader_readDef (e + 8) 73 [some (.ref 66), none, some (.int (nI Dn)), some (.int (nI i)), some (.int (nI c)), none] [] S Q := by
  intro m
  induction m with
  | zero =>
    intro S k q c hm hc h
    have c0 := h.1.1
    have ht := CS_t c0
    have hqt := CS_p c0
    have hq := h.1.2.2.2.2.2.2.2.2
    have tk0 := tk_end (b := b) (t := t) (p := q) (by omega)
    refine b_Reader_readDef_73 (fun z => absurd z (nI_ge (a := c) (b := 4000) (by omega) (by omega))) (fun _ => b_Reader_readDef_81 (fun y => absurd (CS_f c0) y) (fun _ => b_Reader_readDef_91 (fun y => ?_) (fun y => ?_)))
    · rw [CS_k c0] at y
      exact kok S k q (do_n hg htx h y)
    · rw [CS_k c0, tk0] at y
      exact absurd y (by decide)
  | succ m ih =>
    intro S k q c hm hc h
    have c0 := h.1.1
    have ht := CS_t c0
    have hqt := CS_p c0
    have hq := h.1.2.2.2.2.2.2.2.2
    refine b_Reader_readDef_73 (fun z => absurd z (nI_ge (a := c) (b := 4000) (by omega) (by omega))) (fun _ => b_Reader_readDef_81 (fun y => absurd (CS_f c0) y) (fun _ => b_Reader_readDef_91 (fun y => ?_) (fun y => ?_)))
    · rw [CS_k c0] at y
      exact kok S k q (do_n hg htx h y)
    · rw [CS_k c0] at y
      have hpt : q < t := tk_pos (by rw [y]; decide)
      have hgt := np_gt (b := b) hpt
      refine b_Reader_readDef_103 hg (w_adv hg ho c0) (fun A eA => ?_)
      rw [eA]
      refine b_Reader_readDef_110 hg (w_param hg ho htx hk hip hDp (do_c hg htx h y)) (fun S1 h1 => b_Reader_readDef_115 ?_)
      rw [show nI c + Int32.ofInt 1 = nI (c + 1) from nI_1 c]
      rcases h1 with ⟨q', hlt, h1⟩ | ⟨f, pl, h1⟩
      · exact ih S1 (k + 1) q' (c + 1) (by omega) (by omega) h1
      · have f1 : ¬ S1.1 3 5 = 0 := by rw [h1.1.2.1]; exact nz h1.1.1
        exact b_Reader_readDef_73 (fun _ => kbd S1 f pl h1) (fun _ => b_Reader_readDef_81 (fun _ => kbd S1 f pl h1) (fun y => absurd y f1))
/-- the class behind a FAULT, up to its end -/
theorem df_145 (hg : ip_gk (lg_tbl, vwCl, Gr)) {X : zS} {Dn : Nat} {x4 : Int32} (hD : Dn < 800) (hi : i < 4000) (hX : ¬ X.1 3 5 = 0) {Q : zS → Prop} (q : ∀ A, A.1 3 5 = X.1 3 5 → A.1 3 6 = X.1 3 6 → JK X A 0 0 0 → Q A) : zW l Gr (zc n w) 168 M_Reader_readDef (d + 8) 145 [some (.ref 66), none, some (.int (nI Dn)), some (.int (nI i)), some (.int x4), none] [] X (fun v S' => v = none ∧ Q S') := by
  have f1 : ¬ (zi (zi X 12 ((nI Dn).toNatClampNeg) x4) 14 ((nI Dn).toNatClampNeg) (X.1 3 4)).1 3 5 = 0 := by rw [zi_c (by decide), zi_c (by decide)]; exact hX
  refine b_Reader_readDef_145 hg (vp_in_nI hD (by omega)) (w_exprN (dp := 0) (D := d + 4) hg f1) (fun A eA => ?_)
  rw [eA]
  refine b_Reader_readDef_186 hg (w_addN hg f1) (fun v A hv => ?_)
  rw [hv.2]
  refine b_Reader_readDef_197 hg (vp_in_nI hi (by omega)) (w_expectN (d := d + 1) hg (by rw [zi_c (by decide)]; exact f1)) (fun A eA => b_Reader_readDef_220 ⟨rfl, ?_⟩)
  rw [eA]
  refine q _ ?_ ?_ (JK_SK (SK_tr (SK_tr (SK_zi (by omega)) (SK_zi (by omega))) (SK_zi (by omega))))
  · rw [zi_c (by decide), zi_c (by decide), zi_c (by decide)]
  · rw [zi_c (by decide), zi_c (by decide), zi_c (by decide)]
theorem df_137 (hg : ip_gk (lg_tbl, vwCl, Gr)) {X : zS} {Dn : Nat} {x4 : Int32} (hD : Dn < 800) (hi : i < 4000) (hX : ¬ X.1 3 5 = 0) {Q : zS → Prop} (q : ∀ A, A.1 3 5 = X.1 3 5 → A.1 3 6 = X.1 3 6 → JK X A 0 0 0 → Q A) : zW l Gr (zc n w) 168 M_Reader_readDef (d + 8) 137 [some (.ref 66), none, some (.int (nI Dn)), some (.int (nI i)), none, none] [.int x4] X (fun v S' => v = none ∧ Q S') := by
  refine b_Reader_readDef_137 hg (w_expectN (d := d + 1) hg hX) (fun A eA => ?_)
  rw [eA]
  exact df_145 hg hD hi hX q
theorem df_133 (hg : ip_gk (lg_tbl, vwCl, Gr)) {X : zS} {Dn : Nat} (hD : Dn < 800) (hi : i < 4000) (hX : ¬ X.1 3 5 = 0) {Q : zS → Prop} (q : ∀ A, A.1 3 5 = X.1 3 5 → A.1 3 6 = X.1 3 6 → JK X A 0 0 0 → Q A) : zW l Gr (zc n w) 168 M_Reader_readDef (d + 8) 133 [some (.ref 66), none, some (.int (nI Dn)), some (.int (nI i)), none, none] [] X (fun v S' => v = none ∧ Q S') := by
  refine b_Reader_readDef_133 hg (w_takeSortN (d := d + 1) hg hX) (fun v A eA => ?_)
  rw [eA]
  exact df_137 hg hD hi hX q
theorem df_127 (hg : ip_gk (lg_tbl, vwCl, Gr)) {X : zS} {Dn : Nat} (hD : Dn < 800) (hi : i < 4000) (hX : ¬ X.1 3 5 = 0) {Q : zS → Prop} (q : ∀ A, A.1 3 5 = X.1 3 5 → A.1 3 6 = X.1 3 6 → JK X A 0 0 0 → Q A) : zW l Gr (zc n w) 168 M_Reader_readDef (d + 8) 127 [some (.ref 66), none, some (.int (nI Dn)), some (.int (nI i)), none, none] [] X (fun v S' => v = none ∧ Q S') := by
  refine b_Reader_readDef_127 hg (w_expectN (d := d + 1) hg hX) (fun A eA => ?_)
  rw [eA]
  exact df_133 hg hD hi hX q
theorem df_121 (hg : ip_gk (lg_tbl, vwCl, Gr)) {X : zS} {Dn : Nat} (hD : Dn < 800) (hi : i < 4000) (hX : ¬ X.1 3 5 = 0) {Q : zS → Prop} (q : ∀ A, A.1 3 5 = X.1 3 5 → A.1 3 6 = X.1 3 6 → JK X A 0 0 0 → Q A) : zW l Gr (zc n w) 168 M_Reader_readDef (d + 8) 121 [some (.ref 66), none, some (.int (nI Dn)), some (.int (nI i)), none, none] [] X (fun v S' => v = none ∧ Q S') := by
  refine b_Reader_readDef_121 hg (w_expectN (d := d + 1) hg hX) (fun A eA => ?_)
  rw [eA]
  exact df_127 hg hD hi hX q
end DEL
