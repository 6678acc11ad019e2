/-! the whole PROGRAM is read alike by both -/
section PRG
variable {l : Launch} {Gr : zG} {n w : Nat} {d : Nat} {b : Nat → Int32} {t p i ws dp p' i' q j j' m N X u k D D' vw iw iw' s e : Nat} {S S' S'' T T' T'' : zS} {ni ni' : Nat → Nat → Prop}
theorem gJ_bnd {vw' Dl : Nat} (h : gJ n w S T ni Dl D vw vw' p i i' j j' iw iw') : i < i' ∧ j < j' ∧ iw ≤ iw' ∧ Dl ≤ D := by
  rcases h with ⟨h, e, eD⟩ | ⟨⟨_, _, _, _, _, _, _, _, _, _, _, e1, _, _, e2, e3, _⟩, _, eD⟩ | ⟨⟨_, _, _, _, _, _, _, _, eD, _, _, _, _, _, g, e1, e2, _⟩, e, _⟩ | ⟨⟨_, _, _, g, e1, e2, _⟩, e, _, eD⟩
  · have := gT_bnd h
    omega
  · omega
  · have := gX_bnd g
    omega
  · have := gX_bnd g
    omega
theorem gJ_cong {vw' Dl : Nat} (hni : ∀ v p, ni v p → ni' v p) (h : gJ n w S T ni Dl D vw vw' p i i' j j' iw iw') (hS : JK S S' i' D iw') (hT : cgU T T' 0 j') : gJ n w S' T' ni' Dl D vw vw' p i i' j j' iw iw' := by
  rcases h with ⟨h, e⟩ | ⟨h, e⟩ | ⟨h, e⟩ | ⟨h, e⟩
  · exact Or.inl ⟨gT_cong hni (Nat.le_refl _) hS.2.1 h (fun a _ q2 => hS.1 a (Nat.zero_le _) q2) ⟨fun a _ q2 => hT.1 a (Nat.zero_le _) q2, fun a _ q2 => hT.2 a (Nat.zero_le _) q2⟩, e⟩
  · obtain ⟨d, v, s, r, z, o, hd, hv, hdc, hr, hz, hiw, h256, ho, e1, e2, f1, f2, f3, g1, g2, g3, g4, g5, g6, g7, hrow⟩ := h
    have s0 := hS.1 i (Nat.zero_le _) (by omega)
    have t0 := hT.1 j (Nat.zero_le _) (by omega)
    have t1 := hT.1 (j + 1) (Nat.zero_le _) (by omega)
    refine Or.inr (Or.inl ⟨⟨d, v, s, r, z, o, hd, hni _ _ hv, dcl_cong hdc hd hS.2.1, hr, hz, hiw, h256, ho, e1, e2, s0.1.trans f1, s0.2.1.trans f2, s0.2.2.1.trans f3, t0.1.trans g1, t0.2.1.trans g2, t0.2.2.2.1.trans g3, t1.1.trans g4, t1.2.1.trans g5, t1.2.2.1.trans g6, t1.2.2.2.2.trans g7, fun a q1 q2 => ?_⟩, e⟩)
    have y := hS.2.2.1 a q2
    exact ⟨y.1.trans (hrow a q1 q2).1, y.2.1.trans (hrow a q1 q2).2⟩
  · obtain ⟨d, v, s, r, k, pe, i1, j1, hd, hv, hdc, h15, hr, hp, g, e1, e2, f1, f2, f3, f4, f5, f6, f7, g1, g2, g3, g4, g5, g6, g7, g8, g9⟩ := h
    have bx := gX_bnd g
    have s0 := hS.1 i (Nat.zero_le _) (by omega)
    have s1 := hS.1 i1 (Nat.zero_le _) (by omega)
    have t0 := hT.1 j (Nat.zero_le _) (by omega)
    have t1 := hT.1 (j + 1 + k) (Nat.zero_le _) (by omega)
    have t2 := hT.1 j1 (Nat.zero_le _) (by omega)
    have n0 := hS.2.1 d (by omega)
    refine Or.inr (Or.inr (Or.inl ⟨⟨d, v, s, r, k, pe, i1, j1, hd, hni _ _ hv, dcl_cong hdc (by omega) hS.2.1, n0.2.2.2.2.2.2.trans h15, hr, fun a ha => ?_, gX_cong hni g (fun a _ q2 => hS.1 a (Nat.zero_le _) (by omega)) (fun a _ q2 => hT.1 a (Nat.zero_le _) (by omega)), e1, e2, s0.1.trans f1, s0.2.1.trans f2, s0.2.2.1.trans f3, s0.2.2.2.trans f4, s1.1.trans f5, s1.2.1.trans f6, s1.2.2.1.trans f7, t0.1.trans g1, t0.2.1.trans g2, t0.2.2.1.trans g3, t0.2.2.2.1.trans g4, t0.2.2.2.2.trans g5, t1.1.trans g6, t2.1.trans g7, t2.2.1.trans g8, t2.2.2.1.trans g9⟩, e⟩))
    obtain ⟨x, s', r', y1, y2, y3, y4, y5, y6, y7, y8, y9, y10⟩ := hp a ha
    have sa := hS.1 (i + 1 + a) (Nat.zero_le _) (by omega)
    have ta := hT.1 (j + 1 + a) (Nat.zero_le _) (by omega)
    exact ⟨x, s', r', hni _ _ y1, y2, dcl_cong y3 (by omega) hS.2.1, sa.1.trans y4, sa.2.1.trans y5, sa.2.2.1.trans y6, ta.1.trans y7, ta.2.1.trans y8, ta.2.2.1.trans y9, ta.2.2.2.1.trans y10⟩
  · obtain ⟨pe, i1, j1, g, e1, e2, f1, f2, f3, f4, g1, g2, g3, g4⟩ := h
    have bx := gX_bnd g
    have s0 := hS.1 i (Nat.zero_le _) (by omega)
    have s1 := hS.1 i1 (Nat.zero_le _) (by omega)
    have t0 := hT.1 j (Nat.zero_le _) (by omega)
    have t1 := hT.1 j1 (Nat.zero_le _) (by omega)
    have t2 := hT.1 (j1 + 1) (Nat.zero_le _) (by omega)
    exact Or.inr (Or.inr (Or.inr ⟨⟨pe, i1, j1, gX_cong hni g (fun a _ q2 => hS.1 a (Nat.zero_le _) (by omega)) (fun a _ q2 => hT.1 a (Nat.zero_le _) (by omega)), e1, e2, s0.1.trans f1, s0.2.2.1.trans f2, s1.1.trans f3, s1.2.2.1.trans f4, t0.1.trans g1, t0.2.2.2.1.trans g2, t1.1.trans g3, t2.1.trans g4⟩, e⟩))
theorem gP_cong (hni : ∀ v p, ni v p → ni' v p) : ∀ k i j iw vw D p, gP n w S T ni k i j iw vw D p → JK S S' i D iw → cgU T T' 0 j → gP n w S' T' ni' k i j iw vw D p
  | 0, i, j, iw, _, _, _, h, _, _ => h
  | k + 1, i, j, iw, vw, D, p', h, hS, hT => by
    obtain ⟨i0, j0, iw0, vw0, D0, p, h0, h1, h2, h3, h4, h5, h6⟩ := h
    have bd := gJ_bnd h1
    exact ⟨i0, j0, iw0, vw0, D0, p, gP_cong hni k _ _ _ _ _ _ h0 (JK_le hS (by omega) (by omega) (by omega)) ⟨fun a q1 q2 => hT.1 a q1 (by omega), fun a q1 q2 => hT.2 a q1 (by omega)⟩, gJ_cong hni h1 hS hT, Hx_0 h2 hS.1 (Nat.le_refl _), h3, h4, by rw [(hS.1 i0 (Nat.zero_le _) (by omega)).1]; exact h5, by rw [(hS.1 (i - 1) (Nat.zero_le _) (by omega)).1]; exact h6⟩
/-- some ITEMs are read by both -/
def GR (l : Launch) (Gr : zG) (n w d : Nat) (b : Nat → Int32) (t : Nat) (S0 S : zS) (p i D vw iw : Nat) : Prop := CN b t p i D vw S ∧ Ic n w S iw ∧ JK S0 S 0 0 0 ∧ ∀ T0, HS b t 0 0 0 0 0 0 (gp b t 0) T0 → ∃ T q j N k, PX l Gr n w d T0 T ∧ HS b t q j 0 N vw iw p T ∧ PK b t T0 T 0 0 ∧ gP n w S T (nid b t T) k i j iw vw D p
theorem GR_s (h : GR l Gr n w d b t S S' p i D vw iw) {p1 i1 D1 vw1 iw1 : Nat} (h1 : JOK l Gr n w d b t S' S'' p i D vw iw p1 i1 D1 vw1 iw1) : GR l Gr n w d b t S S'' p1 i1 D1 vw1 iw1 := by
  obtain ⟨cn, ic, jk, r⟩ := h
  obtain ⟨cn1, ic1, jk1, hp1, hD1, hi1, hw1, r1⟩ := h1
  refine ⟨cn1, ic1, JK_tr jk (JK_0 jk1), fun T0 hH => ?_⟩
  obtain ⟨T, q, j, N, k, px, hs, pk, g⟩ := r T0 hH
  obtain ⟨T1, q1, j1, N1, px1, hs1, pk1, g1⟩ := r1 T q j N hs
  exact ⟨T1, q1, j1, N1, k + 1, PX_tr px px1, hs1, PK_tr pk (PK_0 pk1), i, j, iw, vw, D, p, gP_cong pk1.2.2.2.2.2.2 k i j iw vw D p g jk1 ⟨fun a q1 q2 => pk1.1 a q1 q2, fun a q1 q2 => pk1.2.1 a q2⟩, g1.1, hi1.2.2, hp1, cn1.2.2.2.2.2.1, g1.2⟩
theorem tk_ne0 (htx : ∀ k, k < t → tx (b k)) (hp : p < t) : ¬ tk b t p = 0 := by
  intro y
  rcases tk_all htx (Nat.le_of_lt hp) with ⟨y1, -, -, -⟩ | ⟨-, -, -, e1, -⟩ | ⟨-, -, -, e1, -, -⟩ | ⟨-, hn', el, e1, a1, a2⟩
  · omega
  · rw [y] at e1
    exact absurd e1 (by decide)
  · rw [y] at e1
    rcases wk_cases (wd b p (we b t p)) with w1 | ⟨k, hk, w1⟩
    · rw [w1] at e1; exact absurd e1 (by decide)
    · rw [w1] at e1
      exact absurd ((nI_eq (a := 0) (b := 200 + k) (by omega) (by omega)).mp e1) (by omega)
  · by_cases z : pr (lk b t p) (lk b t (p + 1))
    · have := (a2 z).1
      rw [y] at this
      exact absurd this (by decide)
    · have e := (a1 z).1
      rw [y] at e
      have := htx p hp
      rw [← e] at this
      unfold tx at this
      exact absurd this (by decide)
/-- what reading ends with -/
def PROK (l : Launch) (Gr : zG) (n w d : Nat) (b : Nat → Int32) (t : Nat) (S S' : zS) : Prop := ∃ i D vw iw, CN b t t i D vw S' ∧ Ic n w S' iw ∧ JK S S' 0 0 0 ∧ ∀ T0, HS b t 0 0 0 0 0 0 (gp b t 0) T0 → ∃ T j N k, (∀ Q : Option Value → zS → Prop, Q none T → zW l Gr (zc n w) 168 M_Mo_program (d + 14) 42 pL [] T0 Q) ∧ HS b t t j 0 N vw iw t T ∧ PK b t T0 T 0 0 ∧ gP n w S' T (nid b t T) k i j iw vw D t
def PRBD (l : Launch) (Gr : zG) (n w d : Nat) (b : Nat → Int32) (t : Nat) (S S' : zS) : Prop := ∃ f pl, JB S S' f pl ∧ ∀ T0, HS b t 0 0 0 0 0 0 (gp b t 0) T0 → PZ l Gr n w d b t T0 f pl
theorem wx_pr (hg : ip_gk (lg_tbl, vwCl, Gr)) (ho : ip_old (lg_tbl, vwCl, Gr)) (hn : 2 ≤ n ∧ n ≤ 16) (hw : 1 ≤ w ∧ w ≤ 32) (htx : ∀ k, k < t → tx (b k)) {S0 : zS} (hD : 300 ≤ D) :
    ∀ (m : Nat) (S : zS) (p i Dn vw iw c : Nat), t - p ≤ m → c ≤ p → GR l Gr n w d b t S0 S p i Dn vw iw → zW l Gr (zc n w) 168 M_Reader_readProgram (D + 1) 20 [some (.ref 66), some (.int (nI t)), some (.int (nI c))] [] S (fun v S' => v = none ∧ (PROK l Gr n w d b t S0 S' ∨ PRBD l Gr n w d b t S0 S')) := by
  obtain ⟨e, rfl⟩ : ∃ e, D = e + 300 := ⟨D - 300, by omega⟩
  have ka := (k_all (l := l) (Gr := Gr) (n := n) (w := w) (d := d) hg ho hw.2 htx 30 0 rfl).1
  have ks := (k_st (l := l) (Gr := Gr) (n := n) (w := w) (d := d) hg ho hw.2 htx 30 0 rfl).1
  -- at the text's end
  have fin : ∀ (S : zS) (p i Dn vw iw : Nat), ¬ p < t → GR l Gr n w d b t S0 S p i Dn vw iw → PROK l Gr n w d b t S0 S := fun S p i Dn vw iw hpt h => by
    have hp := CS_p h.1.1
    have ept : p = t := by omega
    subst ept
    refine ⟨i, Dn, vw, iw, h.1, h.2.1, h.2.2.1, fun T0 hH => ?_⟩
    obtain ⟨T, q, j, N, k, px, hs, pk, g⟩ := h.2.2.2 T0 hH
    have hqp : q ≤ p := MC_p2 hs.1.1
    have tk0 := tk_end (b := b) hpt
    have pk1 : ∀ a, PK b p T (zi T 73 6 (nI p)) a 0 := fun a => PK_zi (by omega)
    refine ⟨zi T 73 6 (nI p), j, N, k, fun Q q => px Q (pg hg ho htx hs.1.1 hs.2.1 hs.1.2.1 (by omega) (fun _ _ => q) (fun _ y => absurd rfl y) (fun y => ?_) (fun y => ?_) (fun y => ?_) (fun y => ?_) (fun y => ?_) (fun y => ?_) (fun y => ?_) (fun y => absurd y hpt)), ⟨⟨MC_p hs.1.1 hs.2.1, by rw [zi_k (by decide)]; exact hs.1.2.1, by rw [zi_k (by decide)]; exact hs.1.2.2.1, by rw [zi_k (by decide)]; exact hs.1.2.2.2⟩, gp_wb h.1.1.2.2.2.2.2.2.2.2.1, bud_le hs.2.2 hqp⟩, PK_tr pk (pk1 0), gP_cong (pk1 0).2.2.2.2.2.2 k i j iw vw Dn p g JK_rfl ⟨fun a q1 q2 => (pk1 j).1 a q1 q2, fun a q1 q2 => (pk1 j).2.1 a q2⟩⟩
    all_goals (rw [tk0] at y; exact absurd y (by decide))
  have fault : ∀ (S S' : zS) (p i Dn vw iw c : Nat) (f pl : Int32), GR l Gr n w d b t S0 S p i Dn vw iw → JBD l Gr n w d b t S S' p vw iw f pl → zW l Gr (zc n w) 168 M_Reader_readProgram (e + 300 + 1) 20 [some (.ref 66), some (.int (nI t)), some (.int (nI c))] [] S' (fun v S' => v = none ∧ (PROK l Gr n w d b t S0 S' ∨ PRBD l Gr n w d b t S0 S')) := fun S S' p i Dn vw iw c f pl h hB => by
    have f1 : ¬ S'.1 3 5 = 0 := by rw [hB.1.2.1]; exact nz hB.1.1
    have res : PRBD l Gr n w d b t S0 S' := ⟨f, pl, JB_tr h.2.2.1 hB.1, fun T0 hH => by
      obtain ⟨T, q, j, N, k, px, hs, pk, g⟩ := h.2.2.2 T0 hH
      exact PZ_tr px pk (hB.2 T q j N hs)⟩
    exact b_Reader_readProgram_20 (fun _ => b_Reader_readProgram_120 ⟨rfl, Or.inr res⟩) (fun _ => b_Reader_readProgram_25 (fun _ => b_Reader_readProgram_120 ⟨rfl, Or.inr res⟩) (fun y => absurd y f1))
  intro m
  induction m with
  | zero =>
    intro S p i Dn vw iw c hm hc h
    have c0 := h.1.1
    have hp := CS_p c0
    have ht := CS_t c0
    have tk0 := tk_end (b := b) (t := t) (p := p) (by omega)
    refine b_Reader_readProgram_20 (fun z => absurd z (nI_nlt (by omega) (by omega))) (fun _ => b_Reader_readProgram_25 (fun y => absurd (CS_f c0) y) (fun _ => b_Reader_readProgram_35 (fun _ => b_Reader_readProgram_120 ⟨rfl, Or.inl (fin S p i Dn vw iw (by omega) h)⟩) (fun y => ?_)))
    rw [CS_k c0] at y
    exact absurd tk0 y
  | succ m ih =>
    intro S p i Dn vw iw c hm hc h
    have cn := h.1
    have c0 := cn.1
    have hp := CS_p c0
    have ht := CS_t c0
    have next : ∀ S', JR l Gr n w d b t S S' p i Dn vw iw → zW l Gr (zc n w) 168 M_Reader_readProgram (e + 300 + 1) 114 [some (.ref 66), some (.int (nI t)), some (.int (nI c))] [] S' (fun v S' => v = none ∧ (PROK l Gr n w d b t S0 S' ∨ PRBD l Gr n w d b t S0 S')) := fun S' hJ => by
      refine b_Reader_readProgram_114 ?_
      rw [show nI c + Int32.ofInt 1 = nI (c + 1) from nI_1 c]
      rcases hJ with ⟨p', i', D', vw', iw', hJ⟩ | ⟨f, pl, hJ⟩
      · have := hJ.2.2.2.1
        exact ih S' p' i' D' vw' iw' (c + 1) (by omega) (by omega) (GR_s h hJ)
      · exact fault S S' p i Dn vw iw (c + 1) f pl h hJ
    refine b_Reader_readProgram_20 (fun z => absurd z (nI_nlt (by omega) (by omega))) (fun _ => b_Reader_readProgram_25 (fun y => absurd (CS_f c0) y) (fun _ => b_Reader_readProgram_35 (fun y => ?_) (fun y => ?_)))
    · rw [CS_k c0] at y
      refine b_Reader_readProgram_120 ⟨rfl, Or.inl (fin S p i Dn vw iw (fun hpt => ?_) h)⟩
      exact tk_ne0 htx hpt y
    · rw [CS_k c0] at y
      refine b_Reader_readProgram_45 (fun z => ?_) (fun z => ?_) (fun z => ?_) (fun z1 z2 z3 => ?_)
      · rw [CS_k c0] at z
        exact b_Reader_readProgram_88 hg (w_inp (e := e + 291) hg ho hn hw htx cn h.2.1 z) (fun S1 h1 => b_Reader_readProgram_92 (next S1 h1))
      · rw [CS_k c0] at z
        exact b_Reader_readProgram_95 hg (w_def (e := e + 292) hg ho htx (ka _ (by omega)) cn h.2.1 z) (fun S1 h1 => b_Reader_readProgram_99 (next S1 h1))
      · rw [CS_k c0] at z
        exact b_Reader_readProgram_102 hg (w_out (D := e + 299) hg ho htx (by omega) (ka _ (by omega)) cn h.2.1 z) (fun S1 h1 => b_Reader_readProgram_106 (next S1 h1))
      · rw [CS_k c0] at z1 z2 z3
        have hpt : p < t := tk_pos y
        exact b_Reader_readProgram_109 hg (ks (e + 300) (by omega) S p i Dn vw cn ⟨fun x => x.2 rfl, fun x => x.2.elim z1 (fun x => x.elim z2 z3), fun x => by omega⟩) (fun S1 h1 => next S1 (sr_jr h.2.1 h1))
end PRG
