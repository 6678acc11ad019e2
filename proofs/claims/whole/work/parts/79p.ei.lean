/-! the ends of BLOCKs on the reference's side -/
def eI (T : zS) (s e j : Nat) : zS := mP (zi (mP T j 37 (nI s) 0 (T.1 81 s)) 80 (if e = 0 then s else e) (nI j)) (j + 1) 21 0 0 (T.1 81 s)
def cst (T : zS) (dp : Nat) : Nat := (T.1 88 (dp - 1)).toNatClampNeg
def cel (T : zS) (dp : Nat) : Nat := (T.1 80 (cst T dp)).toNatClampNeg
abbrev pop (T : zS) (dp : Nat) : zS := zi (zi T 73 26 (nI (dp - 1))) 73 19 (nI (dp - 1))
def mEi : Nat → zS → Nat → Nat → zS
  | 0, T, _, _ => T
  | c + 1, T, j, dp => mEi c (eI (pop T dp) (cst T dp) (cel T dp) j) (j + 2) (dp - 1)
def CHN (c : Nat) (T : zS) (j dp : Nat) : Prop := c ≤ dp ∧ (∀ a, a < c → T.1 87 (dp - 1 - a) = 12 ∧ ∃ s e, T.1 88 (dp - 1 - a) = nI s ∧ s < j ∧ T.1 78 s = 35 ∧ T.1 80 s = nI e ∧ 0 < e ∧ e < j ∧ T.1 78 e = 36) ∧ (c = dp ∨ ¬ T.1 87 (dp - 1 - c) = 12)
section EI
variable {l : Launch} {Gr : zG} {n w : Nat} {d : Nat} {b : Nat → Int32} {t p i ws dp p' i' q j m N X u k D D' vw iw s e : Nat} {S S' S'' T T' T'' : zS}
theorem mP_o {j0 a : Nat} {x1 x2 x3 x4 : Int32} (h : a ≠ j0) : (mP T j0 x1 x2 x3 x4).1 78 a = T.1 78 a ∧ (mP T j0 x1 x2 x3 x4).1 79 a = T.1 79 a ∧ (mP T j0 x1 x2 x3 x4).1 80 a = T.1 80 a ∧ (mP T j0 x1 x2 x3 x4).1 81 a = T.1 81 a := by
  unfold mP
  refine ⟨?_, ?_, ?_, ?_⟩
  · rw [zi_c (by decide), zi_c (by decide), zi_c (by decide), zi_c (by decide), zi_k h]
  · rw [zi_c (by decide), zi_c (by decide), zi_c (by decide), zi_k h, zi_c (by decide)]
  · rw [zi_c (by decide), zi_c (by decide), zi_k h, zi_c (by decide), zi_c (by decide)]
  · rw [zi_c (by decide), zi_k h, zi_c (by decide), zi_c (by decide), zi_c (by decide)]
theorem wm_endIf (hg : ip_gk (lg_tbl, vwCl, Gr)) (hs : s < j) (he : e < j) (h80 : T.1 80 s = nI e) (h13 : T.1 73 13 = nI j) (hj : j + 2 ≤ 12000) : zMv l Gr (zc n w) 168 M_Mo_endIf (d + 1) [.ref 105, .int (nI s)] T (fun A => A = eI T s e j) := by
  have hin : vp_in (nI s) 12000 := vp_in_nI (by omega) (by omega)
  refine e_Mo_endIf (b_Mo_endIf_0 hg hin (wm_put h13 (by omega)) (fun v A hv => ?_))
  rw [nI_clamp (by omega)] at hv
  rw [hv.1, hv.2]
  obtain ⟨A, eA⟩ : ∃ A, A = mP T j 37 (nI s) 0 (T.1 81 s) := ⟨_, rfl⟩
  rw [← eA]
  have a80 : A.1 80 s = nI e := by rw [eA, (mP_o (by omega)).2.2.1]; exact h80
  have a81 : A.1 81 s = T.1 81 s := by rw [eA, (mP_o (by omega)).2.2.2]
  have a13 : A.1 73 13 = nI (j + 1) := by rw [eA]; exact mP_13
  have fin : ∀ r, r < j → r = (if e = 0 then s else e) → zW l Gr (zc n w) 168 M_Mo_endIf (d + 1) 46 [some (.ref 105), some (.int (nI s)), none] [] (zi A 80 r (nI j)) (fun v S' => v = none ∧ S' = eI T s e j) := fun r hr er => by
    refine b_Mo_endIf_46 hg hin (wm_put (j := j + 1) (by rw [zi_c (by decide)]; exact a13) (by omega)) (fun v B hv => b_Mo_endIf_60 ⟨rfl, ?_⟩)
    rw [hv.2, nI_clamp (by omega), zi_c (by decide), a81, er, eA]
    rfl
  refine b_Mo_endIf_14 hin (fun z => ?_) (fun z => ?_)
  · rw [nI_clamp (by omega), a80] at z
    have e0 : ¬ e = 0 := fun y => z (by rw [y]; rfl)
    refine b_Mo_endIf_34 hin (by rw [nI_clamp (by omega), a80]; exact vp_in_nI (by omega) (by omega)) ?_
    rw [nI_clamp (by omega), a80, nI_clamp (by omega)]
    exact fin e he (by rw [if_neg e0])
  · rw [nI_clamp (by omega), a80] at z
    have e0 : e = 0 := (nI_eq (a := e) (b := 0) (by omega) (by omega)).mp z
    refine b_Mo_endIf_24 hin ?_
    rw [nI_clamp (by omega)]
    exact fin s hs (by rw [if_pos e0])
theorem eI_c {c a : Nat} (h : c ≠ 73 ∧ c ≠ 78 ∧ c ≠ 79 ∧ c ≠ 80 ∧ c ≠ 81) : (eI T s e j).1 c a = T.1 c a := by
  unfold eI
  rw [mP_c h, zi_c (by omega), mP_c h]
theorem eI_k {a : Nat} (h : a ≠ 13) : (eI T s e j).1 73 a = T.1 73 a := by
  unfold eI
  rw [mP_k h, zi_c (by decide), mP_k h]
theorem eI_13 : (eI T s e j).1 73 13 = nI (j + 2) := mP_13
theorem eI_o {a : Nat} (h : a < j) : (eI T s e j).1 78 a = T.1 78 a ∧ (eI T s e j).1 79 a = T.1 79 a ∧ (a ≠ (if e = 0 then s else e) → (eI T s e j).1 80 a = T.1 80 a) ∧ (eI T s e j).1 81 a = T.1 81 a := by
  unfold eI
  have x := mP_o (T := zi (mP T j 37 (nI s) 0 (T.1 81 s)) 80 (if e = 0 then s else e) (nI j)) (j0 := j + 1) (x1 := 21) (x2 := 0) (x3 := 0) (x4 := T.1 81 s) (a := a) (by omega)
  have y := mP_o (T := T) (j0 := j) (x1 := 37) (x2 := nI s) (x3 := 0) (x4 := T.1 81 s) (a := a) (by omega)
  refine ⟨?_, ?_, fun hn => ?_, ?_⟩
  · rw [x.1, zi_c (by decide), y.1]
  · rw [x.2.1, zi_c (by decide), y.2.1]
  · rw [x.2.2.1, zi_k hn, y.2.2.1]
  · rw [x.2.2.2, zi_c (by decide), y.2.2.2]
theorem eI_2 : (eI T s e j).2 = T.2 := rfl
/-- the row that it patches, and its own rows -/
theorem eI_r (hs : s < j) (he : e < j) : (eI T s e j).1 80 (if e = 0 then s else e) = nI j ∧ (eI T s e j).1 78 j = 37 ∧ (eI T s e j).1 79 j = nI s ∧ (eI T s e j).1 78 (j + 1) = 21 := by
  have hr : (if e = 0 then s else e) < j := by split <;> omega
  have y := mP_r (T := T) (j0 := j) (x1 := 37) (x2 := nI s) (x3 := 0) (x4 := T.1 81 s)
  unfold eI
  refine ⟨?_, ?_, ?_, mP_r.1⟩
  · rw [(mP_o (by omega)).2.2.1]; exact zi_v
  · rw [(mP_o (by omega)).1, zi_c (by decide)]; exact y.1
  · rw [(mP_o (by omega)).2.1, zi_c (by decide)]; exact y.2.1
theorem eI_MC (h : MC b t q j dp m N T) : MC b t q (j + 2) dp m N (eI T s e j) := MC_mP (MC_o (MC_mP h) (by omega))
theorem eI_PK {r : Nat} (hr : r ≤ j) (hq : r ≤ (if e = 0 then s else e)) : PK b t T (eI T s e j) r k := PK_tr (PK_tr (PK_mP hr) (PK_zi (by omega))) (PK_mP (by omega))
theorem eI_P3 : P3 T (eI T s e j) := ⟨eI_k (by decide), eI_k (by decide), eI_k (by decide)⟩
theorem CHN_eI {c : Nat} (h : CHN (c + 1) T j dp) (hj : j ≤ 12000) : CHN c (eI (pop T dp) (cst T dp) (cel T dp) j) (j + 2) (dp - 1) := by
  obtain ⟨h1, h2, h3⟩ := h
  obtain ⟨-, s, e, e1, hs, k1, e2, he0, he, k2⟩ := h2 0 (by omega)
  rw [Nat.sub_zero] at e1
  have cs : cst T dp = s := by unfold cst; rw [e1, nI_clamp (by omega)]
  have ce : cel T dp = e := by unfold cel; rw [cs, e2, nI_clamp (by omega)]
  rw [cs, ce]
  have pc : ∀ c a, c ≠ 73 → (pop T dp).1 c a = T.1 c a := fun c a hc => by rw [pop, zi_c hc, zi_c hc]
  refine ⟨by omega, fun a ha => ?_, ?_⟩
  · obtain ⟨f1, s', e', f2, hs', k1', f3, he0', he', k2'⟩ := h2 (a + 1) (by omega)
    rw [show dp - 1 - (a + 1) = dp - 1 - 1 - a by omega] at f1 f2
    have o1 := eI_o (T := pop T dp) (s := s) (e := e) (j := j) hs'
    have o2 := eI_o (T := pop T dp) (s := s) (e := e) (j := j) he'
    refine ⟨by rw [eI_c (by decide), pc _ _ (by decide)]; exact f1, s', e', by rw [eI_c (by decide), pc _ _ (by decide)]; exact f2, by omega, by rw [o1.1, pc _ _ (by decide)]; exact k1', ?_, he0', by omega, by rw [o2.1, pc _ _ (by decide)]; exact k2'⟩
    rw [o1.2.2.1 ?_, pc _ _ (by decide)]
    · exact f3
    · rw [if_neg (by omega)]
      intro y
      rw [y, k2] at k1'
      exact absurd k1' (by decide)
  · rcases h3 with h3 | h3
    · left; omega
    · right
      rw [eI_c (by decide), pc _ _ (by decide), show dp - 1 - 1 - c = dp - 1 - (c + 1) by omega]
      exact h3
/-- behind an if's end: the ifs behind else that end with it -/
theorem wx_ei (hg : ip_gk (lg_tbl, vwCl, Gr)) {Q : Option Value → zS → Prop} : ∀ (c : Nat) (T : zS) (j dp : Nat), T.1 73 13 = nI j → T.1 73 26 = nI dp → T.1 73 19 = nI dp → CHN c T j dp → j + 2 * c ≤ 12000 → dp ≤ 31 → Q none (mEi c T j dp) → zW l Gr (zc n w) 168 M_Mo_closeBlock (d + 5) 220 [some (.ref 105), none, none, none] [] T Q
  | 0, T, j, dp, h13, h26, h19, hc, hj, hd, k => by
    refine b_Mo_closeBlock_220 (fun _ => b_Mo_closeBlock_279 k) (fun z => ?_)
    have hpos : 0 < dp := Nat.pos_of_ne_zero (fun y => z (by rw [h26, y]; exact Int32.le_refl _))
    have e1 : T.1 73 26 - 1 = nI (dp - 1) := by rw [h26]; exact pk_sub (a := dp) (b := 1) (by omega)
    refine b_Mo_closeBlock_227 (by rw [e1]; exact vp_in_nI (by omega) (by omega)) (fun _ => b_Mo_closeBlock_279 k) (fun y => ?_)
    rw [e1, nI_clamp (by omega)] at y
    rcases hc.2.2 with x | x
    · omega
    · rw [Nat.sub_zero] at x
      exact absurd y x
  | c + 1, T, j, dp, h13, h26, h19, hc, hj, hd, k => by
    have hc' := CHN_eI hc (by omega)
    obtain ⟨h1, h2, h3⟩ := hc
    obtain ⟨k12, s, e, e1, hs, k1, e2, he0, he, k2⟩ := h2 0 (by omega)
    rw [Nat.sub_zero] at e1 k12
    have cs : cst T dp = s := by unfold cst; rw [e1, nI_clamp (by omega)]
    have ce : cel T dp = e := by unfold cel; rw [cs, e2, nI_clamp (by omega)]
    have f1 : T.1 73 26 - 1 = nI (dp - 1) := by rw [h26]; exact pk_sub (a := dp) (b := 1) (by omega)
    have f2 : T.1 73 19 - 1 = nI (dp - 1) := by rw [h19]; exact pk_sub (a := dp) (b := 1) (by omega)
    have hin : vp_in (T.1 73 26 - 1) 70 := by rw [f1]; exact vp_in_nI (by omega) (by omega)
    refine b_Mo_closeBlock_220 (fun z => ?_) (fun z => b_Mo_closeBlock_227 hin (fun y => ?_) (fun y => b_Mo_closeBlock_243 (R := fun A => A = eI (pop T dp) s e j) hg hin ?_ (fun A eA => b_Mo_closeBlock_276 ?_)))
    · rw [h26] at z
      exact absurd z (nI_nle (by omega) (by omega))
    · rw [f1, nI_clamp (by omega)] at y
      exact absurd k12 y
    · rw [f1, f2, nI_clamp (by omega), e1]
      refine wm_endIf hg hs he ?_ ?_ (by omega)
      · rw [zi_c (by decide), zi_c (by decide)]; exact e2
      · rw [zi_k (by decide), zi_k (by decide)]; exact h13
    · rw [eA]
      have g : eI (pop T dp) s e j = eI (pop T dp) (cst T dp) (cel T dp) j := by rw [cs, ce]
      rw [g]
      refine wx_ei hg c _ (j + 2) (dp - 1) eI_13 ?_ ?_ hc' (by omega) (by omega) k
      · rw [eI_k (by decide), pop, zi_k (by decide)]; exact zi_v
      · rw [eI_k (by decide), pop]; exact zi_v
/-! one call of the reference's loop -/
theorem px_var (hg : ip_gk (lg_tbl, vwCl, Gr)) (ho : ip_old (lg_tbl, vwCl, Gr)) (htx : ∀ k, k < t → tx (b k)) (h : HS b t q j dp N vw iw p T) (hd : dp ≤ 31) (hk : tk b t p = 202) (hm : zMv l Gr (zc n w) 168 M_Mo_varStatement (d + 13) [.ref 105, .int (nI p)] (zi T 73 6 (nI p)) (fun A => A = T')) : PX l Gr n w d T T' := fun Q kk => by
  have hpt : p < t := tk_pos (by rw [hk]; decide)
  refine pg hg ho htx h.1.1 h.2.1 h.1.2.1 (by omega) (fun y => by omega) (fun y => by omega) (fun y => by rw [hk] at y; exact absurd y (by decide)) (fun _ => b_Mo_program_127 hg hm (fun A e => by rw [e]; exact b_Mo_program_132 (b_Mo_program_251 kk))) (fun y => by rw [hk] at y; exact absurd y (by decide)) (fun y => by rw [hk] at y; exact absurd y (by decide)) (fun y => by rw [hk] at y; exact absurd y (by decide)) (fun y => by rw [hk] at y; exact absurd y (by decide)) (fun y => by rw [hk] at y; exact absurd y (by decide)) (fun _ _ y => absurd hk y)
theorem px_if (hg : ip_gk (lg_tbl, vwCl, Gr)) (ho : ip_old (lg_tbl, vwCl, Gr)) (htx : ∀ k, k < t → tx (b k)) (h : HS b t q j dp N vw iw p T) (hd : dp ≤ 31) (hk : tk b t p = 206) (hm : zMv l Gr (zc n w) 168 M_Mo_ifStatement (d + 13) [.ref 105, .int (nI p)] (zi T 73 6 (nI p)) (fun A => A = T')) : PX l Gr n w d T T' := fun Q kk => by
  have hpt : p < t := tk_pos (by rw [hk]; decide)
  refine pg hg ho htx h.1.1 h.2.1 h.1.2.1 (by omega) (fun y => by omega) (fun y => by omega) (fun y => by rw [hk] at y; exact absurd y (by decide)) (fun y => by rw [hk] at y; exact absurd y (by decide)) (fun _ => b_Mo_program_145 hg hm (fun A e => by rw [e]; exact b_Mo_program_150 (b_Mo_program_251 kk))) (fun y => by rw [hk] at y; exact absurd y (by decide)) (fun y => by rw [hk] at y; exact absurd y (by decide)) (fun y => by rw [hk] at y; exact absurd y (by decide)) (fun y => by rw [hk] at y; exact absurd y (by decide)) (fun _ _ _ y => absurd hk y)
theorem px_for (hg : ip_gk (lg_tbl, vwCl, Gr)) (ho : ip_old (lg_tbl, vwCl, Gr)) (htx : ∀ k, k < t → tx (b k)) (h : HS b t q j dp N vw iw p T) (hd : dp ≤ 31) (hk : tk b t p = 204) (hm : zMv l Gr (zc n w) 168 M_Mo_forStatement (d + 13) [.ref 105, .int (nI p)] (zi T 73 6 (nI p)) (fun A => A = T')) : PX l Gr n w d T T' := fun Q kk => by
  have hpt : p < t := tk_pos (by rw [hk]; decide)
  refine pg hg ho htx h.1.1 h.2.1 h.1.2.1 (by omega) (fun y => by omega) (fun y => by omega) (fun y => by rw [hk] at y; exact absurd y (by decide)) (fun y => by rw [hk] at y; exact absurd y (by decide)) (fun y => by rw [hk] at y; exact absurd y (by decide)) (fun _ => b_Mo_program_163 hg hm (fun A e => by rw [e]; exact b_Mo_program_168 (b_Mo_program_251 kk))) (fun y => by rw [hk] at y; exact absurd y (by decide)) (fun y => by rw [hk] at y; exact absurd y (by decide)) (fun y => by rw [hk] at y; exact absurd y (by decide)) (fun _ _ _ _ y => absurd hk y)
theorem px_cl (hg : ip_gk (lg_tbl, vwCl, Gr)) (ho : ip_old (lg_tbl, vwCl, Gr)) (htx : ∀ k, k < t → tx (b k)) (h : HS b t q j dp N vw iw p T) (hd : dp ≤ 31) (h0 : 0 < dp) (hk : tk b t p = 125) (hm : zMv l Gr (zc n w) 168 M_Mo_closeBlock (d + 13) [.ref 105] (zi T 73 6 (nI p)) (fun A => A = T')) : PX l Gr n w d T T' := fun Q kk => by
  have hpt : p < t := tk_pos (by rw [hk]; decide)
  refine pg hg ho htx h.1.1 h.2.1 h.1.2.1 (by omega) (fun y => by omega) (fun y => by omega) (fun _ _ => b_Mo_program_110 hg hm (fun A e => by rw [e]; exact b_Mo_program_114 (b_Mo_program_251 kk))) (fun y => by rw [hk] at y; exact absurd y (by decide)) (fun y => by rw [hk] at y; exact absurd y (by decide)) (fun y => by rw [hk] at y; exact absurd y (by decide)) (fun y => by rw [hk] at y; exact absurd y (by decide)) (fun y => by rw [hk] at y; exact absurd y (by decide)) (fun y => by rw [hk] at y; exact absurd y (by decide)) (fun _ y => absurd ⟨hk, by omega⟩ y)
theorem px_asg (hg : ip_gk (lg_tbl, vwCl, Gr)) (ho : ip_old (lg_tbl, vwCl, Gr)) (htx : ∀ k, k < t → tx (b k)) (h : HS b t q j dp N vw iw p T) (hd : dp ≤ 31) (hpt : p < t) (n1 : ¬ (tk b t p = 125 ∧ ¬ dp = 0)) (n2 : ¬ tk b t p = 202) (n3 : ¬ tk b t p = 206) (n4 : ¬ tk b t p = 204) (n5 : ¬ (dp = 0 ∧ (tk b t p = 200 ∨ tk b t p = 203 ∨ tk b t p = 208))) (hm : zMv l Gr (zc n w) 168 M_Mo_assignment (d + 13) [.ref 105, .int (nI p)] (zi T 73 6 (nI p)) (fun A => A = T')) : PX l Gr n w d T T' := fun Q kk => by
  refine pg hg ho htx h.1.1 h.2.1 h.1.2.1 (by omega) (fun y => by omega) (fun y => by omega) (fun y1 y2 => absurd ⟨y1, y2⟩ n1) (fun y => absurd y n2) (fun y => absurd y n3) (fun y => absurd y n4) (fun y1 y2 => absurd ⟨y2, Or.inl y1⟩ n5) (fun y1 y2 => absurd ⟨y2, Or.inr (Or.inl y1)⟩ n5) (fun y1 y2 => absurd ⟨y2, Or.inr (Or.inr y1)⟩ n5) (fun _ _ _ _ _ _ => b_Mo_program_246 hg hm (fun A e => by rw [e]; exact b_Mo_program_251 kk))
/-- what can't begin a statement: FAULT 1 there -/
theorem pz_asg (hg : ip_gk (lg_tbl, vwCl, Gr)) (ho : ip_old (lg_tbl, vwCl, Gr)) (htx : ∀ k, k < t → tx (b k)) (h : HS b t q j dp N vw iw p T) (hd : dp ≤ 31) (n0 : p = t → ¬ dp = 0) (n1 : ¬ (tk b t p = 125 ∧ ¬ dp = 0)) (n2 : ¬ tk b t p = 202) (n3 : ¬ tk b t p = 206) (n4 : ¬ tk b t p = 204) (n5 : ¬ (dp = 0 ∧ (tk b t p = 200 ∨ tk b t p = 203 ∨ tk b t p = 208))) (n6 : ¬ tk b t p = 1) : PZ l Gr n w d b t T 1 (nI p) := by
  have h1 := MC_p h.1.1 h.2.1
  have hp := MC_p2 h1
  by_cases hpt : p < t
  · obtain ⟨Y, eY⟩ : ∃ Y, Y = mF (zi (zi T 73 6 (nI p)) 73 6 (nI p)) 1 (nI p) := ⟨_, rfl⟩
    have y7 : Y.1 73 7 = 1 := by rw [eY]; exact mF_f.1
    refine PZ_of (T' := Y) (by decide) (px_asg hg ho htx h hd hpt n1 n2 n3 n4 n5 (e_Mo_assignment (b_Mo_assignment_0 hg (wm_nameF hg ho htx h1.1 (by rw [← h.2.1]; exact gp_gp (MC_p2 h.1.1)) (MC_f h1) (Or.inl n6)) (fun v A hv => ?_)))) y7 (by rw [eY]; exact mF_f.2) (by rw [eY]; exact PK_tr (PK_tr (PK_zi (by omega)) (PK_zi (by omega))) PK_mF)
    rw [if_neg n6] at hv
    rw [hv.2, ← eY]
    refine b_Mo_assignment_4 (fun y => ?_) (fun _ => b_Mo_assignment_12 ⟨rfl, rfl⟩)
    rw [y7] at y
    exact absurd y (by decide)
  · have e : p = t := by omega
    have tk0 := tk_end (b := b) hpt
    refine ⟨mF (zi T 73 6 (nI p)) 1 (nI p), fun Q q => pg hg ho htx h.1.1 h.2.1 h.1.2.1 (by omega) (fun _ y => absurd y (n0 e)) (fun _ _ => q) (fun y1 y2 => absurd ⟨y1, y2⟩ n1) (fun y => absurd y n2) (fun y => absurd y n3) (fun y => absurd y n4) (fun y1 y2 => absurd ⟨y2, Or.inl y1⟩ n5) (fun y1 y2 => absurd ⟨y2, Or.inr (Or.inl y1)⟩ n5) (fun y1 y2 => absurd ⟨y2, Or.inr (Or.inr y1)⟩ n5) (fun y => absurd y hpt), mF_f.1, mF_f.2, PK_tr (PK_zi (by omega)) PK_mF⟩
end EI
