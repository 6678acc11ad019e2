/-! mux and or as programs; the reference's sum -/
def muxP (c x y : Int32) : CP Int32 := cOp false x y fun a => cOp true c a fun b => cOp false y b fun r => cRet r
def orP (x y : Int32) : CP Int32 := cOp true (x ^^^ 1) (y ^^^ 1) fun v => cRet (v ^^^ 1)
section MSU
variable {l : Launch} {Gr : zG} {n w : Nat} {d : Nat} {S A T B : zS} {c x y : Int32} {X Y : Nat → Int32} {Q : Option Value → zS → Prop} {m : Nat}
theorem BU_mux : BU (muxP c x y) := BU_op (fun _ => BU_op (fun _ => BU_op (fun _ => BU_ret)))
theorem BU_or : BU (orP x y) := BU_op (fun _ => BU_ret)
theorem W_mux (hc : VC T c) (hx : VC T x) (hy : VC T y) : mWF VC (muxP c x y) T := mWF_op (fun _ => BU_op (fun _ => BU_op (fun _ => BU_ret))) hx hy (fun _ _ m1 ha => mWF_op (fun _ => BU_op (fun _ => BU_ret)) (VC_m m1 hc) ha (fun _ _ m2 hb => mWF_op (fun _ => BU_ret) (VC_m m2 (VC_m m1 hy)) hb (fun _ _ _ hr => mWF_ret hr)))
theorem W_or (hx : VC T x) (hy : VC T y) : mWF VC (orP x y) T := mWF_op (fun _ => BU_ret) (VC_f hx) (VC_f hy) (fun _ _ _ h => mWF_ret (VC_f h))
theorem w_muxK (hg : ip_gk (lg_tbl, vwCl, Gr)) (hK : KEc S A) (hG : GK S) : zMi l Gr (zc n w) 168 M_Logic_mux (d + 3) [.ref 82, .int c, .int x, .int y] A (fun v A' => v = ((muxP c x y).1 S).1 ∧ KEc ((muxP c x y).1 S).2 A' ∧ KX A A') := zMi_imp (w_mux hg (GK_KE hK hG)) (fun v A' h => by
  have e := KEc_run (BU_mux (c := c) (x := x) (y := y)) hK
  have q := k_run (BU_mux (c := c) (x := x) (y := y)) (GK_KE hK hG)
  rw [h.2]
  exact ⟨h.1.trans e.1, e.2, q.2.2⟩)
theorem w_orK (hg : ip_gk (lg_tbl, vwCl, Gr)) (hK : KEc S A) (hG : GK S) : zMi l Gr (zc n w) 168 M_Logic_or (d + 3) [.ref 82, .int x, .int y] A (fun v A' => v = ((orP x y).1 S).1 ∧ KEc ((orP x y).1 S).2 A' ∧ KX A A') := zMi_imp (w_or hg (GK_KE hK hG)) (fun v A' h => by
  have e := KEc_run (BU_or (x := x) (y := y)) hK
  have q := k_run (BU_or (x := x) (y := y)) (GK_KE hK hG)
  rw [h.2]
  exact ⟨h.1.trans e.1, e.2, q.2.2⟩)
theorem wm_muxK (hg : ip_gk (lg_tbl, vwCl, Gr)) (hK : MEc T B) (hW : MW T) (hc : VC T c) (hx : VC T x) (hy : VC T y) : zMi l Gr (zc n w) 168 M_Mo_mux (d + 3) [.ref 105, .int c, .int x, .int y] B (fun v B' => v = ((muxP c x y).2 T).1 ∧ MEc ((muxP c x y).2 T).2 B' ∧ KXm B B') := by
  have o1 := m_op (b := false) hW hx hy
  have o2 := m_op (b := true) (MOK_W o1.1) (VC_m o1.1 hc) o1.2.1
  have o3 := m_op (b := false) (MOK_W o2.1) (VC_m o2.1 (VC_m o1.1 hy)) o2.2.1
  refine e_Mo_mux (b_Mo_mux_0 hg (wm_xorK hg hK hW hx hy) (fun v B1 h1 => ?_))
  obtain ⟨e1, K1, F1⟩ := h1
  subst e1
  refine b_Mo_mux_10 hg (wm_andK hg K1 (MOK_W o1.1) (VC_m o1.1 hc) o1.2.1) (fun v B2 h2 => ?_)
  obtain ⟨e2, K2, F2⟩ := h2
  subst e2
  refine b_Mo_mux_13 hg (wm_xorK hg K2 (MOK_W o2.1) (VC_m o2.1 (VC_m o1.1 hy)) o2.2.1) (fun v B3 h3 => b_Mo_mux_16 ⟨_, rfl, h3.1, h3.2.1, KXm_tr F1 (KXm_tr F2 h3.2.2)⟩)
theorem ms_sum (hg : ip_gk (lg_tbl, vwCl, Gr)) (hm : m ≤ 40) : ∀ (k i : Nat) (c : Int32) (T B : zS), i + k = m → MEc T B → MW T → VC T c → (∀ j, VC T (X j)) → (∀ j, VC T (Y j)) → (∀ j, i ≤ j → j < m → B.1 123 j = X j) → (∀ j, i ≤ j → j < m → B.1 124 j = Y j) → (∀ B', MEc ((sumP X Y k i c).2 T).2 B' → FM (fun c' j => c' = 125 ∧ i ≤ j ∧ j < m) B B' → (∀ j, j < k → B'.1 125 (i + j) = ((sumP X Y k i c).2 T).1.getD j (-2)) → Q none B') → zW l Gr (zc n w) 168 M_Mo_sum (d + 3) 5 [some (.ref 105), some (.int (nI m)), none, some (.int c), some (.int (nI i)), none, none] [] B Q
  | 0, i, c, T, B, h, hK, hW, hc, vX, vY, hX, hY, hQ => b_Mo_sum_5 (fun _ => b_Mo_sum_87 (hQ B hK FM_rfl (fun j hj => absurd hj (by omega)))) (fun q => absurd (nI_le (a := m) (b := i) (by omega) (by omega)) q)
  | 1, i, c, T, B, h, hK, hW, hc, vX, vY, hX, hY, hQ => by
    have eY : B.1 124 ((nI i).toNatClampNeg) = Y i := by rw [nI_clamp (by omega)]; exact hY i (by omega) (by omega)
    have inA : vp_in (nI i) 40 := vp_in_nI (by omega) (by omega)
    have o1 := m_op (b := false) hW (vY i) hc
    have o2 := m_op (b := false) (MOK_W o1.1) (VC_m o1.1 (vX i)) o1.2.1
    refine b_Mo_sum_5 (fun q => absurd q (nI_ge (a := i) (b := m) (by omega) (by omega))) (fun _ => b_Mo_sum_11 hg inA (by rw [eY]; exact wm_xorK hg hK hW (vY i) hc) (fun t B1 h1 => ?_))
    obtain ⟨et, K1, F1⟩ := h1
    subst et
    have eX : B1.1 123 ((nI i).toNatClampNeg) = X i := by rw [nI_clamp (by omega), F1.1 123 i (by omega) (by omega)]; exact hX i (by omega) (by omega)
    refine b_Mo_sum_23 hg inA (by rw [eX]; exact wm_xorK hg K1 (MOK_W o1.1) (VC_m o1.1 (vX i)) o1.2.1) (fun o B2 h2 => b_Mo_sum_44 inA (fun _ => b_Mo_sum_81 ?_) (fun q => absurd (by rw [show m = i + 1 by omega, nI_pred]; exact Int32.le_refl _) q))
    obtain ⟨eo, K2, F2⟩ := h2
    subst eo
    rw [nI_clamp (by omega), show nI i + Int32.ofInt 1 = nI (i + 1) from nI_add i 1]
    refine ms_sum hg hm 0 (i + 1) c _ _ (by omega) (MEc_zi K2 (by omega)) (MOK_W o2.1) (VC_m o2.1 (VC_m o1.1 hc)) (fun j => VC_m o2.1 (VC_m o1.1 (vX j))) (fun j => VC_m o2.1 (VC_m o1.1 (vY j))) (fun j q1 q2 => absurd q1 (by omega)) (fun j q1 q2 => absurd q1 (by omega)) (fun B' e1 e2 e3 => hQ B' e1 ?_ (fun j hj => ?_))
    · exact FM_tr (FM_x (P := fun _ _ => False) (KXm_tr F1 F2)) (FM_tr (FM_zi (P := fun c' j => c' = 125 ∧ j = i) ⟨rfl, rfl⟩) e2 (P'' := fun c' j => c' = 125 ∧ i ≤ j ∧ j < m) (by omega) (by omega)) (fun _ _ q => q.elim) (by omega)
    · rw [show j = 0 by omega, e2.1 125 (i + 0) (by omega) (by omega) (by omega)]
      exact zi_v
  | k + 2, i, c, T, B, h, hK, hW, hc, vX, vY, hX, hY, hQ => by
    have eY : B.1 124 ((nI i).toNatClampNeg) = Y i := by rw [nI_clamp (by omega)]; exact hY i (by omega) (by omega)
    have inA : vp_in (nI i) 40 := vp_in_nI (by omega) (by omega)
    have o1 := m_op (b := false) hW (vY i) hc
    have o2 := m_op (b := false) (MOK_W o1.1) (VC_m o1.1 (vX i)) o1.2.1
    have m2 := MOK_tr o1.1 o2.1
    have o3 := m_op (b := false) (MOK_W o2.1) (VC_m m2 (vX i)) (VC_m m2 hc)
    have o4 := m_op (b := true) (MOK_W o3.1) o3.2.1 (VC_m o3.1 (VC_m o2.1 o1.2.1))
    have m4 := MOK_tr m2 (MOK_tr o3.1 o4.1)
    have o5 := m_op (b := false) (MOK_W o4.1) (VC_m m4 hc) o4.2.1
    have m5 := MOK_tr m4 o5.1
    refine b_Mo_sum_5 (fun q => absurd q (nI_ge (a := i) (b := m) (by omega) (by omega))) (fun _ => b_Mo_sum_11 hg inA (by rw [eY]; exact wm_xorK hg hK hW (vY i) hc) (fun t B1 h1 => ?_))
    obtain ⟨et, K1, F1⟩ := h1
    subst et
    have eX : B1.1 123 ((nI i).toNatClampNeg) = X i := by rw [nI_clamp (by omega), F1.1 123 i (by omega) (by omega)]; exact hX i (by omega) (by omega)
    refine b_Mo_sum_23 hg inA (by rw [eX]; exact wm_xorK hg K1 (MOK_W o1.1) (VC_m o1.1 (vX i)) o1.2.1) (fun o B2 h2 => b_Mo_sum_44 inA (fun q => absurd q (by rw [show m = (i + k + 1) + 1 by omega, nI_pred]; exact nI_ge (by omega) (by omega))) (fun _ => ?_))
    obtain ⟨eo, K2, F2⟩ := h2
    subst eo
    rw [nI_clamp (by omega)]
    refine b_Mo_sum_53 hg inA (by
      rw [show (zi B2 125 i (mOp false (mOp false T (Y i) c).2 (X i) (mOp false T (Y i) c).1).1).1 123 ((nI i).toNatClampNeg) = X i by
        rw [nI_clamp (by omega), zi_c (by decide), F2.1 123 i (by omega) (by omega), F1.1 123 i (by omega) (by omega)]
        exact hX i (by omega) (by omega)]
      exact wm_xorK hg (MEc_zi K2 (by omega)) (MOK_W o2.1) (VC_m m2 (vX i)) (VC_m m2 hc)) (fun u B4 h4 => ?_)
    obtain ⟨eu, K4, F4⟩ := h4
    subst eu
    refine b_Mo_sum_65 hg (wm_andK hg K4 (MOK_W o3.1) o3.2.1 (VC_m o3.1 (VC_m o2.1 o1.2.1))) (fun v B5 h5 => ?_)
    obtain ⟨ev, K5, F5⟩ := h5
    subst ev
    refine b_Mo_sum_77 hg (wm_xorK hg K5 (MOK_W o4.1) (VC_m m4 hc) o4.2.1) (fun c2 B6 h6 => ?_)
    obtain ⟨ec, K6, F6⟩ := h6
    subst ec
    refine b_Mo_sum_80 (b_Mo_sum_81 ?_)
    rw [show nI i + Int32.ofInt 1 = nI (i + 1) from nI_add i 1]
    have f : FM (fun c' j => c' = 125 ∧ j = i) B B6 := FM_tr (FM_x (P := fun _ _ => False) (KXm_tr F1 F2)) (FM_tr (FM_zi (P := fun c' j => c' = 125 ∧ j = i) ⟨rfl, rfl⟩) (FM_x (P := fun _ _ => False) (KXm_tr F4 (KXm_tr F5 F6))) (P'' := fun c' j => c' = 125 ∧ j = i) (fun _ _ q => q) (fun _ _ q => q.elim)) (fun _ _ q => q.elim) (fun _ _ q => q)
    have ev : B6.1 125 i = (mOp false (mOp false T (Y i) c).2 (X i) (mOp false T (Y i) c).1).1 := by
      rw [(KXm_tr F4 (KXm_tr F5 F6)).1 125 i (by omega) (by omega)]
      exact zi_v
    refine ms_sum hg hm (k + 1) (i + 1) _ _ _ (by omega) K6 (MOK_W o5.1) o5.2.1 (fun j => VC_m m5 (vX j)) (fun j => VC_m m5 (vY j)) (fun j q1 q2 => (f.1 123 j (by omega) (by omega) (by omega)).trans (hX j (by omega) q2)) (fun j q1 q2 => (f.1 124 j (by omega) (by omega) (by omega)).trans (hY j (by omega) q2)) (fun B' e1 e2 e3 => hQ B' e1 ?_ (fun j hj => ?_))
    · exact FM_tr f e2 (by omega) (by omega)
    · cases j with
      | zero => exact (e2.1 125 (i + 0) (by omega) (by omega) (by omega)).trans ev
      | succ j => exact (congrArg (B'.1 125) (by omega)).trans (e3 j (by omega))
theorem wm_sum (hg : ip_gk (lg_tbl, vwCl, Gr)) (hm : m ≤ 40) (hK : MEc T B) (hW : MW T) (hc : VC T c) (vX : ∀ j, VC T (X j)) (vY : ∀ j, VC T (Y j)) (hX : ∀ j, j < m → B.1 123 j = X j) (hY : ∀ j, j < m → B.1 124 j = Y j) : zMv l Gr (zc n w) 168 M_Mo_sum (d + 3) [.ref 105, .int (nI m), .int c] B (fun B' => MEc ((sumP X Y m 0 c).2 T).2 B' ∧ FM (fun c' j => c' = 125 ∧ j < m) B B' ∧ ∀ j, j < m → B'.1 125 j = ((sumP X Y m 0 c).2 T).1.getD j (-2)) :=
  e_Mo_sum (b_Mo_sum_0 (ms_sum hg hm m 0 c T B (by omega) hK hW hc vX vY (fun j _ q => hX j q) (fun j _ q => hY j q) (fun B' e1 e2 e3 => ⟨rfl, e1, FM_mo e2 (by omega), fun j hj => by
    have := e3 j hj
    rw [Nat.zero_add] at this
    exact this⟩)))
end MSU
