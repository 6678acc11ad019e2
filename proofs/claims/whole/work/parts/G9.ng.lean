/-! mean() beside build: every statement -/
def MSp (l l2 : Launch) (Gr Gr2 : zG) (n w d d2 : Nat) (inb : Nat → Nat) (wb D N M mf : Nat) (S T : zS) (i0 p0 vw vw' : Nat) (Av Av' : Nat → Nat → Prop) (i i' j j' nv : Nat) (vb vq vt : Nat → Nat) (u sd : Nat) : Prop :=
  ∃ (nv' : Nat) (vb' vq' vt' : Nat → Nat), nv ≤ nv' ∧ (∀ t, t < nv → vb' t = vb t ∧ vq' t = vq t ∧ vt' t = vt t) ∧ (vw ≤ vw' ∧ (vw ≤ 256 → vw' ≤ 256)) ∧ (∀ e a, Av e a → Av' e a) ∧ (VLc w nv' vb' vq' vt' Av' S ∧ AvO S Av' 0 ∧ DEn w D N M S T mf Av' p0 ∧ ∀ e a, Av' e a → S.1 11 e = 2 → a < j') ∧ HU S i0 i' u sd 0 ∧
  ∀ (act : Prop) st B C, MYS inb wb w act Av S T vw nv vb vq vt u sd st B C → OZ l l2 Gr Gr2 n w d d2 act j u nv (MYS inb wb w act Av' S T vw' nv' vb' vq' vt' u sd) j j' st B C
def MSQ (l l2 : Launch) (Gr Gr2 : zG) (n w d d2 : Nat) (inb : Nat → Nat) (wb D N M mf : Nat) (S T : zS) (i0 i0' p0 : Nat) (G : aSG) : Prop := ∀ (lo hi vw vw' : Nat) (Av Av' : Nat → Nat → Prop) (p i i' j j' nv : Nat) (vb vq vt : Nat → Nat) (u sd : Nat), G lo hi vw vw' Av Av' p i i' j j' → AvO S Av 0 → DEn w D N M S T mf Av p0 → (∀ e a, Av e a → S.1 11 e = 2 → a < j) → VLc w nv vb vq vt Av S → HU S i0 i u sd 0 → u ≤ sd → i' ≤ i0' → j' ≤ M → vw ≤ 256 → MSp l l2 Gr Gr2 n w d d2 inb wb D N M mf S T i0 p0 vw vw' Av Av' i i' j j' nv vb vq vt u sd
section MQA
variable {l l2 : Launch} {Gr Gr2 : zG} {n w d d2 : Nat} {inb : Nat → Nat} {wb D N M mf : Nat} {act : Prop} {S T B C : zS} {i0 i0' p0 p0' lo hi vw vw' : Nat} {Av Av' : Nat → Nat → Prop} {p i i' hi' j j' j1 j2 nv r ia ib ja jb s z rf cd hrb hr st : Nat} {vb vq vt : Nat → Nat} {u sd : Nat} {os : List Nat} {cs : Nat → Prop}
/-- an EXPR of a statement -/
theorem ox_st (hg : ip_gk (lg_tbl, vwCl, Gr)) (hg2 : ip_gk (lg_tbl, vwCl, Gr2)) (hw1 : 1 ≤ w) (hw : w ≤ 32) (hi : ∀ t, inb t = 0 ∨ inb t = 1) (bx : BCX D N M mf S T i0 i0' p0 p0') (av : AvO S Av 0) (dn : DEn w D N M S T mf Av p0) {tt : Nat} (hu : HU S i0 ia u s (tt : Int)) (an : aX w D Av r S T ia ib ja jb) (hib : ib ≤ i0') (hjb : jb ≤ M) (h0 : MXS inb wb w act Av S T 0 0 0 tt st B C) : OX l l2 Gr Gr2 n w d d2 inb wb act Av S T 0 0 0 r ja jb tt st B C := by
  obtain ⟨cx, hD, nu, hmf, hx, hp', hpp, hiN, -⟩ := bx
  obtain ⟨nn, an⟩ := an
  refine ox_all hg hg2 hw1 hw hi cx hD mf nn Av 0 0 0 r ia ib ja jb tt st (u + tt) ((p0' - p0) / 2) p0 B C an av dn (by omega) (by omega) (by omega) (fun x q1 q2 => ?_) (by omega) hjb h0
  have := hx x (by have := hu.1; omega) (by omega)
  rw [hs_add hu.1 x q1, hu.2.1] at this
  omega
theorem oz_np (hg : ip_gk (lg_tbl, vwCl, Gr)) (hg2 : ip_gk (lg_tbl, vwCl, Gr2)) {j0 : Nat} (cx : CTX S T N M) (z1 : MXS inb wb w act Av S T 0 0 0 0 st B C ∧ MYe w Av S vw nv vb vq vt u sd B) (hz : z = 22 ∨ z = 23 ∨ z = 24 ∨ z = 27 ∨ z = 28 ∨ z = 31 ∨ z = 33 ∨ z = 38 ∨ z = 41) (t1 : T.1 78 j = nI z) (hj : j < M) : OZ l l2 Gr Gr2 n w d d2 act j0 u nv (fun st B C => MXS inb wb w act Av S T 0 0 0 0 st B C ∧ MYe w Av S vw nv vb vq vt u sd B) j (j + 1) st B C := oz_nop (Z := fun st B C => MXS inb wb w act Av S T 0 0 0 0 st B C ∧ MYe w Av S vw nv vb vq vt u sd B) hg hg2 cx z1.1.1 z1.1.2.1 z1 hz t1 hj
theorem OU_ps (hg : ip_gk (lg_tbl, vwCl, Gr)) (hg2 : ip_gk (lg_tbl, vwCl, Gr2)) (cx : CTX S T N M) (hj : j1 < M) (hT1 : T.1 78 j1 = 41) (h1 : OU l l2 Gr Gr2 n w d d2 inb wb act Av S T rf cd hrb os cs j j1 hr st B C) : OU l l2 Gr Gr2 n w d d2 inb wb act Av S T rf cd hrb os cs j (j1 + 1) hr st B C := OU_seq h1 (fun B1 C1 st1 x1 o1 => by
  have hM := cx.2.2.2
  refine Or.inl ⟨B1, C1, st1, Nat.le_refl _, mg_s (z := 41) hg hj hM (x1.1.1.1.trans cx.2.2.1) x1.1.2.1 ((x1.1.1.2.1 78 j1 (by omega)).trans hT1) (by omega) (by omega) (ms_nn (z := 41) (d := d + 5) (by omega) ((x1.1.1.2.1 78 j1 (by omega)).trans hT1) (by omega)), fun t => ⟨?_, FC_rfl⟩, FM_rfl, Ex_rfl, x1, o1⟩
  have hC := x1.2.1 t
  exact nst_1 (z := 41) hg2 cx hC hj hT1 (by omega) (by omega) (mt_nop (z := 41) (by omega) ((hC.1.2.1 78 j1 (by omega)).trans hT1) (by omega)))
theorem MSp_same (hl : VLc w nv vb vq vt Av S) (av : AvO S Av 0) (dn : DEn w D N M S T mf Av p0) (hj : ∀ e a, Av e a → S.1 11 e = 2 → a < j') (hu : HU S i0 i' u sd 0) (h : ∀ (act : Prop) st B C, MYS inb wb w act Av S T vw nv vb vq vt u sd st B C → OZ l l2 Gr Gr2 n w d d2 act j u nv (MYS inb wb w act Av S T vw nv vb vq vt u sd) j j' st B C) : MSp l l2 Gr Gr2 n w d d2 inb wb D N M mf S T i0 p0 vw vw Av Av i i' j j' nv vb vq vt u sd :=
  ⟨nv, vb, vq, vt, Nat.le_refl _, fun _ _ => ⟨rfl, rfl, rfl⟩, ⟨Nat.le_refl _, fun q => q⟩, fun _ _ q => q, ⟨hl, av, dn, hj⟩, hu, h⟩
theorem ml_all {G : aSG} (hG : MSQ l l2 Gr Gr2 n w d d2 inb wb D N M mf S T i0 i0' p0 G) (bd : ∀ lo hi v v' A A' p i i' j j', G lo hi v v' A A' p i i' j j' → i < i' ∧ j < j') : ∀ (k lo hi vw vw' : Nat) (Av Av' : Nat → Nat → Prop) (i i' j j' nv : Nat) (vb vq vt : Nat → Nat) (u sd : Nat), aL G lo hi k vw vw' Av Av' i i' j j' → AvO S Av 0 → DEn w D N M S T mf Av p0 → (∀ e a, Av e a → S.1 11 e = 2 → a < j) → VLc w nv vb vq vt Av S → HU S i0 i u sd 0 → u ≤ sd → i' ≤ i0' → j' ≤ M → vw ≤ 256 → MSp l l2 Gr Gr2 n w d d2 inb wb D N M mf S T i0 p0 vw vw' Av Av' i i' j j' nv vb vq vt u sd
  | 0, lo, hi, vw, vw', Av, Av', i, i', j, j', nv, vb, vq, vt, u, sd, h, av, dn, hj, hl, hu, _, _, _, _ => by
    obtain ⟨e1, e2, e3, e4⟩ := h
    subst e1 e2 e3 e4
    exact MSp_same hl av dn hj hu (fun act st B C h0 => Or.inl ⟨B, C, st, Nat.le_refl _, MGo_rfl, fun _ => ⟨NGo_rfl, FCs_rfl⟩, SFm_rfl, Ex_rfl, h0⟩)
  | k + 1, lo, hi, vw, vw', Av, Av', i, i', j, j', nv, vb, vq, vt, u, sd, h, av, dn, hj, hl, hu, hus, hi', hj', hvw => by
    obtain ⟨i1, j1, p1, vw1, A1, h1, h2⟩ := h
    have b1 := aL_bnd bd _ _ _ _ _ _ _ _ _ h1
    have b2 := bd _ _ _ _ _ _ _ _ _ _ _ h2
    obtain ⟨nv1, vb1, vq1, vt1, n1, x1, ⟨v1, v1'⟩, s1, ⟨c1, a1, d1, k1⟩, u1, T1⟩ := ml_all hG bd k lo hi vw vw1 Av A1 i i1 j j1 nv vb vq vt u sd h1 av dn hj hl hu hus (by omega) (by omega) hvw
    obtain ⟨nv2, vb2, vq2, vt2, n2, x2, ⟨v2, v2'⟩, s2, c2, u2, T2⟩ := hG lo hi vw1 vw' A1 Av' p1 i1 i' j1 j' nv1 vb1 vq1 vt1 u sd h2 a1 d1 k1 c1 u1 hus hi' hj' (v1' hvw)
    refine ⟨nv2, vb2, vq2, vt2, by omega, fun t ht => ⟨(x2 t (by omega)).1.trans (x1 t ht).1, (x2 t (by omega)).2.1.trans (x1 t ht).2.1, (x2 t (by omega)).2.2.trans (x1 t ht).2.2⟩, ⟨by omega, fun q => v2' (v1' q)⟩, fun e a q => s2 e a (s1 e a q), c2, u2, fun act st B C h0 => ?_⟩
    exact OZ_seq (T1 act st B C h0) (fun B1 C1 st1 _ z1 => OZ_mo (T2 act st1 B1 C1 z1) b1.2 (Nat.le_refl _) n1 (fun _ _ _ q => q))
theorem mq_set (hg : ip_gk (lg_tbl, vwCl, Gr)) (hg2 : ip_gk (lg_tbl, vwCl, Gr2)) (hw1 : 1 ≤ w) (hw : w ≤ 32) (hi : ∀ t, inb t = 0 ∨ inb t = 1) (bx : BCX D N M mf S T i0 i0' p0 p0') (an : aSet w D S T lo hi' Av p i i' j j') (av : AvO S Av 0) (dn : DEn w D N M S T mf Av p0) (hj : ∀ e a, Av e a → S.1 11 e = 2 → a < j) (hl : VLc w nv vb vq vt Av S) (hu : HU S i0 i u sd 0) (hus : u ≤ sd) (hii : i' ≤ i0') (hj' : j' ≤ M) : MSp l l2 Gr Gr2 n w d d2 inb wb D N M mf S T i0 p0 vw vw Av Av i i' j j' nv vb vq vt u sd := by
  obtain ⟨e, a, r, i1, j1, ra, q1, q2, hx, e1, e2, f1, f2, f3, f4, f5, f6, t1, t2, t3, t4, t5⟩ := an
  have bxx := aX_bnd hx
  obtain ⟨hs30, hu30⟩ := s_30 bx hu hus f1 (by omega)
  have hN := bx.1.2.1
  have hiN := bx.2.2.2.2.2.2.2.1
  have h2 : HU S i0 (i + 2) u sd 0 := HU_e (HU_1 (HU_1 hu f1 (by decide : E2 (1 : Int32).toInt = 0)) f3 (by decide : E2 (9 : Int32).toInt = 0)) (by omega)
  have h3 := HU_x hN bx.2.1 h2 hx (by omega)
  have h4 : HU S i0 i' u sd 0 := by rw [e1]; exact HU_e (HU_1 h3 f5 (by decide : E2 (10 : Int32).toInt = -1)) (by omega)
  refine MSp_same hl av dn (fun e a q1 q2 => by have := hj e a q1 q2; omega) h4 (fun act st B C h0 => ?_)
  subst e1 e2
  refine OZ_seq (oz_beg hg hg2 hw1 hw hi bx.1 h0 t1 t2 (by omega) (by omega)) (fun B1 C1 st1 _ z1 => OZ_seq (oz_np (z := 31) hg hg2 bx.1 z1 (by omega) t3 (by omega)) (fun B2 C2 st2 _ z2 => OZ_seq (oz_u (ox_st (tt := 0) hg hg2 hw1 hw hi bx av dn h2 hx (by omega) (by omega) z2.1) z2.2) (fun B3 C3 st3 _ z3 => os_set hg hg2 hw1 hw hi bx.1 z3.1 z3.2.1 z3.2.2 hl ra t4 t5 (by omega) (by omega))))
theorem mq_var (hg : ip_gk (lg_tbl, vwCl, Gr)) (hg2 : ip_gk (lg_tbl, vwCl, Gr2)) (hw1 : 1 ≤ w) (hw : w ≤ 32) (hi : ∀ t, inb t = 0 ∨ inb t = 1) (bx : BCX D N M mf S T i0 i0' p0 p0') (an : aVar w D S T vw vw' Av Av' p i i' j j') (av : AvO S Av 0) (dn : DEn w D N M S T mf Av p0) (hj : ∀ e a, Av e a → S.1 11 e = 2 → a < j) (hl : VLc w nv vb vq vt Av S) (hu : HU S i0 i u sd 0) (hus : u ≤ sd) (hii : i' ≤ i0') (hj' : j' ≤ M) : MSp l l2 Gr Gr2 n w d d2 inb wb D N M mf S T i0 p0 vw vw' Av Av' i i' j j' nv vb vq vt u sd := by
  obtain ⟨e, r, z, j1, q1, q2, q3, q4, q5, q6, q7, q8, q9, q10, q11, e2, f1, f2, f3, t1, t2, t3, t4, t5, t6, t7, hx⟩ := an
  have ii : i + 2 < i' := by
    rcases hx with ⟨i1, hx, ei, -⟩ | ⟨ej, ei, -⟩
    · have := aX_bnd hx
      omega
    · omega
  have jj : j < j' := by
    rcases hx with ⟨i1, hx, ei, -⟩ | ⟨ej, ei, -⟩
    · have := aX_bnd hx
      omega
    · omega
  obtain ⟨hs30, hu30⟩ := s_30 bx hu hus f1 (by omega)
  have hN := bx.1.2.1
  have hiN := bx.2.2.2.2.2.2.2.1
  have h2 : HU S i0 (i + 2) u sd 0 := HU_e (HU_1 (HU_1 hu f1 (by decide : E2 (1 : Int32).toInt = 0)) f3 (by decide : E2 (6 : Int32).toInt = 0)) (by omega)
  have h4 : HU S i0 i' u sd 0 := by
    rcases hx with ⟨i1, hx, ei, g1, -⟩ | ⟨ej, ei, g1, -⟩
    · rw [ei]
      exact HU_e (HU_1 (HU_x hN bx.2.1 h2 hx (by omega)) g1 (by decide : E2 (7 : Int32).toInt = -1)) (by omega)
    · rw [ei]
      exact HU_e (HU_1 h2 g1 (by decide : E2 (8 : Int32).toInt = 0)) (by omega)
  subst q11 q8 e2
  refine ⟨nv + 1, xt vb nv vw, xt vq nv (max 1 z), xt vt nv (bw w r), by omega, fun t ht => ⟨xt_n ht, xt_n ht, xt_n ht⟩, ⟨by omega, fun _ => q9⟩, fun _ _ q => Or.inl q, ⟨fun t ht => ?_, fun e' a q => ?_, DEn_sub dn (fun e' a q y => ?_), fun e' a q y => ?_⟩, h4, fun act st B C h0 => ?_⟩
  · by_cases y : t < nv
    · obtain ⟨e', r', z', k1, k2, k3, k4, k5, k6, k7, k8⟩ := hl t y
      rw [xt_n y, xt_n y, xt_n y]
      exact ⟨e', r', z', Or.inl k1, k2, k3, k4, k5, k6, k7, k8⟩
    · have et : t = nv := by omega
      subst et
      rw [xt_v, xt_v, xt_v]
      exact ⟨e, r, z, Or.inr ⟨rfl, rfl⟩, q2, q6, q3, q7, q4, rfl, rfl⟩
  · rcases q with q | ⟨rfl, rfl⟩
    · exact av e' a q
    · exact ⟨fun y => absurd (q2.symm.trans y) (by decide), Or.inr (Or.inl q2), fun y => absurd (q2.symm.trans y) (by decide)⟩
  · rcases q with q | ⟨rfl, rfl⟩
    · exact q
    · exact absurd (q2.symm.trans y) (by decide)
  · rcases q with q | ⟨rfl, rfl⟩
    · have := hj e' a q y
      omega
    · exact absurd (q2.symm.trans y) (by decide)
  · rcases hx with ⟨i1, hx, ei, g1, g2, g3⟩ | ⟨ej, ei, g1, g2, g3⟩
    · have bxx := aX_bnd hx
      refine OZ_seq (oz_beg hg hg2 hw1 hw hi bx.1 h0 t1 t2 (by omega) (by omega)) (fun B1 C1 st1 _ z1 => OZ_seq (oz_np (z := 24) hg hg2 bx.1 z1 (by omega) t3 (by omega)) (fun B2 C2 st2 _ z2 => OZ_seq (oz_u (ox_st (tt := 0) hg hg2 hw1 hw hi bx av dn h2 hx (by omega) (by omega) z2.1) z2.2) (fun B3 C3 st3 _ z3 => ?_)))
      obtain ⟨v, v1, v2, v3⟩ := z3.2.1 0 (Nat.succ_pos _)
      exact os_var (p := 1) (v := v) (h := 1) (V := fun x => B3.1 122 (32 * 0 + x)) hg hg2 hw1 hw hi bx.1 z3.1 (Or.inl ⟨rfl, rfl, rfl⟩) v1 (fun q _ => v2 q) (fun q => absurd q (by decide)) (fun x hx => (v3 x hx).1) z3.2.2 hl q2 q3 q4 q6 q7 q9 t4 t5 t6 (by rw [g3]) t7 (by omega) (by omega)
    · subst ej
      refine OZ_seq (oz_beg hg hg2 hw1 hw hi bx.1 h0 t1 t2 (by omega) (by omega)) (fun B1 C1 st1 _ z1 => OZ_seq (oz_np (z := 24) hg hg2 bx.1 z1 (by omega) t3 (by omega)) (fun B2 C2 st2 _ z2 => ?_))
      exact os_var (p := 0) (v := 0) (h := 0) (V := fun _ => -2) hg hg2 hw1 hw hi bx.1 z2.1 (Or.inr ⟨rfl, rfl, rfl⟩) (Nat.two_pow_pos _) (fun _ q => absurd q (by decide)) (fun _ => rfl) (fun x _ => by rw [Nat.zero_testBit]; exact (SV_k hi).2.2.2.2.2 _) z2.2 hl q2 q3 q4 q6 q7 q9 t4 t5 t6 (by rw [g3, Nat.mul_zero, Nat.zero_add]) t7 (by omega) (by omega)
theorem mq_elt (hg : ip_gk (lg_tbl, vwCl, Gr)) (hg2 : ip_gk (lg_tbl, vwCl, Gr2)) (hw1 : 1 ≤ w) (hw : w ≤ 32) (hi : ∀ t, inb t = 0 ∨ inb t = 1) (bx : BCX D N M mf S T i0 i0' p0 p0') (an : aSel2 w D S T lo hi' Av p i i' j j') (av : AvO S Av 0) (dn : DEn w D N M S T mf Av p0) (hj : ∀ e a, Av e a → S.1 11 e = 2 → a < j) (hl : VLc w nv vb vq vt Av S) (hu : HU S i0 i u sd 0) (hus : u ≤ sd) (hii : i' ≤ i0') (hj' : j' ≤ M) : MSp l l2 Gr Gr2 n w d d2 inb wb D N M mf S T i0 p0 vw vw Av Av i i' j j' nv vb vq vt u sd := by
  obtain ⟨e, a, r, z, pb, q, i1, j1, i2, j2, ra1, ra2, hz, hpb, hlo, hh, hx1, hx2, e1, e2, f1, f2, f3, f4, f5, f6, f7, f8, f9, f10, t1, t2, t3, t4, t5, t6, t7, t8, t9, tpb⟩ := an
  have bx1 := aX_bnd hx1
  have bx2 := aX_bnd hx2
  obtain ⟨hs30, hu30⟩ := s_30 bx hu hus f1 (by omega)
  have hN := bx.1.2.1
  have hM := bx.1.2.2.2
  have hiN := bx.2.2.2.2.2.2.2.1
  have h2 : HU S i0 (i + 2) u sd 0 := HU_e (HU_1 (HU_1 hu f1 (by decide : E2 (1 : Int32).toInt = 0)) f3 (by decide : E2 (11 : Int32).toInt = 0)) (by omega)
  have h3 : HU S i0 (i1 + 1) u sd 1 := HU_e (HU_1 (HU_x hN bx.2.1 h2 hx1 (by omega)) f6 (by decide : E2 (26 : Int32).toInt = 0)) (by omega)
  have h4 : HU S i0 i' u sd 0 := by rw [e1]; exact HU_e (HU_1 (HU_x hN bx.2.1 h3 hx2 (by omega)) f9 (by decide : E2 (12 : Int32).toInt = -2)) (by omega)
  refine MSp_same hl av dn (fun e a q1 q2 => by have := hj e a q1 q2; omega) h4 (fun act st B C h0 => ?_)
  subst e1 e2
  obtain ⟨k1, k2, k3, k4, k5, k6, k7, k8, k9, k10, k11, k12, k13, k14⟩ := id ra1
  have pbm : nI pb = 0 ↔ pb = 0 := nI_eq (b := 0) (by omega) (by omega)
  refine OZ_seq (oz_beg hg hg2 hw1 hw hi bx.1 h0 t1 t2 (by omega) (by omega)) (fun B1 C1 st1 _ z1 => OZ_seq (oz_np (z := 33) hg hg2 bx.1 z1 (by omega) t3 (by omega)) (fun B2 C2 st2 _ z2 => OZ_seq (oz_u (ox_st (tt := 0) hg hg2 hw1 hw hi bx av dn h2 hx1 (by omega) (by omega) z2.1) z2.2) (fun B3 C3 st3 _ z3 => ?_)))
  obtain ⟨⟨hB3, hC3, hh3, hN3⟩, o3, y3⟩ := z3
  obtain ⟨NX, x1', x2, x3⟩ := o3 0 (Nat.succ_pos _)
  have x1' : NX < 2 ^ w := x1'
  have x2 : act → C3.2 147 0 = lN NX := x2
  have x3 : ∀ x, x < w → V2 inb wb (PB T (j + 2) j1) B3 (B3.1 122 (32 * 0 + x)) (NX.testBit x) := x3
  obtain ⟨B4, ⟨c1, c2⟩, g4⟩ := ms_1 (l := l) (n := n) (w := w) (d := d) (z := 42) hg bx.1 hB3.1 hB3.2.1 (by omega) t4 (by omega) (by omega) (ms_42 (d := d + 5) (q := 0) (z := z) (X := fun x => B3.1 122 (32 * 0 + x)) hg hw (by omega) (by omega) k4 ((hB3.1.2.1 78 j1 (by omega)).trans t4) ((hB3.1.2.1 104 j1 (by omega)).trans k13) hB3.2.2.2.1 (fun _ _ => rfl))
  have b107 : B3.1 107 j1 = nI pb := (hB3.1.2.1 107 j1 (by omega)).trans t6
  rw [b107] at c1 c2
  by_cases hok : nI pb = 0 ∨ nvb (xbo (fun x => B3.1 122 (32 * 0 + x))) w 0 < z
  rotate_left
  · refine Or.inr ⟨B4, _, g4, ?_⟩
    rw [c2 (fun y => hok (Or.inl y)) (fun y => hok (Or.inr y))]
    exact mT_7 hB3.2.1 (by decide)
  have e4 := c1 hok
  subst e4
  have nop4 : act → NGo l2 Gr2 n w d2 C3 j1 C3 (j1 + 1) := fun q => nst_1 (z := 42) hg2 bx.1 (hC3 q) (by omega) t4 (by omega) (by omega) (mt_nop (z := 42) (by omega) (((hC3 q).1.2.1 78 j1 (by omega)).trans t4) (by omega))
  have xx : MXS inb wb w act Av S T 0 0 0 1 st3 B4 C3 := ⟨hB3, hC3, hh3, hN3⟩
  rcases ox_st (l := l) (l2 := l2) (n := n) (d := d) (d2 := d2) (tt := 1) hg hg2 hw1 hw hi bx av dn h3 hx2 (by omega) (by omega) xx with ⟨B5, C5, st5, s5, m5, n5, f5', ex5, x5, o5⟩ | ⟨B5, j9, m5, z5⟩
  rotate_left
  · exact Or.inr ⟨B5, j9, MGo_tr g4 m5, z5⟩
  have wv0 : WV inb wb w act (PB T (j + 2) j1) 0 0 B5 C5 := WV_k hw1 hw hi ⟨NX, x1', x2, x3⟩ f5' ex5 (fun q => (n5 q).2) (by omega)
  refine OZ_seq (Z1 := fun st' B' C' => MXS inb wb w act Av S T 0 0 0 2 st' B' C' ∧ WVs inb wb w act [0, r] (fun t => if t = 0 then PB T (j + 2) j1 else False) 0 B' C' ∧ MYe w Av S vw nv vb vq vt u (sd + 1) B' ∧ ∀ x, x < w → B'.1 122 (32 * 0 + x) = B4.1 122 (32 * 0 + x)) (Or.inl ⟨B5, C5, st5, s5, MGo_tr g4 m5, fun q => ⟨NGo_tr (nop4 q) (n5 q).1, FCs_x (n5 q).2⟩, SFm_x f5', ex5, x5, fun t ht => ?_, MYe_x y3 f5', fun x hx => f5'.1 122 _ (by omega) (by omega) (by unfold PXm; omega)⟩) (fun B6 C6 st6 _ z6 => os_sta (pb := pb) hg hg2 hw1 hw hi bx.1 z6.1 z6.2.1 z6.2.2.1 hl ra2 hz hpb (fun y => tpb y) (fun y NX' c1 c2 => ?_) t7 t8 t9 (by omega) (by omega))
  · have : t = 0 ∨ t = 1 := by
      have : t < 2 := ht
      omega
    rcases this with e | e
    · subst e
      exact wv0
    · subst e
      exact WV_mo (o5 0 (Nat.succ_pos _)) (fun q => q.elim)
  · have hc : PB T (j + 2) j1 := tpb y
    have en : nvb (xbo (fun x => B4.1 122 (32 * 0 + x))) w 0 = NX' := nvb_cn (fun x hx => by
      have h1 := (c1 x hx).2 hc
      rw [z6.2.2.2 x hx] at h1
      exact h1) c2
    rw [en] at hok
    rcases hok with q | q
    · exact absurd (pbm.mp q) (by omega)
    · exact q
theorem mq_if {G : aSG} (hg : ip_gk (lg_tbl, vwCl, Gr)) (hg2 : ip_gk (lg_tbl, vwCl, Gr2)) (hw1 : 1 ≤ w) (hw : w ≤ 32) (hi : ∀ t, inb t = 0 ∨ inb t = 1) (bx : BCX D N M mf S T i0 i0' p0 p0') (hG : MSQ l l2 Gr Gr2 n w d d2 inb wb D N M mf S T i0 i0' p0 G) (bd : ∀ lo hi v v' A A' p i i' j j', G lo hi v v' A A' p i i' j j' → i < i' ∧ j < j') (an : aIf w D S T G lo hi' vw vw' Av Av' p i i' j j') (av : AvO S Av 0) (dn : DEn w D N M S T mf Av p0) (hj : ∀ e a, Av e a → S.1 11 e = 2 → a < j) (hl : VLc w nv vb vq vt Av S) (hu : HU S i0 i u sd 0) (hus : u ≤ sd) (hii : i' ≤ i0') (hj' : j' ≤ M) (hvw : vw ≤ 256) : MSp l l2 Gr Gr2 n w d d2 inb wb D N M mf S T i0 p0 vw vw' Av Av' i i' j j' nv vb vq vt u sd := by
  obtain ⟨i1, j1, k2, i2, j2, k3, i3, j3, lo1, hi1, vw2, A2, A3, hx, L1, L2, eA, b1, b2, b3, b4, b5, e1, e2, f1, f2, f3, f4, f5, f6, f7, f8, f9, f10, t1, t2, t3, t4, t5, shp⟩ := an
  have eA' := eA.symm
  subst eA'
  have bxx := aX_bnd hx
  have ba := aL_bnd bd _ _ _ _ _ _ _ _ _ L1
  have bb := aL_bnd bd _ _ _ _ _ _ _ _ _ L2
  have bj : j2 ≤ (if k3 = 0 ∧ T.1 80 j1 = nI j3 then j2 else j2 + 1) := by split <;> omega
  obtain ⟨hs30, hu30⟩ := s_30 bx hu hus f1 (by omega)
  have hN := bx.1.2.1
  have hiN := bx.2.2.2.2.2.2.2.1
  have h1 : HU S i0 (i + 1) u sd 0 := HU_e (HU_1 hu f1 (by decide : E2 (1 : Int32).toInt = 0)) (by omega)
  have h2 := HU_14 (HU_e (HU_x hN bx.2.1 h1 hx (by omega)) (by omega)) f3
  obtain ⟨nv2, vb2, vq2, vt2, n2, x2, ⟨v2, v2'⟩, s2, -, u2, T1⟩ := ml_all hG bd k2 lo1 hi1 vw vw2 Av A2 (i1 + 1) i2 (j1 + 1) j2 nv vb vq vt (u + 1) (sd + 1) L1 av dn (fun e a q1 q2 => by have := hj e a q1 q2; omega) hl h2 (by omega) (by omega) (by omega) hvw
  have h3 : HU S i0 (i2 + 1) (u + 1) (sd + 1) 0 := HU_e (HU_1 u2 f6 (by decide : E2 (15 : Int32).toInt = 0)) (by omega)
  have nj : ∀ e a, Av e a → S.1 11 e = 2 → a < j' := fun e a q1 q2 => by have := hj e a q1 q2; omega
  rcases shp with ⟨rfl, hE⟩ | ⟨hE, hne, t36, t80'⟩
  · obtain ⟨q1, q2, q3, q4⟩ := L2
    rw [if_pos ⟨rfl, hE⟩] at q2
    subst q1 q2 q3
    have h4 : HU S i0 i' u sd 0 := by rw [e1]; exact HU_16 h3 f8
    refine ⟨nv, vb, vq, vt, Nat.le_refl _, fun _ _ => ⟨rfl, rfl, rfl⟩, ⟨v2, v2'⟩, fun _ _ q => q, ⟨hl, av, dn, nj⟩, h4, fun act st B C h0 => ?_⟩
    subst e1 e2
    exact OZ_seq (oz_beg hg hg2 hw1 hw hi bx.1 h0 t1 t2 (by omega) (by omega)) (fun B1 C1 st1 _ z1 => OZ_seq (oz_u (ox_st (tt := 0) hg hg2 hw1 hw hi bx av dn h1 hx (by omega) (by omega) z1.1) z1.2) (fun B3 C3 st3 _ z3 => os_if0 (A2 := A2) (vb2 := vb2) (vq2 := vq2) (vt2 := vt2) hg hg2 hw1 hw hi bx.1 z3.1 z3.2.1 z3.2.2 hl hj (by omega) t3 hE t4 t5 (by omega) (by omega) (by omega) (by omega) v2 (v2' hvw) s2 n2 x2 (fun act' st' B' C' h => T1 act' st' B' C' h)))
  · rw [if_neg (fun q => hne q.2)] at L2 bb
    obtain ⟨nv3, vb3, vq3, vt3, n3, x3, ⟨v3, v3'⟩, s3, -, u3, T2⟩ := ml_all hG bd k3 lo1 hi1 vw2 vw' Av A3 (i2 + 1) i3 (j2 + 1) j3 nv vb vq vt (u + 1) (sd + 1) L2 av dn (fun e a q1 q2 => by have := hj e a q1 q2; omega) hl h3 (by omega) (by omega) (by omega) (v2' hvw)
    have h4 : HU S i0 i' u sd 0 := by rw [e1]; exact HU_16 u3 f8
    refine ⟨nv, vb, vq, vt, Nat.le_refl _, fun _ _ => ⟨rfl, rfl, rfl⟩, ⟨by omega, fun q => v3' (v2' q)⟩, fun _ _ q => q, ⟨hl, av, dn, nj⟩, h4, fun act st B C h0 => ?_⟩
    subst e1 e2
    exact OZ_seq (oz_beg hg hg2 hw1 hw hi bx.1 h0 t1 t2 (by omega) (by omega)) (fun B1 C1 st1 _ z1 => OZ_seq (oz_u (ox_st (tt := 0) hg hg2 hw1 hw hi bx av dn h1 hx (by omega) (by omega) z1.1) z1.2) (fun B3 C3 st3 _ z3 => os_if1 (A2 := A2) (vb2 := vb2) (vq2 := vq2) (vt2 := vt2) (A3 := A3) (vb3 := vb3) (vq3 := vq3) (vt3 := vt3) hg hg2 hw1 hw hi bx.1 z3.1 z3.2.1 z3.2.2 hl hj (by omega) t3 hE t36 t80' t4 t5 (by omega) (by omega) (by omega) (by omega) (by omega) v2 (by omega) (v3' (v2' hvw)) (v2' hvw) s2 n2 x2 s3 n3 x3 (fun act' st' B' C' h => T1 act' st' B' C' h) (fun act' st' B' C' h => T2 act' st' B' C' h)))
theorem mq_for {G : aSG} (hg : ip_gk (lg_tbl, vwCl, Gr)) (hg2 : ip_gk (lg_tbl, vwCl, Gr2)) (hw1 : 1 ≤ w) (hw : w ≤ 32) (hi : ∀ t, inb t = 0 ∨ inb t = 1) (bx : BCX D N M mf S T i0 i0' p0 p0') (hG : MSQ l l2 Gr Gr2 n w d d2 inb wb D N M mf S T i0 i0' p0 G) (bd : ∀ lo hi v v' A A' p i i' j j', G lo hi v v' A A' p i i' j j' → i < i' ∧ j < j') (an : aFor w D S T G lo hi' vw vw' Av Av' p i i' j j') (av : AvO S Av 0) (dn : DEn w D N M S T mf Av p0) (hj : ∀ e a, Av e a → S.1 11 e = 2 → a < j) (hl : VLc w nv vb vq vt Av S) (hu : HU S i0 i u sd 0) (hus : u ≤ sd) (hii : i' ≤ i0') (hj' : j' ≤ M) (hvw : vw ≤ 256) : MSp l l2 Gr Gr2 n w d d2 inb wb D N M mf S T i0 p0 vw vw' Av Av' i i' j j' nv vb vq vt u sd := by
  obtain ⟨e, i1, j1, i2, j2, k3, i3, j3, A3, he, g11, g12, g13, hf, hx1, hx2, L3, eA, e1, e2, f1, f2, f3, f4, f5, f6, f7, f8, f9, f10, f11, f12, t20, tp, t38, t41, t41', t39, t80, t81, t40, t79, t21, pb1, pb2⟩ := an
  have eA' := eA.symm
  subst eA'
  have ba := aX_bnd hx1
  have bb := aX_bnd hx2
  have bc := aL_bnd bd _ _ _ _ _ _ _ _ _ L3
  obtain ⟨hs30, hu30⟩ := s_30 bx hu hus f1 (by omega)
  have hN := bx.1.2.1
  have hD := bx.2.1
  have hiN := bx.2.2.2.2.2.2.2.1
  have h2 : HU S i0 (i + 2) u sd 0 := HU_e (HU_1 (HU_1 hu f1 (by decide : E2 (1 : Int32).toInt = 0)) f3 (by decide : E2 (17 : Int32).toInt = 0)) (by omega)
  have h3 : HU S i0 (i1 + 1) u sd 1 := HU_e (HU_1 (HU_x hN hD h2 hx1 (by omega)) f4 (by decide : E2 (18 : Int32).toInt = 0)) (by omega)
  have h4 : HU S i0 (i2 + 1) u sd 2 := HU_e (HU_1 (HU_x hN hD h3 hx2 (by omega)) f5 (by decide : E2 (18 : Int32).toInt = 0)) (by omega)
  have h5 := HU_19 h4 f6
  have avA : AvO S (adA Av e (j2 + 1)) 0 := fun e' a q => by
    rcases q with q | ⟨rfl, rfl⟩
    · exact av e' a q
    · exact ⟨fun _ => g12, Or.inr (Or.inr g13), fun q => absurd (g11.symm.trans q) (by decide)⟩
  obtain ⟨nv2, vb2, vq2, vt2, n2, x2, ⟨v2, v2'⟩, s2, -, u2, T1⟩ := ml_all hG bd k3 lo hi' vw vw' (adA Av e (j2 + 1)) A3 (i2 + 2) i3 (j2 + 2) j3 nv vb vq vt u (sd + 1) L3 avA (DEn_sub dn (fun e' a q y => by
    rcases q with q | ⟨rfl, rfl⟩
    · exact q
    · exact absurd (g11.symm.trans y) (by decide))) (fun e' a q y => by
    rcases q with q | ⟨rfl, rfl⟩
    · have := hj e' a q y
      omega
    · omega) (VLc_mo hl (fun _ _ q => Or.inl q)) h5 (by omega) (by omega) (by omega) hvw
  have h6 : HU S i0 i' u sd 0 := by rw [e1]; exact HU_20 u2 f10
  refine ⟨nv, vb, vq, vt, Nat.le_refl _, fun _ _ => ⟨rfl, rfl, rfl⟩, ⟨v2, v2'⟩, fun _ _ q => q, ⟨hl, av, dn, fun e' a q y => by have := hj e' a q y; omega⟩, h6, fun act st B C h0 => ?_⟩
  subst e1 e2
  refine OZ_seq (oz_beg hg hg2 hw1 hw hi bx.1 h0 t20 tp (by omega) (by omega)) (fun B1 C1 st1 _ z1 => OZ_seq (oz_np (z := 38) hg hg2 bx.1 z1 (by omega) t38 (by omega)) (fun B2 C2 st2 _ z2 => ?_))
  have s1 := OU_app (r := 0) (j2 := j1) hw1 hw hi (OU_nil (l := l) (l2 := l2) (Gr := Gr) (Gr2 := Gr2) (n := n) (d := d) (d2 := d2) (j := j + 2) (cs := fun _ => True) z2.1) (fun _ => pb1) (fun B1 C1 st1 x1 => ox_st (tt := 0) hg hg2 hw1 hw hi bx av dn h2 hx1 (by omega) (by omega) x1)
  have s2' := OU_ps hg hg2 bx.1 (by omega) t41 s1
  have s3 := OU_app (r := 0) (j2 := j2) hw1 hw hi s2' (fun _ => pb2) (fun B1 C1 st1 x1 => ox_st (tt := 1) hg hg2 hw1 hw hi bx av dn h3 hx2 (by omega) (by omega) x1)
  have s4 := OU_ps hg hg2 bx.1 (by omega) t41' s3
  exact OZ_seq (oz_u s4 z2.2) (fun B3 C3 st3 _ z3 => os_for (A3 := A3) (vb2 := vb2) (vq2 := vq2) (vt2 := vt2) (nv2 := nv2) hg hg2 hw1 hw hi bx.1 z3.1 z3.2.1 trivial trivial z3.2.2 hl hj (by omega) g11 t39 t80 t81 t40 t79 t21 (by omega) (by omega) (by omega) v2 (v2' hvw) s2 n2 (fun st' B' C' h => T1 act st' B' C' h))
/-- every statement has its meaning -/
theorem mq_all (hg : ip_gk (lg_tbl, vwCl, Gr)) (hg2 : ip_gk (lg_tbl, vwCl, Gr2)) (hw1 : 1 ≤ w) (hw : w ≤ 32) (hi : ∀ t, inb t = 0 ∨ inb t = 1) (bx : BCX D N M mf S T i0 i0' p0 p0') : ∀ nn, MSQ l l2 Gr Gr2 n w d d2 inb wb D N M mf S T i0 i0' p0 (aS w D S T nn)
  | 0 => fun lo hi vw vw' Av Av' p i i' j j' nv vb vq vt u sd h => h.elim
  | nn + 1 => fun lo hi' vw vw' Av Av' p i i' j j' nv vb vq vt u sd h av dn hj hl hu hus hii hj' hvw => by
    have ih := mq_all hg hg2 hw1 hw hi bx nn
    rcases h with ⟨h, e1, e2⟩ | ⟨h, e1, e2⟩ | h | h | h
    · subst e1 e2
      exact mq_set hg hg2 hw1 hw hi bx h av dn hj hl hu hus hii hj'
    · subst e1 e2
      exact mq_elt hg hg2 hw1 hw hi bx h av dn hj hl hu hus hii hj'
    · exact mq_var hg hg2 hw1 hw hi bx h av dn hj hl hu hus hii hj'
    · exact mq_if hg hg2 hw1 hw hi bx ih (aS_bnd nn) h av dn hj hl hu hus hii hj' hvw
    · exact mq_for hg hg2 hw1 hw hi bx ih (aS_bnd nn) h av dn hj hl hu hus hii hj' hvw
end MQA
