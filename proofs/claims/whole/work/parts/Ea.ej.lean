/-! BUILD on both sides: every statement -/
section STB
variable {l : Launch} {Gr : zG} {n w d D N M mf : Nat} {S T : zS} {i0 i0' p0 p0' lo hi vw vw' : Nat} {Av Av' : Nat → Nat → Prop} {p i i' j j' nv : Nat} {vb vq vt : Nat → Nat} {u hc sd no : Nat} {bo : Nat → Nat}
theorem DEn_sub : ∀ {m : Nat}, DEn w D N M S T m Av p → (∀ e a, Av' e a → S.1 11 e = 4 → Av e a) → DEn w D N M S T m Av' p
  | 0, h, hk => fun e a q y => h e a (hk e a q y) y
  | _ + 1, h, hk => fun e a q y => h e a (hk e a q y) y
theorem sq_elt (hg : ip_gk (lg_tbl, vwCl, Gr)) (ho : ip_old (lg_tbl, vwCl, Gr)) (hw1 : 1 ≤ w) (hw : w ≤ 32) (bx : BCX D N M mf S T i0 i0' p0 p0') (an : aSel2 w D S T lo hi Av p i i' j j') (av : AvO S Av 0) (dn : DEn w D N M S T mf Av p0) (hj : ∀ e a, Av e a → S.1 11 e = 2 → a < j) (hl : VLc w nv vb vq vt Av S) (hu : HU S i0 i u sd 0) (hus : u ≤ sd) (hi' : i' ≤ i0') (hj' : j' ≤ M) (hhi : hi ≤ 256) (hhc : hc ≤ 257 * u) : STp l Gr n w d D N M mf S T i0 p0 lo hi vw vw Av Av i i' j j' nv vb vq vt u hc sd no bo := by
  have an' := an
  obtain ⟨e, a, r, z, pb, q, i1, j1, i2, j2, ra1, ra2, hz, hpb, hlo, hh, hx1, hx2, e1, e2, f1, f2, f3, f4, f5, f6, f7, f8, f9, -⟩ := an'
  have bx1 := aX_bnd hx1
  have bx2 := aX_bnd hx2
  obtain ⟨hs30, hu30⟩ := s_30 bx hu hus f1 (by omega)
  have hN := bx.1.2.1
  have hiN := bx.2.2.2.2.2.2.2.1
  have h2 : HU S i0 (i + 2) u sd 0 := HU_e (HU_1 (HU_1 hu f1 (by decide : E2 (1 : Int32).toInt = 0)) f3 (by decide : E2 (11 : Int32).toInt = 0)) (by omega)
  have h3 := HU_1 (HU_x hN bx.2.1 h2 hx1 (by omega)) f6 (by decide : E2 (26 : Int32).toInt = 0)
  have h4 : HU S i0 i' u sd 0 := by rw [e1]; exact HU_e (HU_1 (HU_x hN bx.2.1 h3 hx2 (by omega)) f9 (by decide : E2 (12 : Int32).toInt = -2)) (by omega)
  exact STp_same hl av dn (fun e a q1 q2 => by have := hj e a q1 q2; omega) h4 (fun Cx hCx st A B0 h0 => TRz_mo (y_elt hg ho hw1 hw bx.1 bx.2.2.1 bx.2.1 h0 an (fun t r ia ib ja jb ht hx hib hjb A1 B1 st1 x1 => by
    have bb := aX_bnd hx
    rcases ht with ⟨rfl, rfl⟩ | ⟨rfl, i1', j1', hx1', f6', rfl⟩
    · exact ex_st (tt := 0) hg ho hw1 hw bx av dn h2 hu30 hx (by omega) (by omega) (by omega) x1
    · have h3' := HU_1 (HU_x hN bx.2.1 h2 hx1' (by omega)) f6' (by decide : E2 (26 : Int32).toInt = 0)
      exact ex_st (tt := 1) hg ho hw1 hw bx av dn (HU_e h3' (by omega)) hu30 hx (by omega) (by omega) (by omega) x1) hCx hhi (by omega) (by omega) hj' (by omega)) (fun _ _ _ _ f => SF_K f))
theorem sq_var (hg : ip_gk (lg_tbl, vwCl, Gr)) (ho : ip_old (lg_tbl, vwCl, Gr)) (hw1 : 1 ≤ w) (hw : w ≤ 32) (bx : BCX D N M mf S T i0 i0' p0 p0') (an : aVar w D S T vw vw' Av Av' p i i' j j') (av : AvO S Av 0) (dn : DEn w D N M S T mf Av p0) (hj : ∀ e a, Av e a → S.1 11 e = 2 → a < j) (hl : VLc w nv vb vq vt Av S) (hu : HU S i0 i u sd 0) (hus : u ≤ sd) (hi' : i' ≤ i0') (hj' : j' ≤ M) (hhc : hc ≤ 257 * u) : STp l Gr n w d D N M mf S T i0 p0 lo hi vw vw' Av Av' i i' j j' nv vb vq vt u hc sd no bo := by
  have an' := an
  obtain ⟨e0, r0, z0, j1, q1, q2, q3, q4, q5, q6, q7, q8, q9, q10, q11, e2, f1, f2, f3, t1, t2, t3, t4, t5, t6, t7, hx⟩ := an'
  have ii : i + 2 < i' := by
    rcases hx with ⟨i1, hx, ei, -⟩ | ⟨ej, ei, -⟩
    · have := aX_bnd hx
      omega
    · omega
  have jj : j < j' := by
    rcases hx with ⟨i1, hx, ei, -⟩ | ⟨ej, ei, -⟩
    · have := aX_bnd hx
      omega
    · omega
  obtain ⟨hs30, hu30⟩ := s_30 bx hu hus f1 (by omega)
  have hN := bx.1.2.1
  have hiN := bx.2.2.2.2.2.2.2.1
  have h2 : HU S i0 (i + 2) u sd 0 := HU_e (HU_1 (HU_1 hu f1 (by decide : E2 (1 : Int32).toInt = 0)) f3 (by decide : E2 (6 : Int32).toInt = 0)) (by omega)
  have h4 : HU S i0 i' u sd 0 := by
    rcases hx with ⟨i1, hx, ei, g1, -⟩ | ⟨ej, ei, g1, -⟩
    · rw [ei]
      exact HU_e (HU_1 (HU_x hN bx.2.1 h2 hx (by omega)) g1 (by decide : E2 (7 : Int32).toInt = -1)) (by omega)
    · rw [ei]
      exact HU_e (HU_1 h2 g1 (by decide : E2 (8 : Int32).toInt = 0)) (by omega)
  obtain ⟨vb', vq', vt', x1, ⟨e, r, z, eA, g11, hr, g12, hz, g13, b1, b2, b3⟩, hv, Tv⟩ := y_var (l := l) (Gr := Gr) (n := n) (d := d) (nv := nv) (vb := vb) (vq := vq) (vt := vt) (u := u) (sd := sd) (no := no) (bo := bo) (hc := hc) (lo := lo) (hi := hi) hg ho hw1 hw bx.1 bx.2.2.1 bx.2.1 an (by omega) (by omega) hj' (by omega)
  subst eA
  refine ⟨nv + 1, vb', vq', vt', by omega, x1, ⟨hv, fun _ => q9⟩, fun _ _ q => Or.inl q, fun e' a q => ?_, ⟨fun t ht => ?_, fun e' a q => ?_, DEn_sub dn (fun e' a q y => ?_), fun e' a q y => ?_⟩, h4, fun Cx hCx st A B0 h0 => TRz_mo (Tv Cx st A B0 h0 (fun r i1 j1 hx hi1 hj1 A1 B1 st1 x1 => ex_st (tt := 0) hg ho hw1 hw bx av dn h2 hu30 hx (by omega) (by omega) (by omega) x1)) (fun _ _ _ _ f => SF_K f)⟩
  · rcases q with q | ⟨rfl, rfl⟩
    · exact Or.inl q
    · exact Or.inr ⟨g11, Nat.le_refl _⟩
  · by_cases y : t < nv
    · obtain ⟨e', r', z', k1, k2, k3, k4, k5, k6, k7, k8⟩ := hl t y
      obtain ⟨y1, y2, y3⟩ := x1 t y
      exact ⟨e', r', z', Or.inl (by rw [y1]; exact k1), k2, k3, k4, k5, k6, y2.trans k7, y3.trans k8⟩
    · have : t = nv := by omega
      subst this
      exact ⟨e, r, z, Or.inr ⟨rfl, b1⟩, g11, hr, g12, hz, g13, b2, b3⟩
  · rcases q with q | ⟨rfl, rfl⟩
    · exact av e' a q
    · exact ⟨fun q => absurd (g11.symm.trans q) (by decide), Or.inr (Or.inl g11), fun q => absurd (g11.symm.trans q) (by decide)⟩
  · rcases q with q | ⟨rfl, rfl⟩
    · exact q
    · exact absurd (g11.symm.trans y) (by decide)
  · rcases q with q | ⟨rfl, rfl⟩
    · have := hj e' a q y
      omega
    · exact absurd (g11.symm.trans y) (by decide)
theorem sq_if {G : aSG} (hg : ip_gk (lg_tbl, vwCl, Gr)) (ho : ip_old (lg_tbl, vwCl, Gr)) (hw1 : 1 ≤ w) (hw : w ≤ 32) (bx : BCX D N M mf S T i0 i0' p0 p0') (hG : STQ l Gr n w d D N M mf S T i0 i0' p0 G) (bd : ∀ lo hi v v' A A' p i i' j j', G lo hi v v' A A' p i i' j j' → i < i' ∧ j < j') (an : aIf w D S T G lo hi vw vw' Av Av' p i i' j j') (av : AvO S Av 0) (dn : DEn w D N M S T mf Av p0) (hj : ∀ e a, Av e a → S.1 11 e = 2 → a < j) (hl : VLc w nv vb vq vt Av S) (hu : HU S i0 i u sd 0) (hus : u ≤ sd) (hi' : i' ≤ i0') (hj' : j' ≤ M) (hhi : hi ≤ 256) (hvw : vw ≤ 256) (hhc : hc ≤ 257 * u) : STp l Gr n w d D N M mf S T i0 p0 lo hi vw vw' Av Av' i i' j j' nv vb vq vt u hc sd no bo := by
  obtain ⟨i1, j1, k2, i2, j2, k3, i3, j3, lo1, hi1, vw2, A2, A3, hx, L1, L2, eA, b1, b2, b3, b4, b5, e1, e2, f1, f2, f3, f4, f5, f6, f7, f8, f9, f10, t1, t2, t3, t4, t5, shp⟩ := an
  have eA' := eA.symm
  subst eA'
  have bxx := aX_bnd hx
  have ba := aL_bnd bd _ _ _ _ _ _ _ _ _ L1
  have bb := aL_bnd bd _ _ _ _ _ _ _ _ _ L2
  have bj : j2 ≤ (if k3 = 0 ∧ T.1 80 j1 = nI j3 then j2 else j2 + 1) := by split <;> omega
  obtain ⟨hs30, hu30⟩ := s_30 bx hu hus f1 (by omega)
  have hN := bx.1.2.1
  have hiN := bx.2.2.2.2.2.2.2.1
  have h1 : HU S i0 (i + 1) u sd 0 := HU_e (HU_1 hu f1 (by decide : E2 (1 : Int32).toInt = 0)) (by omega)
  have h2 := HU_14 (HU_e (HU_x hN bx.2.1 h1 hx (by omega)) (by omega)) f3
  obtain ⟨g, eg⟩ : ∃ g, g = min hi1 vw - lo1 := ⟨_, rfl⟩
  rw [← eg] at f5
  obtain ⟨nv2, vb2, vq2, vt2, n2, x2, ⟨v2, v2'⟩, s2, -, -, u2, T1⟩ := ls_all hG bd k2 lo1 hi1 vw vw2 Av A2 (i1 + 1) i2 (j1 + 1) j2 nv vb vq vt (u + 1) (hc + 1 + g) (sd + 1) no bo L1 av dn (fun e a q1 q2 => by have := hj e a q1 q2; omega) hl h2 (by omega) (by omega) (by omega) b4 hvw (by omega)
  have h3 : HU S i0 (i2 + 1) (u + 1) (sd + 1) 0 := HU_e (HU_1 u2 f6 (by decide : E2 (15 : Int32).toInt = 0)) (by omega)
  have hex : ∀ A1 B1 st1, XS w Av S T 0 0 0 0 0 (i + 1) hc 0 st1 A1 B1 → TRx l Gr n w d Av S T 0 0 0 0 0 1 (i + 1) i1 (j + 1) j1 hc 0 st1 A1 := fun A1 B1 st1 x1 => ex_st (tt := 0) hg ho hw1 hw bx av dn h1 hu30 hx (by omega) (by omega) (by omega) x1
  have nj : ∀ e a, Av e a → S.1 11 e = 2 → a < j' := fun e a q1 q2 => by have := hj e a q1 q2; omega
  rcases shp with ⟨rfl, hE⟩ | ⟨hE, hne, t36, -⟩
  · obtain ⟨q1, q2, q3, q4⟩ := L2
    rw [if_pos ⟨rfl, hE⟩] at q2
    subst q1 q2 q3
    have h4 : HU S i0 i' u sd 0 := by rw [e1]; exact HU_16 h3 f8
    refine ⟨nv, vb, vq, vt, Nat.le_refl _, fun _ _ => ⟨rfl, rfl, rfl⟩, ⟨v2, v2'⟩, fun _ _ q => q, fun _ _ q => Or.inl q, ⟨hl, av, dn, nj⟩, h4, fun Cx hCx st A B0 h0 => ?_⟩
    subst e1 e2
    exact y_if0 (A2v := A2) (vb2 := vb2) (vq2 := vq2) (vt2 := vt2) hg ho hw1 hw bx.1 bx.2.2.1 hl hCx h0 eg b1 b3 b2 b4 (by omega) (by omega) f1 f2 f3 f4 f5 t1 t2 t3 (by omega) (by omega) (by omega) hex (fun A B0 st h0 => T1 (CXn w Av S) CXn_o st A B0 h0) s2 n2 x2 f6 f7 f8 f9 f10 t4 t5 (by omega) (by omega) (by omega) (by omega)
  · rw [if_neg (fun q => hne q.2)] at L2 bb
    obtain ⟨nv3, vb3, vq3, vt3, n3, x3, ⟨v3, v3'⟩, s3, -, -, u3, T2⟩ := ls_all hG bd k3 lo1 hi1 vw2 vw' Av A3 (i2 + 1) i3 (j2 + 1) j3 nv vb vq vt (u + 1) (hc + 1 + g) (sd + 1) no bo L2 av dn (fun e a q1 q2 => by have := hj e a q1 q2; omega) hl h3 (by omega) (by omega) (by omega) b4 (v2' hvw) (by omega)
    have h4 : HU S i0 i' u sd 0 := by rw [e1]; exact HU_16 u3 f8
    refine ⟨nv, vb, vq, vt, Nat.le_refl _, fun _ _ => ⟨rfl, rfl, rfl⟩, ⟨by omega, fun q => v3' (v2' q)⟩, fun _ _ q => q, fun _ _ q => Or.inl q, ⟨hl, av, dn, nj⟩, h4, fun Cx hCx st A B0 h0 => ?_⟩
    subst e1 e2
    exact y_if1 (A2v := A2) (vb2 := vb2) (vq2 := vq2) (vt2 := vt2) (A3v := A3) (vb3 := vb3) (vq3 := vq3) (vt3 := vt3) hg ho hw1 hw bx.1 bx.2.2.1 hl hCx h0 eg b1 b3 b2 b4 (by omega) (by omega) f1 f2 f3 f4 f5 t1 t2 t3 (by omega) (by omega) (by omega) hex (fun A B0 st h0 => T1 (CXn w Av S) CXn_o st A B0 h0) s2 n2 x2 v2 (v2' hvw) (fun A B0 st h0 => T2 (CXn w Av S) CXn_o st A B0 h0) s3 n3 x3 f6 f7 f8 f9 f10 t36 t4 t5 (by omega) (by omega) (by omega) (by omega) (by omega) (by omega)
theorem sq_for {G : aSG} (hg : ip_gk (lg_tbl, vwCl, Gr)) (ho : ip_old (lg_tbl, vwCl, Gr)) (hw1 : 1 ≤ w) (hw : w ≤ 32) (bx : BCX D N M mf S T i0 i0' p0 p0') (hG : STQ l Gr n w d D N M mf S T i0 i0' p0 G) (bd : ∀ lo hi v v' A A' p i i' j j', G lo hi v v' A A' p i i' j j' → i < i' ∧ j < j') (an : aFor w D S T G lo hi vw vw' Av Av' p i i' j j') (av : AvO S Av 0) (dn : DEn w D N M S T mf Av p0) (hj : ∀ e a, Av e a → S.1 11 e = 2 → a < j) (hl : VLc w nv vb vq vt Av S) (hu : HU S i0 i u sd 0) (hus : u ≤ sd) (hi' : i' ≤ i0') (hj' : j' ≤ M) (hhi : hi ≤ 256) (hvw : vw ≤ 256) (hhc : hc ≤ 257 * u) : STp l Gr n w d D N M mf S T i0 p0 lo hi vw vw' Av Av' i i' j j' nv vb vq vt u hc sd no bo := by
  obtain ⟨e, i1, j1, i2, j2, k3, i3, j3, A3, he, g11, g12, g13, hf, hx1, hx2, L3, eA, e1, e2, f1, f2, f3, f4, f5, f6, f7, f8, f9, f10, f11, f12, t20, tp, t38, t41, t41', t39, t80, t81, t40, t79, t21, tPB⟩ := an
  have eA' := eA.symm
  subst eA'
  have ba := aX_bnd hx1
  have bb := aX_bnd hx2
  have bc := aL_bnd bd _ _ _ _ _ _ _ _ _ L3
  obtain ⟨hs30, hu30⟩ := s_30 bx hu hus f1 (by omega)
  have hN := bx.1.2.1
  have hD := bx.2.1
  have hiN := bx.2.2.2.2.2.2.2.1
  have h2 : HU S i0 (i + 2) u sd 0 := HU_e (HU_1 (HU_1 hu f1 (by decide : E2 (1 : Int32).toInt = 0)) f3 (by decide : E2 (17 : Int32).toInt = 0)) (by omega)
  have h3 : HU S i0 (i1 + 1) u sd 1 := HU_e (HU_1 (HU_x hN hD h2 hx1 (by omega)) f4 (by decide : E2 (18 : Int32).toInt = 0)) (by omega)
  have h4 : HU S i0 (i2 + 1) u sd 2 := HU_e (HU_1 (HU_x hN hD h3 hx2 (by omega)) f5 (by decide : E2 (18 : Int32).toInt = 0)) (by omega)
  have h5 := HU_19 h4 f6
  have avA : AvO S (adA Av e (j2 + 1)) 0 := fun e' a q => by
    rcases q with q | ⟨rfl, rfl⟩
    · exact av e' a q
    · exact ⟨fun _ => g12, Or.inr (Or.inr g13), fun q => absurd (g11.symm.trans q) (by decide)⟩
  obtain ⟨nv2, vb2, vq2, vt2, n2, x2, ⟨v2, v2'⟩, s2, -, -, u2, T1⟩ := ls_all hG bd k3 lo hi vw vw' (adA Av e (j2 + 1)) A3 (i2 + 2) i3 (j2 + 2) j3 nv vb vq vt u hc (sd + 1) no bo L3 avA (DEn_sub dn (fun e' a q y => by
    rcases q with q | ⟨rfl, rfl⟩
    · exact q
    · exact absurd (g11.symm.trans y) (by decide))) (fun e' a q y => by
    rcases q with q | ⟨rfl, rfl⟩
    · have := hj e' a q y
      omega
    · omega) (VLc_mo hl (fun _ _ q => Or.inl q)) h5 (by omega) (by omega) (by omega) hhi hvw hhc
  have h6 : HU S i0 i' u sd 0 := by rw [e1]; exact HU_20 u2 f10
  refine ⟨nv, vb, vq, vt, Nat.le_refl _, fun _ _ => ⟨rfl, rfl, rfl⟩, ⟨v2, v2'⟩, fun _ _ q => q, fun _ _ q => Or.inl q, ⟨hl, av, dn, fun e' a q y => by have := hj e' a q y; omega⟩, h6, fun Cx hCx st A B0 h0 => ?_⟩
  have hC2 : CXo w (adA Av e (j2 + 1)) S Cx := fun e' a r z k1 k2 k3 k4 k5 k6 y x hy hx => by
    rcases k1 with q | ⟨rfl, rfl⟩
    · exact hCx e' a r z q k2 k3 k4 k5 k6 y x hy hx
    · exact absurd (g11.symm.trans k2) (by decide)
  subst e1 e2
  exact y_for (A3v := A3) (vb' := vb2) (vq' := vq2) (vt' := vt2) (nv' := nv2) hg ho hw1 hw bx.1 bx.2.2.1 (by omega) g11 hf (fun e' a q y => by have := hj e' a q y; omega) s2 n2 x2 v2 (v2' hvw) f1 f2 f3 f4 f5 f6 f7 f8 f9 f10 f11 f12 t20 tp t38 t41 t41' t39 t80 t81 t40 t79 t21 (by omega) (by omega) (by omega) (by omega) (by omega) (by omega) (by omega) (by omega) (by omega) (by omega) h0 (fun A1 B1 st1 x1 => ex_st (tt := 0) hg ho hw1 hw bx av dn h2 hu30 hx1 (by omega) (by omega) (by omega) x1) (fun A1 B1 st1 x1 => ex_st (tt := 1) hg ho hw1 hw bx av dn h3 hu30 hx2 (by omega) (by omega) (by omega) x1) (fun A B0 st h0 => T1 Cx hC2 st A B0 h0)
/-- every statement is built alike -/
theorem sq_all (hg : ip_gk (lg_tbl, vwCl, Gr)) (ho : ip_old (lg_tbl, vwCl, Gr)) (hw1 : 1 ≤ w) (hw : w ≤ 32) (bx : BCX D N M mf S T i0 i0' p0 p0') : ∀ nn, STQ l Gr n w d D N M mf S T i0 i0' p0 (aS w D S T nn)
  | 0 => fun lo hi vw vw' Av Av' p i i' j j' nv vb vq vt u hc sd no bo h => h.elim
  | nn + 1 => fun lo hi vw vw' Av Av' p i i' j j' nv vb vq vt u hc sd no bo h av dn hj hl hu hus hi' hj' hhi hvw hhc => by
    have ih := sq_all hg ho hw1 hw bx nn
    rcases h with ⟨h, e1, e2⟩ | ⟨h, e1, e2⟩ | h | h | h
    · subst e1 e2
      exact sq_set hg ho hw1 hw bx h av dn hj hl hu hus hi' hj' hhi hhc
    · subst e1 e2
      exact sq_elt hg ho hw1 hw bx h av dn hj hl hu hus hi' hj' hhi hhc
    · exact sq_var hg ho hw1 hw bx h av dn hj hl hu hus hi' hj' hhc
    · exact sq_if hg ho hw1 hw bx ih (aS_bnd nn) h av dn hj hl hu hus hi' hj' hhi hvw hhc
    · exact sq_for hg ho hw1 hw bx ih (aS_bnd nn) h av dn hj hl hu hus hi' hj' hhi hvw hhc
end STB
