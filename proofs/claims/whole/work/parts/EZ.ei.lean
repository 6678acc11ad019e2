/-! BUILD on both sides: every statement, what is carried along -/
def STp (l : Launch) (Gr : zG) (n w d D N M mf : Nat) (S T : zS) (i0 p0 lo hi vw vw' : Nat) (Av Av' : Nat → Nat → Prop) (i i' j j' nv : Nat) (vb vq vt : Nat → Nat) (u hc sd no : Nat) (bo : Nat → Nat) : Prop :=
  ∃ (nv' : Nat) (vb' vq' vt' : Nat → Nat), nv ≤ nv' ∧ (∀ t, t < nv → vb' t = vb t ∧ vq' t = vq t ∧ vt' t = vt t) ∧ (vw ≤ vw' ∧ (vw ≤ 256 → vw' ≤ 256)) ∧ (∀ e a, Av e a → Av' e a) ∧ (∀ e a, Av' e a → Av e a ∨ (S.1 11 e = 1 ∧ vw ≤ a)) ∧ (VLc w nv' vb' vq' vt' Av' S ∧ AvO S Av' 0 ∧ DEn w D N M S T mf Av' p0 ∧ ∀ e a, Av' e a → S.1 11 e = 2 → a < j') ∧ HU S i0 i' u sd 0 ∧
  ∀ Cx, CXo w Av S Cx → ∀ st A B0, (YB w Av S T i hc st A B0 ∧ YE w Av S vw nv vb vq vt u sd no bo A B0) → TRz l Gr n w d (fun st A B => YB w Av S T i hc st A B ∧ YE w Av S vw nv vb vq vt u sd no bo A B) (fun st A B => YB w Av' S T i' hc st A B ∧ YE w Av' S vw' nv' vb' vq' vt' u sd no bo A B) (SF w Cx (K2 S Av) hc sd u nv vw lo hi) 0 j j' st A
def STQ (l : Launch) (Gr : zG) (n w d D N M mf : Nat) (S T : zS) (i0 i0' p0 : Nat) (G : aSG) : Prop := ∀ (lo hi vw vw' : Nat) (Av Av' : Nat → Nat → Prop) (p i i' j j' nv : Nat) (vb vq vt : Nat → Nat) (u hc sd no : Nat) (bo : Nat → Nat), G lo hi vw vw' Av Av' p i i' j j' → AvO S Av 0 → DEn w D N M S T mf Av p0 → (∀ e a, Av e a → S.1 11 e = 2 → a < j) → VLc w nv vb vq vt Av S → HU S i0 i u sd 0 → u ≤ sd → i' ≤ i0' → j' ≤ M → hi ≤ 256 → vw ≤ 256 → hc ≤ 257 * u → STp l Gr n w d D N M mf S T i0 p0 lo hi vw vw' Av Av' i i' j j' nv vb vq vt u hc sd no bo
section STA
variable {l : Launch} {Gr : zG} {n w d D N M mf : Nat} {S T : zS} {i0 i0' p0 p0' lo hi vw vw' : Nat} {Av Av' : Nat → Nat → Prop} {p i i' j j' nv : Nat} {vb vq vt : Nat → Nat} {u hc sd no : Nat} {bo : Nat → Nat}
theorem VLc_mo (h : VLc w nv vb vq vt Av S) (hs : ∀ e a, Av e a → Av' e a) : VLc w nv vb vq vt Av' S := fun t ht => by
  obtain ⟨e, r, z, q1, q2⟩ := h t ht
  exact ⟨e, r, z, hs e _ q1, q2⟩
theorem SF_rfl {Cx : Nat → Prop} {A B : zS} : SF w Cx Av hc sd u nv vw lo hi A A B B := ⟨⟨fun _ _ => rfl, fun _ _ _ => rfl, fun _ _ _ => ⟨rfl, rfl⟩⟩, ⟨fun _ _ => rfl, fun _ _ _ _ _ => rfl, fun _ _ _ _ => rfl, fun _ _ _ _ _ => rfl, fun _ _ _ => ⟨rfl, rfl, rfl⟩⟩, fun _ h => h, ⟨fun _ _ _ _ _ => rfl, fun _ _ _ => rfl⟩⟩
theorem SF_K {Cx : Nat → Prop} {A A' B B' : zS} (h : SF w Cx Av hc sd u nv vw lo hi A A' B B') : SF w Cx (K2 S Av) hc sd u nv vw lo hi A A' B B' := SF_mo h (fun _ _ h => h.1) (Nat.le_refl _) (Nat.le_refl _) (Nat.le_refl _) (Nat.le_refl _) (Nat.le_refl _) (Nat.le_refl _) (Nat.le_refl _)
theorem STp_same (hl : VLc w nv vb vq vt Av S) (av : AvO S Av 0) (dn : DEn w D N M S T mf Av p0) (hj : ∀ e a, Av e a → S.1 11 e = 2 → a < j') (hu : HU S i0 i' u sd 0) (h : ∀ Cx, CXo w Av S Cx → ∀ st A B0, (YB w Av S T i hc st A B0 ∧ YE w Av S vw nv vb vq vt u sd no bo A B0) → TRz l Gr n w d (fun st A B => YB w Av S T i hc st A B ∧ YE w Av S vw nv vb vq vt u sd no bo A B) (fun st A B => YB w Av S T i' hc st A B ∧ YE w Av S vw nv vb vq vt u sd no bo A B) (SF w Cx (K2 S Av) hc sd u nv vw lo hi) 0 j j' st A) : STp l Gr n w d D N M mf S T i0 p0 lo hi vw vw Av Av i i' j j' nv vb vq vt u hc sd no bo :=
  ⟨nv, vb, vq, vt, Nat.le_refl _, fun _ _ => ⟨rfl, rfl, rfl⟩, ⟨Nat.le_refl _, fun q => q⟩, fun _ _ q => q, fun _ _ q => Or.inl q, ⟨hl, av, dn, hj⟩, hu, h⟩
theorem ls_all {G : aSG} (hG : STQ l Gr n w d D N M mf S T i0 i0' p0 G) (bd : ∀ lo hi v v' A A' p i i' j j', G lo hi v v' A A' p i i' j j' → i < i' ∧ j < j') : ∀ (k lo hi vw vw' : Nat) (Av Av' : Nat → Nat → Prop) (i i' j j' nv : Nat) (vb vq vt : Nat → Nat) (u hc sd no : Nat) (bo : Nat → Nat), aL G lo hi k vw vw' Av Av' i i' j j' → AvO S Av 0 → DEn w D N M S T mf Av p0 → (∀ e a, Av e a → S.1 11 e = 2 → a < j) → VLc w nv vb vq vt Av S → HU S i0 i u sd 0 → u ≤ sd → i' ≤ i0' → j' ≤ M → hi ≤ 256 → vw ≤ 256 → hc ≤ 257 * u → STp l Gr n w d D N M mf S T i0 p0 lo hi vw vw' Av Av' i i' j j' nv vb vq vt u hc sd no bo
  | 0, lo, hi, vw, vw', Av, Av', i, i', j, j', nv, vb, vq, vt, u, hc, sd, no, bo, h, av, dn, hj, hl, hu, _, _, _, _, _, _ => by
    obtain ⟨e1, e2, e3, e4⟩ := h
    subst e1 e2 e3 e4
    exact STp_same hl av dn hj hu (fun Cx hCx st A B0 h0 => ⟨0, A, CGo_rfl, ⟨fun _ _ _ _ _ => rfl, fun _ _ _ => rfl⟩, Or.inl ⟨st, Nat.le_refl _, by omega, fun B hB => ⟨B, MGo_rfl, hB, SF_rfl⟩⟩⟩)
  | k + 1, lo, hi, vw, vw', Av, Av', i, i', j, j', nv, vb, vq, vt, u, hc, sd, no, bo, h, av, dn, hj, hl, hu, hus, hi', hj', hhi, hvw, hhc => by
    obtain ⟨i1, j1, p1, vw1, A1, h1, h2⟩ := h
    have b1 := aL_bnd bd _ _ _ _ _ _ _ _ _ h1
    have b2 := bd _ _ _ _ _ _ _ _ _ _ _ h2
    obtain ⟨nv1, vb1, vq1, vt1, n1, x1, ⟨v1, v1'⟩, s1, w1, ⟨c1, a1, d1, k1⟩, u1, T1⟩ := ls_all hG bd k lo hi vw vw1 Av A1 i i1 j j1 nv vb vq vt u hc sd no bo h1 av dn hj hl hu hus (by omega) (by omega) hhi hvw hhc
    obtain ⟨nv2, vb2, vq2, vt2, n2, x2, ⟨v2, v2'⟩, s2, w2, c2, u2, T2⟩ := hG lo hi vw1 vw' A1 Av' p1 i1 i' j1 j' nv1 vb1 vq1 vt1 u hc sd no bo h2 a1 d1 k1 c1 u1 hus hi' hj' hhi (v1' hvw) hhc
    refine ⟨nv2, vb2, vq2, vt2, by omega, fun t ht => ⟨(x2 t (by omega)).1.trans (x1 t ht).1, (x2 t (by omega)).2.1.trans (x1 t ht).2.1, (x2 t (by omega)).2.2.trans (x1 t ht).2.2⟩, ⟨by omega, fun q => v2' (v1' q)⟩, fun e a q => s2 e a (s1 e a q), fun e a q => ?_, c2, u2, fun Cx hCx st A B0 h0 => ?_⟩
    · rcases w2 e a q with q | ⟨q1, q2⟩
      · exact w1 e a q
      · exact Or.inr ⟨q1, by omega⟩
    · have hC2 : CXo w A1 S (fun k => Cx k ∧ k < vw * w) := fun e a r z g1 g2 g3 g4 g5 g6 y x hy hx hc => by
        rcases w1 e a g1 with q | ⟨q1, q2⟩
        · exact hCx e a r z q g2 g3 g4 g5 g6 y x hy hx hc.1
        · have m : vw * w ≤ (a + y) * w := Nat.mul_le_mul_right _ (by omega)
          have := hc.2
          omega
      exact TRz_le (TRz_seq (c2 := 0) h0 (T1 Cx hCx st A B0 h0) (Int.le_refl _) (fun st A B h => h.1.2.2.2.1) (fun _ _ _ _ _ _ => SF_tr) (fun _ _ _ _ h => h.2.2.2) (fun A1 B1 st1 _ z1 => TRz_mo (T2 (fun k => Cx k ∧ k < vw * w) hC2 st1 A1 B1 z1) (fun _ _ _ _ f => SF_cx (SF_mo f (fun e a q => ⟨s1 e a q.1, q.2⟩) (Nat.le_refl _) (Nat.le_refl _) (Nat.le_refl _) n1 v1 (Nat.le_refl _) (Nat.le_refl _)) (fun k q1 q2 => ⟨q2, q1⟩)))) (by omega)
theorem s_30 (bx : BCX D N M mf S T i0 i0' p0 p0') (hu : HU S i0 i u sd 0) (hus : u ≤ sd) (s4 : S.1 4 i = 1) (hi : i < i0') : sd ≤ 30 ∧ u ≤ 30 := by
  have := bx.2.2.2.2.2.2.2.2 i hu.1 hi s4
  rw [hu.2.2] at this
  omega
theorem sq_set (hg : ip_gk (lg_tbl, vwCl, Gr)) (ho : ip_old (lg_tbl, vwCl, Gr)) (hw1 : 1 ≤ w) (hw : w ≤ 32) (bx : BCX D N M mf S T i0 i0' p0 p0') (an : aSet w D S T lo hi Av p i i' j j') (av : AvO S Av 0) (dn : DEn w D N M S T mf Av p0) (hj : ∀ e a, Av e a → S.1 11 e = 2 → a < j) (hl : VLc w nv vb vq vt Av S) (hu : HU S i0 i u sd 0) (hus : u ≤ sd) (hi' : i' ≤ i0') (hj' : j' ≤ M) (hhi : hi ≤ 256) (hhc : hc ≤ 257 * u) : STp l Gr n w d D N M mf S T i0 p0 lo hi vw vw Av Av i i' j j' nv vb vq vt u hc sd no bo := by
  have an' := an
  obtain ⟨e, a, r, i1, j1, ra, q1, q2, hx, e1, e2, f1, f2, f3, f4, f5, f6, -⟩ := an'
  have bxx := aX_bnd hx
  obtain ⟨hs30, hu30⟩ := s_30 bx hu hus f1 (by omega)
  have hN := bx.1.2.1
  have hiN := bx.2.2.2.2.2.2.2.1
  have h2 : HU S i0 (i + 2) u sd 0 := HU_e (HU_1 (HU_1 hu f1 (by decide : E2 (1 : Int32).toInt = 0)) f3 (by decide : E2 (9 : Int32).toInt = 0)) (by omega)
  have h3 := HU_x hN bx.2.1 h2 hx (by omega)
  have h4 : HU S i0 i' u sd 0 := by rw [e1]; exact HU_e (HU_1 h3 f5 (by decide : E2 (10 : Int32).toInt = -1)) (by omega)
  exact STp_same hl av dn (fun e a q1 q2 => by have := hj e a q1 q2; omega) h4 (fun Cx hCx st A B0 h0 => TRz_mo (y_set hg ho hw1 hw bx.1 bx.2.2.1 bx.2.1 h0 an (fun r i1 j1 hx hi1 hj1 A1 B1 st1 x1 => ex_st (tt := 0) hg ho hw1 hw bx av dn h2 hu30 hx (by omega) (by omega) (by omega) x1) hCx hhi (by omega) (by omega) hj' (by omega)) (fun _ _ _ _ f => SF_K f))
end STA
