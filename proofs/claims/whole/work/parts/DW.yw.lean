/-! BUILD on both sides: var, the statement -/
section YVB
variable {l : Launch} {Cx : Nat → Prop} {Gr : zG} {n w : Nat} {d : Nat} {Av Av' : Nat → Nat → Prop} {S T A A' A1 A2 B B' B0 B1 B2 : zS} {Z Z1 Z2 : Nat → zS → zS → Prop} {c c1 c2 : Int} {i i' hc hr st r i1 j j' j1 j2 N M z z2 e vw nv u sd no p lo hi k a b y m q D hcx hrx vw' : Nat} {vb vq vt bo : Nat → Nat}
theorem var_f1 (hg : ip_gk (lg_tbl, vwCl, Gr)) (ho : ip_old (lg_tbl, vwCl, Gr)) (hw1 : 1 ≤ w) (hw : w ≤ 32) (cx : CTX S T N M) (h0 : XS w Av S T 0 0 0 0 0 i1 (hc + 1) 1 st A B0 ∧ OAs w [r] hc 0 A B0 ∧ YE w Av S vw nv vb vq vt u (sd + 1) no bo A B0) (he : e < 800) (hr : r ≤ 1) (hz : z ≤ 64) (hvw : vw + max 1 z ≤ 256) (hsd : sd < 80) (s11 : S.1 11 e = 1) (s12 : S.1 12 e = nI r) (s13 : S.1 13 e = nI z) (s14 : S.1 14 e = nI vw) (u4 : S.1 4 i1 = 7) (u5 : S.1 5 i1 = nI e) (t78 : T.1 78 j1 = 25) (t80 : T.1 80 j1 = nI r) (t89 : T.1 89 j1 = nI vw) (t82 : T.2 82 j1 = lN (65536 + 256 * z)) (t21 : T.1 78 (j1 + 1) = 21) (hi' : i1 < N) (hj : j1 + 1 < M) (hhc : hc + 2 ≤ 9682) : TRz l Gr n w d (fun st A B => XS w Av S T 0 0 0 0 0 i1 (hc + 1) 1 st A B ∧ OAs w [r] hc 0 A B ∧ YE w Av S vw nv vb vq vt u (sd + 1) no bo A B) (fun st A B => YB w (adA Av e vw) S T (i1 + 1) hc st A B ∧ YE w (adA Av e vw) S (vw + max 1 z) (nv + 1) (xt vb nv vw) (xt vq nv (max 1 z)) (xt vt nv (bw w r)) u sd no bo A B) (SF w Cx Av hc sd u nv vw lo hi) (-1) j1 (j1 + 2) st A := by
  obtain ⟨h0, o0, y0⟩ := h0
  have hN := cx.2.1
  have hst := h0.2.2.2.2.1
  have cA : ∀ c u, (4 ≤ c ∧ c ≤ 7) ∨ (11 ≤ c ∧ c ≤ 15) → (zi A 45 16 (nI (i1 + 1))).1 c u = S.1 c u := fun c u h => by rw [zi_c (by omega)]; exact h0.1.1.2 c u (by omega)
  obtain ⟨A2, ⟨⟨V1, V2, V3, V4⟩, e8⟩, run⟩ := zMv_det (w_st7 (l := l) (n := n) (d := d + 4) (A := zi A 45 16 (nI (i1 + 1))) (j := i1) (e := e) (r := r) (m := bw w r) (z := z) (a := vw) (b := hc * w) hg hw hw1 (by omega) he hr rfl hz ((cA 5 i1 (by omega)).trans u5) ((cA 12 e (by omega)).trans s12) ((cA 13 e (by omega)).trans s13) ((cA 14 e (by omega)).trans s14) hvw (by rw [zi_k (by decide), ← hc2]; exact h0.1.2.2.2.1) (hcw (by omega)))
  have g := ck_1 (z := 7) (e := 1) hg ho hw cx h0 hi' u4 (by omega) rfl (by omega) (by omega) (kg_S (l := l) (n := n) (d := d) hg (by omega) run)
  have f2 : ∀ c k, ¬ (c = 45 ∧ (k = 8 ∨ k = 16)) → ¬ (c = 58 ∧ vw * w ≤ k ∧ k < (vw + max 1 z) * w) → A2.1 c k = A.1 c k := fun c k q1 q2 => by rw [V1 c k (by omega) q2, zi_get, if_neg (by omega)]
  have c16 : A2.1 45 16 = nI (i1 + 1) := by rw [V1 45 16 (by omega) (by omega), zi_get, if_pos ⟨rfl, rfl⟩]
  rw [kEnd_g (st := st) ((f2 24 7 (by omega) (by omega)).trans h0.1.2.2.1) ((f2 45 18 (by omega) (by omega)).trans h0.1.2.2.2.2.2.1) hst] at g
  refine ⟨1, A2, g, ⟨fun c k q1 q2 q3 => f2 c k (by omega) (by omega), fun c k _ => V2 c k⟩, Or.inl ⟨st, Nat.le_refl _, by omega, fun B hB => ?_⟩⟩
  obtain ⟨hB, oB, yB⟩ := hB
  have oa : OA w r hc 0 A B := oB 0 (Nat.succ_pos _)
  obtain ⟨B1, vm1, b85, n1⟩ := mvar_go (l := l) (Gr := Gr) (n := n) (d := d) (V := fun x => B.1 122 (32 * 0 + x)) hg hw hw1 cx hB yB hr hz hvw t78 t80 t89 t21 hj (Or.inl ⟨t82, rfl, rfl⟩)
  have := var_core (V := fun x => B.1 122 (32 * 0 + x)) (i' := i1 + 1) (hc := hc) (Cx := Cx) (lo := lo) (hi := hi) hw1 hw hB yB s11 s12 s13 hr hz hvw hsd f2 (fun c k => V2 c k) e8 c16 (fun y x hy hx => by
    rw [V3 y x hy hx, ← (oa x hx).1]
    show (zi A 45 16 (nI (i1 + 1))).1 57 (hc * w + x) = A.1 57 (hc * w + x)
    rw [zi_c (by decide)]) (fun k hk q1 q2 => V4 k hk (by rw [zi_c (by decide)]; exact q1) (fun x hx => by
    show CNl ((zi A 45 16 (nI (i1 + 1))).1 57 (hc * w + x))
    rw [zi_c (by decide), (oa x hx).1]
    exact q2 x hx)) vm1 b85 (fun x hx => (oa x hx).2)
  exact ⟨_, n1, this.1, SF_mo this.2 (fun _ _ h => h) (by omega) (Nat.le_refl _) (Nat.le_refl _) (Nat.le_refl _) (Nat.le_refl _) (Nat.le_refl _) (Nat.le_refl _)⟩
theorem var_f2 (hg : ip_gk (lg_tbl, vwCl, Gr)) (ho : ip_old (lg_tbl, vwCl, Gr)) (hw1 : 1 ≤ w) (hw : w ≤ 32) (cx : CTX S T N M) (h0 : XS w Av S T 0 0 0 0 0 i1 hc 0 st A B0 ∧ YE w Av S vw nv vb vq vt u (sd + 1) no bo A B0) (he : e < 800) (hr : r ≤ 1) (hz : z ≤ 64) (hvw : vw + max 1 z ≤ 256) (hsd : sd < 80) (s11 : S.1 11 e = 1) (s12 : S.1 12 e = nI r) (s13 : S.1 13 e = nI z) (s14 : S.1 14 e = nI vw) (u4 : S.1 4 i1 = 8) (u5 : S.1 5 i1 = nI e) (t78 : T.1 78 j1 = 25) (t80 : T.1 80 j1 = nI r) (t89 : T.1 89 j1 = nI vw) (t82 : T.2 82 j1 = lN (256 * z)) (t21 : T.1 78 (j1 + 1) = 21) (hi' : i1 < N) (hj : j1 + 1 < M) (hhc : hc + 2 ≤ 9682) : TRz l Gr n w d (fun st A B => XS w Av S T 0 0 0 0 0 i1 hc 0 st A B ∧ YE w Av S vw nv vb vq vt u (sd + 1) no bo A B) (fun st A B => YB w (adA Av e vw) S T (i1 + 1) hc st A B ∧ YE w (adA Av e vw) S (vw + max 1 z) (nv + 1) (xt vb nv vw) (xt vq nv (max 1 z)) (xt vt nv (bw w r)) u sd no bo A B) (SF w Cx Av hc sd u nv vw lo hi) (-1) j1 (j1 + 2) st A := by
  obtain ⟨h0, y0⟩ := h0
  have hN := cx.2.1
  have hst := h0.2.2.2.2.1
  have cA : ∀ c u, (4 ≤ c ∧ c ≤ 7) ∨ (11 ≤ c ∧ c ≤ 15) → (zi A 45 16 (nI (i1 + 1))).1 c u = S.1 c u := fun c u h => by rw [zi_c (by omega)]; exact h0.1.1.2 c u (by omega)
  obtain ⟨A2, ⟨⟨V1, V2, V3, V4⟩, e8⟩, run⟩ := zMv_det (w_st8 (l := l) (n := n) (d := d + 4) (A := zi A 45 16 (nI (i1 + 1))) (j := i1) (e := e) (m := bw w r) (z := z) (a := vw) hg hw hw1 (by omega) he (bw_le hw1) hz ((cA 5 i1 (by omega)).trans u5) ((cA 13 e (by omega)).trans s13) ((cA 14 e (by omega)).trans s14) hvw)
  have g := ck_1 (z := 8) (e := 0) hg ho hw cx h0 hi' u4 (by omega) rfl (by omega) (by omega) (kg_S (l := l) (n := n) (d := d) hg (by omega) run)
  have f2 : ∀ c k, ¬ (c = 45 ∧ (k = 8 ∨ k = 16)) → ¬ (c = 58 ∧ vw * w ≤ k ∧ k < (vw + max 1 z) * w) → A2.1 c k = A.1 c k := fun c k q1 q2 => by rw [V1 c k (by omega) q2, zi_get, if_neg (by omega)]
  have c16 : A2.1 45 16 = nI (i1 + 1) := by rw [V1 45 16 (by omega) (by omega), zi_get, if_pos ⟨rfl, rfl⟩]
  have c8 : A2.1 45 8 = nI (hc * w) := by rw [e8, zi_k (by decide)]; exact h0.1.2.2.2.1
  rw [kEnd_g (st := st) ((f2 24 7 (by omega) (by omega)).trans h0.1.2.2.1) ((f2 45 18 (by omega) (by omega)).trans h0.1.2.2.2.2.2.1) hst] at g
  refine ⟨1, A2, g, ⟨fun c k q1 q2 q3 => f2 c k (by omega) (by omega), fun c k _ => V2 c k⟩, Or.inl ⟨st, Nat.le_refl _, by omega, fun B hB => ?_⟩⟩
  obtain ⟨hB, yB⟩ := hB
  obtain ⟨B1, vm1, b85, n1⟩ := mvar_go (l := l) (Gr := Gr) (n := n) (d := d) (V := fun _ => -2) hg hw hw1 cx hB yB hr hz hvw t78 t80 t89 t21 hj (Or.inr ⟨t82, rfl, rfl⟩)
  have := var_core (V := fun _ => -2) (i' := i1 + 1) (hc := hc) (Cx := Cx) (lo := lo) (hi := hi) hw1 hw hB yB s11 s12 s13 hr hz hvw hsd f2 (fun c k => V2 c k) c8 c16 (fun y x hy hx => V3 y x hy hx) (fun k hk q1 q2 => V4 k hk (by rw [zi_c (by decide)]; exact q1) q2) vm1 b85 (fun x hx => VC_c2)
  exact ⟨_, n1, this.1, this.2⟩
theorem y_var (hg : ip_gk (lg_tbl, vwCl, Gr)) (ho : ip_old (lg_tbl, vwCl, Gr)) (hw1 : 1 ≤ w) (hw : w ≤ 32) (cx : CTX S T N M) (nu : ∀ x, x ≤ N → ur S x ≤ 30) (hD : D ≤ 800) (an : aVar w D S T vw vw' Av Av' p i i' j j') (hsd : sd < 80) (hi' : i' ≤ N) (hj : j' ≤ M) (hhc : hc + 2 ≤ 9682) : ∃ vb' vq' vt' : Nat → Nat, (∀ t, t < nv → vb' t = vb t ∧ vq' t = vq t ∧ vt' t = vt t) ∧ (∃ e r z, Av' = adA Av e vw ∧ S.1 11 e = 1 ∧ r ≤ 1 ∧ S.1 12 e = nI r ∧ z ≤ 64 ∧ S.1 13 e = nI z ∧ vb' nv = vw ∧ vq' nv = max 1 z ∧ vt' nv = bw w r) ∧ vw ≤ vw' ∧ ∀ (Cx : Nat → Prop) st A B0, (YB w Av S T i hc st A B0 ∧ YE w Av S vw nv vb vq vt u sd no bo A B0) → (∀ r i1 j1, aX w D Av r S T (i + 2) i1 (j + 2) j1 → i1 < i' → j1 < j' → ∀ A1 B1 st1, XS w Av S T 0 0 0 0 0 (i + 2) hc 0 st1 A1 B1 → TRx l Gr n w d Av S T 0 0 0 0 0 r (i + 2) i1 (j + 2) j1 hc 0 st1 A1) → TRz l Gr n w d (fun st A B => YB w Av S T i hc st A B ∧ YE w Av S vw nv vb vq vt u sd no bo A B) (fun st A B => YB w Av' S T i' hc st A B ∧ YE w Av' S vw' (nv + 1) vb' vq' vt' u sd no bo A B) (SF w Cx Av hc sd u nv vw lo hi) 0 j j' st A := by
  obtain ⟨e, r, z, j1, q1, q2, q3, q4, q5, q6, q7, q8, q9, q10, q11, e2, f1, f2, f3, t1, t2, t3, t4, t5, t6, t7, hx⟩ := an
  refine ⟨xt vb nv vw, xt vq nv (max 1 z), xt vt nv (bw w r), fun t ht => ⟨xt_n ht, xt_n ht, xt_n ht⟩, ⟨e, r, z, q11, q2, q6, q3, q7, q4, xt_v, xt_v, xt_v⟩, by omega, fun Cx st A B0 h0 expr => ?_⟩
  subst e2 q8 q11
  have ji : j + 2 ≤ j1 := by
    rcases hx with ⟨i1, hx, -⟩ | ⟨ej, -⟩
    · have := aX_bnd hx
      omega
    · omega
  have ii : i + 2 < i' := by
    rcases hx with ⟨i1, hx, ei, -⟩ | ⟨ej, ei, -⟩
    · have := aX_bnd hx
      omega
    · omega
  have s1 := y_beg (l := l) (Gr := Gr) (n := n) (d := d) (Cx := Cx) (lo := lo) (hi := hi) hg ho hw1 hw cx h0 f1 f2 t1 t2 hsd (by omega) (by omega) (by omega)
  have smo : ∀ (A A' B B' : zS), SF w Cx Av hc (sd + 1) u nv vw lo hi A A' B B' → SF w Cx Av hc sd u nv vw lo hi A A' B B' := fun A A' B B' h => SF_mo h (fun _ _ h => h) (Nat.le_refl _) (by omega) (Nat.le_refl _) (Nat.le_refl _) (Nat.le_refl _) (Nat.le_refl _) (Nat.le_refl _)
  have s2 := TRz_seq (c2 := -1) (Z2 := fun st A B => XS w Av S T 0 0 0 0 0 (i + 2) hc 0 st A B ∧ YE w Av S vw nv vb vq vt u (sd + 1) no bo A B) (j2 := j + 2) h0 s1 (by omega) (fun st A B h => h.1.2.2.2.2.1) (fun _ _ _ _ _ _ => SF_tr) (fun _ _ _ _ h => h.2.2.2) (fun A1 B1 st1 _ z1 => TRz_mo (z_nop (z := 6) (z2 := 24) hg ho hw1 hw cx z1 (by omega) f3 (by omega) t3 (by omega) (by omega) (by omega) (Nat.le_refl _)) smo)
  rcases hx with ⟨i1, hx, ei, g1, g2, g3⟩ | ⟨ej, ei, g1, g2, g3⟩
  · have bx := aX_bnd hx
    subst ei
    have s3 := TRz_seq (c2 := 0) (Z2 := fun st A B => XS w Av S T 0 0 0 0 0 i1 (hc + 1) 1 st A B ∧ OAs w [r] hc 0 A B ∧ YE w Av S vw nv vb vq vt u (sd + 1) no bo A B) (j2 := j1) h0 s2 (by omega) (fun st A B h => h.1.2.2.2.2.1) (fun _ _ _ _ _ _ => SF_tr) (fun _ _ _ _ h => h.2.2.2) (fun A1 B1 st1 _ z1 => TRz_mo (u_z (os := [r]) (hcF := hc) (Cx := Cx) (lo := lo) (hi := hi) z1.1.2.2.2.2.1 (TRu_app (r := r) hw1 hw z1.1 (nu i1 (by omega)) (TRu_nil (l := l) (Gr := Gr) (n := n) (d := d) (i := i + 2) (j := j + 2)) (fun A2 B2 st2 _ x2 => expr r i1 j1 hx (by omega) (by omega) A2 B2 st2 x2)) (Nat.le_refl _)) smo)
    exact TRz_le (TRz_seq (c2 := -1) (j2 := j1 + 2) h0 s3 (by omega) (fun st A B h => h.1.2.2.2.2.1) (fun _ _ _ _ _ _ => SF_tr) (fun _ _ _ _ h => h.2.2.2) (fun A1 B1 st1 _ z1 => var_f1 (e := e) (r := r) hg ho hw1 hw cx z1 (by omega) q6 q7 (by omega) hsd q2 q3 q4 q5 g1 g2 t4 t5 t6 g3 t7 (by omega) (by omega) (by omega))) (by omega)
  · subst ej ei
    exact TRz_le (TRz_seq (c2 := -1) (j2 := j + 2 + 2) h0 s2 (by omega) (fun st A B h => h.1.2.2.2.2.1) (fun _ _ _ _ _ _ => SF_tr) (fun _ _ _ _ h => h.2.2.2) (fun A1 B1 st1 _ z1 => var_f2 (e := e) (r := r) (i1 := i + 2) (j1 := j + 2) hg ho hw1 hw cx z1 (by omega) q6 q7 (by omega) hsd q2 q3 q4 q5 g1 g2 t4 t5 t6 g3 t7 (by omega) (by omega) (by omega))) (by omega)
end YVB
