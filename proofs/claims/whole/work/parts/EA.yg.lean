/-! BUILD on both sides: for, the statement -/
section YFB
variable {l : Launch} {Cx : Nat → Prop} {Gr : zG} {n w : Nat} {d : Nat} {Av Av' A3v : Nat → Nat → Prop} {S T A A' A1 A2 B B' B0 B1 B2 : zS} {Z Z1 Z2 : Nat → zS → zS → Prop} {Fr : zS → zS → zS → zS → Prop} {c c1 c2 : Int} {i i' hc hr st r i1 i2 i3 j j' j1 j2 j3 N M z z2 e vw nv nv' u sd no p lo hi k a b y m q D v1 v2 vw' : Nat} {vb vq vt vb' vq' vt' bo : Nat → Nat}
theorem nvb_32 {xb : Nat → Bool} (hw : w ≤ 32) : nvb xb w 0 < 2 ^ 32 := Nat.lt_of_lt_of_le (nvb_lt w 0) (Nat.pow_le_pow_right (by omega) hw)
theorem VLk_ad (h : VLk w nv vb vq vt Av S) (s11 : S.1 11 e = 2) : VLk w nv vb vq vt (adA Av e a) S := fun e' a' r z h1 h2 => by
  rcases h1 with h1 | ⟨h1, -⟩
  · exact h e' a' r z h1 h2
  · rw [h1, s11] at h2
    exact absurd h2 (by decide)
theorem for_rest (hg : ip_gk (lg_tbl, vwCl, Gr)) (ho : ip_old (lg_tbl, vwCl, Gr)) (hw1 : 1 ≤ w) (hw : w ≤ 32) (cx : CTX S T N M) (he : e < 800) (s11 : S.1 11 e = 2) (hf : ∀ a, ¬ Av e a) (hAJ : ∀ e a, Av e a → S.1 11 e = 2 → a < j2 + 1) (hsub : ∀ e' a', adA Av e (j2 + 1) e' a' → A3v e' a') (hn : nv ≤ nv') (hx : ∀ t, t < nv → vb' t = vb t ∧ vq' t = vq t ∧ vt' t = vt t) (hvv : vw ≤ vw') (hv2 : vw' ≤ 256) (b4 : S.1 4 (i2 + 1) = 19) (b5 : S.1 5 (i2 + 1) = nI e) (b6 : S.1 6 (i2 + 1) = nI p) (b7 : S.1 7 (i2 + 1) = nI (i3 + 1)) (t39 : T.1 78 (j2 + 1) = 39) (t80 : T.1 80 (j2 + 1) = nI j3) (t81 : T.1 81 (j2 + 1) = nI p) (u4 : S.1 4 i3 = 20) (u5 : S.1 5 i3 = nI e) (u7 : S.1 7 i3 = nI (i2 + 2)) (t1 : T.1 78 j3 = 40) (t79 : T.1 79 j3 = nI (j2 + 1)) (hi' : i3 < N) (hi2 : i2 + 1 < N) (hj : j3 < M) (hj2 : j2 + 1 < M) (hhc : hc + 3 ≤ 9682) (h0 : XS w Av S T 0 0 0 0 0 (i2 + 1) (hc + 2) 2 st A B0 ∧ OAs w [0, 0] hc 0 A B0 ∧ YE w Av S vw nv vb vq vt u (sd + 1) no bo A B0)
    (body : ∀ A B0 st, (YB w (adA Av e (j2 + 1)) S T (i2 + 2) hc st A B0 ∧ YE w (adA Av e (j2 + 1)) S vw nv vb vq vt u (sd + 1) no bo A B0) → TRz l Gr n w d (fun st A B => YB w (adA Av e (j2 + 1)) S T (i2 + 2) hc st A B ∧ YE w (adA Av e (j2 + 1)) S vw nv vb vq vt u (sd + 1) no bo A B) (fun st A B => YB w A3v S T i3 hc st A B ∧ YE w A3v S vw' nv' vb' vq' vt' u (sd + 1) no bo A B) (SF w Cx (K2 S (adA Av e (j2 + 1))) hc (sd + 1) u nv vw lo hi) 0 (j2 + 2) j3 st A) : TRzf l Gr n w d (fun st A B => XS w Av S T 0 0 0 0 0 (i2 + 1) (hc + 2) 2 st A B ∧ OAs w [0, 0] hc 0 A B ∧ YE w Av S vw nv vb vq vt u (sd + 1) no bo A B) (fun st A B => YB w Av S T (i3 + 1) hc st A B ∧ YE w Av S vw' nv vb vq vt u (sd + 1) no bo A B) (SF w Cx (K2 S Av) hc (sd + 1) u nv vw lo hi) 560 (-257) (j2 + 1) (j3 + 1) st A := by
  have hN := cx.2.1
  have hM := cx.2.2.2
  have h00 := h0
  obtain ⟨h0, o0, y0⟩ := h0
  have hst := h0.2.2.2.2.1
  have hs := YE_s y0
  have hlk0 : VLk w nv vb vq vt Av S := y0.2.2.2.1
  have hlk := VLk_ad (a := j2 + 1) hlk0 s11
  obtain ⟨X, eX⟩ : ∃ X, X = opf (bw w 0) (A.1 57) (hc * w) := ⟨_, rfl⟩
  obtain ⟨Y, eY⟩ : ∃ Y, Y = opf (bw w 0) (A.1 57) ((hc + 1) * w) := ⟨_, rfl⟩
  obtain ⟨v1, e1⟩ : ∃ v1, v1 = nvb (xbo X) w 0 := ⟨_, rfl⟩
  obtain ⟨v2, e2⟩ : ∃ v2, v2 = nvb (xbo Y) w 0 := ⟨_, rfl⟩
  have b1 : v1 < 2 ^ 32 := by rw [e1]; exact nvb_32 hw
  have b2 : v2 < 2 ^ 32 := by rw [e2]; exact nvb_32 hw
  have cA : ∀ c u, (4 ≤ c ∧ c ≤ 7) → (zi A 45 16 (nI (i2 + 2))).1 c u = S.1 c u := fun c u h => by rw [zi_c (by omega)]; exact h0.1.1.2 c u (by omega)
  have hb3 : hc * w + w + w ≤ 9682 * w := by have := hcs (w := w) (hc := hc) (u := 1) (by omega); rw [hc2] at this; exact this
  obtain ⟨A2, q2, run⟩ := zMv_det (w_st19 (l := l) (n := n) (d := d + 4) (A := zi A 45 16 (nI (i2 + 2))) (j := i2 + 1) (e := e) (p := p) (ie := i3 + 1) (b := hc * w) (X := X) (Y := Y) (v1 := v1) (v2 := v2) hg hw (by omega) he ((cA 5 _ (by omega)).trans b5) ((cA 6 _ (by omega)).trans b6) ((cA 7 _ (by omega)).trans b7) (by rw [zi_k (by decide), ← hc3]; exact h0.1.2.2.2.1) hb3 (fun x hx => by rw [zi_c (by decide), eX, opf_at (m := bw w 0) hx]) (fun x hx => by rw [zi_c (by decide), eY, opf_at (m := bw w 0) hx, hc2]) e1 e2)
  have g := ck_1 (z := 19) (e := 2) hg ho hw cx h0 hi2 b4 (by omega) rfl (by omega) (by omega) (kg_S (l := l) (n := n) (d := d) hg (by omega) run)
  have ref : ∀ B, (XS w Av S T 0 0 0 0 0 (i2 + 1) (hc + 2) 2 st A B ∧ OAs w [0, 0] hc 0 A B ∧ YE w Av S vw nv vb vq vt u (sd + 1) no bo A B) → ∃ xv B2, ((v1 ≤ v2 ∧ v2 - v1 < 256 → xv = nI (j2 + 2) ∧ B2 = zi (zj (zj (zi B 73 85 (nI 0)) 141 (j2 + 1) (lN v1)) 142 (j2 + 1) (lN v2)) 143 (j2 + 1) (nI nv)) ∧ (v2 < v1 → xv = nI (j3 + 1) ∧ B2 = zi B 73 85 (nI 0)) ∧ (v1 ≤ v2 ∧ 256 ≤ v2 - v1 → xv = nI (j2 + 2) ∧ B2 = mT (zi B 73 85 (nI 0)) 7 (nI p))) ∧ zMi l Gr (zc n w) 168 M_Mo_statement (d + 11) [.ref 105, .int (nI (j2 + 1))] B (fun y X => y = xv ∧ X = B2) := fun B hB => by
    obtain ⟨hB, oB, yB⟩ := hB
    have p0 : OA w 0 hc 0 A B := oB 0 (Nat.succ_pos _)
    have p1 : OA w 0 (hc + 1) 1 A B := oB 1 (Nat.succ_lt_succ (Nat.succ_pos _))
    have mT' : ∀ c k, (78 ≤ c ∧ c ≤ 81) ∨ c = 89 ∨ (102 ≤ c ∧ c ≤ 107) ∨ c = 117 → B.1 c k = T.1 c k := hB.2.1.1.2.1
    exact zMi_det (ms_39 (d := d + 5) (q := 0) (js := j3) (p := p) (nv := nv) (X := X) (Y := Y) hg hw (by omega) (by omega) ((mT' 78 _ (by omega)).trans t39) ((mT' 80 _ (by omega)).trans t80) ((mT' 81 _ (by omega)).trans t81) yB.2.2.1.1 hB.2.1.2.1 (fun x hx => by rw [eX, opf_eq hw1 p0]; exact (opf_at (m := bw w 0) hx).symm) (fun x hx => by rw [eY, opf_eq hw1 p1]; exact (opf_at (m := bw w 0) hx).symm) e1 e2)
  have mg : ∀ B B2 jx, XS w Av S T 0 0 0 0 0 (i2 + 1) (hc + 2) 2 st A B → zMi l Gr (zc n w) 168 M_Mo_statement (d + 11) [.ref 105, .int (nI (j2 + 1))] B (fun y X => y = nI jx ∧ X = B2) → MGo l Gr n w d B (j2 + 1) B2 jx := fun B B2 jx hB r => mg_s (z := 39) hg hj2 hM (hB.2.1.1.1.trans cx.2.2.1) (XS_7 hB) ((hB.2.1.1.2.1 78 _ (by omega)).trans t39) (by omega) (by omega) r
  by_cases hA : v1 ≤ v2 ∧ v2 - v1 < 256
  · have ea := q2.1 hA
    have f2 : ∀ c k, ¬ (c = 45 ∧ (k = 8 ∨ k = 16)) → A2.1 c k = A.1 c k := fun c k q => by
      rw [ea]
      show (zi (zi A 45 16 (nI (i2 + 2))) 45 8 (nI (hc * w))).1 c k = _
      rw [zi_get, if_neg (by omega), zi_get, if_neg (by omega)]
    have c8 : A2.1 45 8 = nI (hc * w) := by
      rw [ea]
      show (zi (zi A 45 16 (nI (i2 + 2))) 45 8 (nI (hc * w))).1 45 8 = _
      exact zi_v
    have c16 : A2.1 45 16 = nI (i2 + 2) := by
      rw [ea]
      show (zi (zi A 45 16 (nI (i2 + 2))) 45 8 (nI (hc * w))).1 45 16 = _
      rw [zi_k (by decide)]
      exact zi_v
    have l48 : A2.2 48 e = lN v1 := by rw [ea, zj_c (by decide)]; exact zj_v
    have l49 : A2.2 49 e = lN v2 := by rw [ea]; exact zj_v
    have lo48 : ∀ c k, ¬ ((c = 48 ∨ c = 49) ∧ k = e) → A2.2 c k = A.2 c k := fun c k q => by
      rw [ea, zj_get, if_neg (by omega), zj_get, if_neg (by omega)]
      rfl
    rw [kEnd_g (A := A2) (st := st) ((f2 24 7 (by omega)).trans h0.1.2.2.1) ((f2 45 18 (by omega)).trans h0.1.2.2.2.2.2.1) hst] at g
    have kb : KBc A A2 := ⟨fun c k q1 q2 q3 => f2 c k (by omega), fun c k q => lo48 c k (by omega)⟩
    have K : KEc A A2 := ⟨fun k q1 q2 => f2 24 k (by omega), fun c k q1 q2 => f2 c k (by omega)⟩
    have first : TRzf l Gr n w d (fun st A B => XS w Av S T 0 0 0 0 0 (i2 + 1) (hc + 2) 2 st A B ∧ OAs w [0, 0] hc 0 A B ∧ YE w Av S vw nv vb vq vt u (sd + 1) no bo A B) (fun st A B => (YB w (adA Av e (j2 + 1)) S T (i2 + 2) hc st A B ∧ YE w (adA Av e (j2 + 1)) S vw nv vb vq vt u (sd + 1) no bo A B) ∧ LPx e (j2 + 1) v1 v2 nv A B) (SF w Cx (K2 S Av) hc (sd + 1) u nv vw lo hi) 0 (-1) (j2 + 1) (j2 + 2) st A := by
      refine ⟨1, A2, g, kb, Or.inl ⟨st, Nat.le_refl _, by omega, fun B hB => ?_⟩⟩
      obtain ⟨xv, B2, qb, r2⟩ := ref B hB
      obtain ⟨ev, eB⟩ := qb.1 hA
      subst ev
      obtain ⟨hB, oB, yB⟩ := hB
      have g2 : ∀ c k, ¬ (c = 73 ∧ k = 85) → ¬ (c = 143 ∧ k = j2 + 1) → B2.1 c k = B.1 c k := fun c k q1 q2 => by
        rw [eB, zi_get, if_neg q2]
        show (zi B 73 85 (nI 0)).1 c k = _
        rw [zi_get, if_neg q1]
      have b85 : B2.1 73 85 = nI 0 := by
        rw [eB, zi_c (by decide)]
        show (zi B 73 85 (nI 0)).1 73 85 = _
        exact zi_v
      have b143 : B2.1 143 (j2 + 1) = nI nv := by rw [eB]; exact zi_v
      have l141 : B2.2 141 (j2 + 1) = lN v1 := by
        rw [eB]
        show (zj (zj (zi B 73 85 (nI 0)) 141 (j2 + 1) (lN v1)) 142 (j2 + 1) (lN v2)).2 141 (j2 + 1) = _
        rw [zj_c (by decide)]
        exact zj_v
      have l142 : B2.2 142 (j2 + 1) = lN v2 := by
        rw [eB]
        show (zj (zj (zi B 73 85 (nI 0)) 141 (j2 + 1) (lN v1)) 142 (j2 + 1) (lN v2)).2 142 (j2 + 1) = _
        exact zj_v
      have lo141 : ∀ c k, ¬ ((c = 141 ∨ c = 142) ∧ k = j2 + 1) → B2.2 c k = B.2 c k := fun c k q => by
        rw [eB]
        show (zj (zj (zi B 73 85 (nI 0)) 141 (j2 + 1) (lN v1)) 142 (j2 + 1) (lN v2)).2 c k = _
        rw [zj_get, if_neg (by omega), zj_get, if_neg (by omega)]
        rfl
      have El : MEc B B2 := ⟨fun k q => g2 73 k (by omega) (by omega), fun c k q => g2 c k (by omega) (by omega)⟩
      have vm : VM B B2 := fun x hx => VC_ME El hx
      have km : KBm B B2 := ⟨fun c k q1 q2 q3 => g2 c k (by omega) (by omega), fun c k q => lo141 c k (by omega)⟩
      refine ⟨B2, mg B B2 _ hB r2, ⟨⟨⟨⟨CCo_K hB.1.1 kb, (f2 3 5 (by omega)).trans hB.1.2.1, (f2 24 7 (by omega)).trans hB.1.2.2.1, c8, c16, (f2 45 18 (by omega)).trans hB.1.2.2.2.2.2.1, (f2 45 13 (by omega)).trans hB.1.2.2.2.2.2.2.1, (f2 45 12 (by omega)).trans hB.1.2.2.2.2.2.2.2⟩, ⟨MCo_K hB.2.1.1 km, b85, (g2 73 70 (by omega) (by omega)).trans hB.2.1.2.2.1, (g2 73 110 (by omega) (by omega)).trans hB.2.1.2.2.2.1⟩, RL_E hB.2.2.1 K El, hst, ?_⟩, YE_out (A3v := Av) (e := e) (jl := j2 + 1) yB hs (Nat.le_refl _) hlk (Nat.le_refl _) (fun t _ => ⟨rfl, rfl, rfl⟩) (fun c k q => f2 c k (by omega)) (fun c k q => g2 c k (by omega) (by omega)) ((g2 73 97 (by omega) (by omega)).trans yB.2.2.1.1) vm (Nat.le_refl _) hs.2.1⟩, l48, l49, l141, l142, b143⟩, ?_⟩
      · intro e' a' r' z' h1 h2 h3 h4 h5
        rcases h1 with h1 | ⟨h1, h1'⟩
        · obtain ⟨k0, k1, k2, k3⟩ := hB.2.2.2.2.2.2.2 e' a' r' z' h1 h2 h3 h4 h5
          refine ⟨fun y => ⟨(k0 y).1, fun t ht => ?_⟩, fun y => ⟨(k1 y).1, fun t x ht hx => ?_⟩, fun y => ?_, fun y => absurd (k3 y).2.1 (by omega)⟩
          · rw [f2 20 _ (by omega), g2 117 _ (by omega) (by omega)]
            exact ⟨((k0 y).2 t ht).1, fun x hx => vm _ (((k0 y).2 t ht).2 x hx)⟩
          · rw [f2 58 _ (by omega), g2 132 _ (by omega) (by omega)]
            exact ⟨((k1 y).2 t x ht hx).1, vm _ ((k1 y).2 t x ht hx).2⟩
          · have ne : e' ≠ e := fun q => by rw [q] at h1; exact hf a' h1
            have na := hAJ e' a' h1 y
            rw [lo48 48 e' (by omega), lo141 141 a' (by omega)]
            exact k2 y
        · rw [h1]
          refine ⟨fun y => ?_, fun y => ?_, fun y => ?_, fun y => ?_⟩
          · rw [s11] at y; exact absurd y (by decide)
          · rw [s11] at y; exact absurd y (by decide)
          · rw [h1', l48, l141]
            exact ⟨v1, b1, rfl, rfl⟩
          · rw [s11] at y; exact absurd y (by decide)
      · refine ⟨⟨fun k _ => f2 57 k (by omega), fun k _ _ => f2 58 k (by omega), fun e' a' q => ?_⟩, ⟨fun t _ => g2 131 t (by omega) (by omega), fun t c _ q2 q3 => g2 c t (by omega) (by omega), fun k c _ q2 => g2 c k (by omega) (by omega), fun t c _ q2 q3 => g2 c t (by omega) (by omega), fun e' a' q => ?_⟩, vm, km⟩
        · have ne : e' ≠ e := fun q2 => by rw [q2] at q; exact hf a' q.1
          exact ⟨lo48 48 e' (by omega), lo48 49 e' (by omega)⟩
        · have na := hAJ e' a' q.1 q.2
          exact ⟨lo141 141 a' (by omega), lo141 142 a' (by omega), g2 143 a' (by omega) (by omega)⟩
    exact TRzf_le (TRzf_seq (f := 560) h00 first (by omega) (by omega) (fun _ _ _ _ _ _ => SF_tr) (fun _ _ _ _ h => h.2.2.2) (fun A1 B1 st1 _ z1 => for_loop hg ho hw1 hw cx he s11 hf hAJ hsub hs hlk hlk0 hn hx hvv hv2 u4 u5 u7 t1 t79 hi' hj (by omega) (by omega) b2 body (v2 - v1) v1 (by omega) A1 B1 st1 z1)) (by omega) (by omega)
  · by_cases hBk : v2 < v1
    · have ea := q2.2.1 hBk
      have f2 : ∀ c k, ¬ (c = 45 ∧ (k = 8 ∨ k = 16)) → A2.1 c k = A.1 c k := fun c k q => by
        rw [ea, zi_get, if_neg (by omega)]
        show (zi (zi A 45 16 (nI (i2 + 2))) 45 8 (nI (hc * w))).1 c k = _
        rw [zi_get, if_neg (by omega), zi_get, if_neg (by omega)]
      have c8 : A2.1 45 8 = nI (hc * w) := by
        rw [ea, zi_k (by decide)]
        show (zi (zi A 45 16 (nI (i2 + 2))) 45 8 (nI (hc * w))).1 45 8 = _
        exact zi_v
      have c16 : A2.1 45 16 = nI (i3 + 1) := by rw [ea]; exact zi_v
      have lo48 : ∀ c k, ¬ ((c = 48 ∨ c = 49) ∧ k = e) → A2.2 c k = A.2 c k := fun c k q => by
        rw [ea]
        show (zj (zj (zi (zi A 45 16 (nI (i2 + 2))) 45 8 (nI (hc * w))) 48 e (lN v1)) 49 e (lN v2)).2 c k = _
        rw [zj_get, if_neg (by omega), zj_get, if_neg (by omega)]
        rfl
      rw [kEnd_g (A := A2) (st := st) ((f2 24 7 (by omega)).trans h0.1.2.2.1) ((f2 45 18 (by omega)).trans h0.1.2.2.2.2.2.1) hst] at g
      have kb : KBc A A2 := ⟨fun c k q1 q2 q3 => f2 c k (by omega), fun c k q => lo48 c k (by omega)⟩
      have K : KEc A A2 := ⟨fun k q1 q2 => f2 24 k (by omega), fun c k q1 q2 => f2 c k (by omega)⟩
      refine ⟨1, A2, g, kb, Or.inl ⟨st, Nat.le_refl _, by omega, fun B hB => ?_⟩⟩
      obtain ⟨xv, B2, qb, r2⟩ := ref B hB
      obtain ⟨ev, eB⟩ := qb.2.1 hBk
      subst ev
      obtain ⟨hB, oB, yB⟩ := hB
      have g2 : ∀ c k, ¬ (c = 73 ∧ k = 85) → B2.1 c k = B.1 c k := fun c k q1 => by rw [eB, zi_get, if_neg q1]
      have l2 : ∀ c k, B2.2 c k = B.2 c k := fun c k => by rw [eB]; rfl
      have El : MEc B B2 := ⟨fun k q => g2 73 k (by omega), fun c k q => g2 c k (by omega)⟩
      have vm : VM B B2 := fun x hx => VC_ME El hx
      have km : KBm B B2 := ⟨fun c k q1 q2 q3 => g2 c k (by omega), fun c k q => l2 c k⟩
      refine ⟨B2, mg B B2 _ hB r2, ⟨⟨⟨CCo_K hB.1.1 kb, (f2 3 5 (by omega)).trans hB.1.2.1, (f2 24 7 (by omega)).trans hB.1.2.2.1, c8, c16, (f2 45 18 (by omega)).trans hB.1.2.2.2.2.2.1, (f2 45 13 (by omega)).trans hB.1.2.2.2.2.2.2.1, (f2 45 12 (by omega)).trans hB.1.2.2.2.2.2.2.2⟩, ⟨MCo_K hB.2.1.1 km, by rw [eB]; exact zi_v, (g2 73 70 (by omega)).trans hB.2.1.2.2.1, (g2 73 110 (by omega)).trans hB.2.1.2.2.2.1⟩, RL_E hB.2.2.1 K El, hst, ?_⟩, YE_out (A3v := Av) (e := e) (jl := j2 + 1) yB hs (Nat.le_refl _) hlk0 (Nat.le_refl _) (fun t _ => ⟨rfl, rfl, rfl⟩) (fun c k q => f2 c k (by omega)) (fun c k q => g2 c k (by omega)) ((g2 73 97 (by omega)).trans yB.2.2.1.1) vm hvv hv2⟩, ?_⟩
      · intro e' a' r' z' h1 h2 h3 h4 h5
        obtain ⟨k0, k1, k2, k3⟩ := hB.2.2.2.2.2.2.2 e' a' r' z' h1 h2 h3 h4 h5
        refine ⟨fun y => ⟨(k0 y).1, fun t ht => ?_⟩, fun y => ⟨(k1 y).1, fun t x ht hx => ?_⟩, fun y => ?_, fun y => absurd (k3 y).2.1 (by omega)⟩
        · rw [f2 20 _ (by omega), g2 117 _ (by omega)]
          exact ⟨((k0 y).2 t ht).1, fun x hx => vm _ (((k0 y).2 t ht).2 x hx)⟩
        · rw [f2 58 _ (by omega), g2 132 _ (by omega)]
          exact ⟨((k1 y).2 t x ht hx).1, vm _ ((k1 y).2 t x ht hx).2⟩
        · have ne : e' ≠ e := fun q => by rw [q] at h1; exact hf a' h1
          rw [lo48 48 e' (by omega), l2]
          exact k2 y
      · refine ⟨⟨fun k _ => f2 57 k (by omega), fun k _ _ => f2 58 k (by omega), fun e' a' q => ?_⟩, ⟨fun t _ => g2 131 t (by omega), fun t c _ q2 q3 => g2 c t (by omega), fun k c _ q2 => g2 c k (by omega), fun t c _ q2 q3 => g2 c t (by omega), fun e' a' q => ⟨l2 141 a', l2 142 a', g2 143 a' (by omega)⟩⟩, vm, km⟩
        have ne : e' ≠ e := fun q2 => by rw [q2] at q; exact hf a' q.1
        exact ⟨lo48 48 e' (by omega), lo48 49 e' (by omega)⟩
    · have hC : v1 ≤ v2 ∧ 256 ≤ v2 - v1 := by omega
      have ea := q2.2.2 hC
      obtain ⟨A3, e3⟩ : ∃ A3, A3 = zj (zj (zi (zi A 45 16 (nI (i2 + 2))) 45 8 (nI (hc * w))) 48 e (lN v1)) 49 e (lN v2) := ⟨_, rfl⟩
      rw [← e3] at ea
      have f3 : ∀ c k, ¬ (c = 45 ∧ (k = 8 ∨ k = 16)) → A3.1 c k = A.1 c k := fun c k q => by
        rw [e3]
        show (zi (zi A 45 16 (nI (i2 + 2))) 45 8 (nI (hc * w))).1 c k = _
        rw [zi_get, if_neg (by omega), zi_get, if_neg (by omega)]
      have kt := kT_0 (g := 7) (pl := nI p) ((f3 3 5 (by omega)).trans h0.1.2.1)
      rw [kEnd_g (A := A2) (st := st) (by rw [ea, kT_n (by decide)]; exact (f3 24 7 (by omega)).trans h0.1.2.2.1) (by rw [ea, kT_n (by decide)]; exact (f3 45 18 (by omega)).trans h0.1.2.2.2.2.2.1) hst] at g
      refine ⟨1, A2, g, ?_, Or.inr ⟨by omega, fun B hB => ?_⟩⟩
      · rw [ea]
        refine KBc_tr (A1 := A3) ⟨fun c k q1 q2 q3 => f3 c k (by omega), fun c k q => ?_⟩ KBc_T
        rw [e3, zj_get, if_neg (by omega), zj_get, if_neg (by omega)]
        rfl
      · obtain ⟨xv, B2, qb, r2⟩ := ref B hB
        obtain ⟨ev, eB⟩ := qb.2.2 hC
        subst ev
        obtain ⟨hB, oB, yB⟩ := hB
        have f7 : (zi B 73 85 (nI 0)).1 73 7 = 0 := by rw [zi_k (by decide)]; exact XS_7 hB
        have mt := mT_ff (f := 7) (pl := nI p) f7
        refine ⟨B2, _, mg B B2 _ hB r2, ?_, by rw [ea, kt.1]; decide, by rw [eB, mt.1, ea, kt.1], by rw [eB, mt.2, ea, kt.2]⟩
        rw [eB]
        exact KBm_tr (B1 := zi B 73 85 (nI 0)) ⟨fun c k q1 q2 q3 => by rw [zi_get, if_neg (by omega)], fun _ _ _ => rfl⟩ KBm_T
/-- a statement ends -/
theorem y_end (hg : ip_gk (lg_tbl, vwCl, Gr)) (cx : CTX S T N M) (t21 : T.1 78 j = 21) (hj : j < M) (hsd : sd < 80) : TRzf l Gr n w d (fun st A B => YB w Av S T i hc st A B ∧ YE w Av S vw nv vb vq vt u (sd + 1) no bo A B) (fun st A B => YB w Av S T i hc st A B ∧ YE w Av S vw nv vb vq vt u sd no bo A B) (SF w Cx (K2 S Av) hc sd u nv' vw' lo hi) 0 0 j (j + 1) st A := by
  have hM := cx.2.2.2
  refine ⟨0, A, CGo_rfl, KBc_rfl, Or.inl ⟨st, Nat.le_refl _, by omega, fun B hB => ?_⟩⟩
  obtain ⟨hB, y1, y2, ⟨y3, y4, y5, y6, y7⟩, y8, y9, o1, o2, o3, o4, o5⟩ := hB
  have b78 : B.1 78 j = nI 21 := (hB.2.1.1.2.1 78 j (by omega)).trans t21
  have g2 : ∀ c k, ¬ (c = 73 ∧ k = 94) → (zi B 73 94 (nI sd)).1 c k = B.1 c k := fun c k q => by rw [zi_get, if_neg q]
  have El : MEl B (zi B 73 94 (nI sd)) := ⟨fun k q => g2 73 k (by omega), fun c k q => g2 c k (by omega)⟩
  have vm : VM B (zi B 73 94 (nI sd)) := fun x hx => VC_El El hx
  have km : KBm B (zi B 73 94 (nI sd)) := ⟨fun c k q1 q2 q3 => g2 c k (by omega), fun _ _ _ => rfl⟩
  refine ⟨_, mg_s (z := 21) hg hj hM (hB.2.1.1.1.trans cx.2.2.1) (YB_7 hB) b78 (by omega) (by omega) (ms_21 (d := d + 5) (by omega) b78 y1), ⟨⟨hB.1, ⟨MCo_K hB.2.1.1 km, (g2 73 85 (by omega)).trans hB.2.1.2.1, (g2 73 70 (by omega)).trans hB.2.1.2.2.1, (g2 73 110 (by omega)).trans hB.2.1.2.2.2⟩, RL_El hB.2.2.1 hB.1.2.2.1 KEc_rfl El ⟨sd, by omega, zi_v⟩, hB.2.2.2.1, ?_⟩, zi_v, (g2 73 101 (by omega)).trans y2, ⟨(g2 73 97 (by omega)).trans y3, y4, y5, fun t ht => by rw [g2 133 t (by omega), g2 134 t (by omega), g2 135 t (by omega)]; exact y6 t ht, y7⟩, y8, y9, o1, (g2 73 69 (by omega)).trans o2, o3, o4, fun t ht => ?_⟩, ?_⟩
  · intro e a r z h1 h2 h3 h4 h5
    obtain ⟨k0, k1, k2, k3⟩ := hB.2.2.2.2 e a r z h1 h2 h3 h4 h5
    refine ⟨fun y => ⟨(k0 y).1, fun v hv => ?_⟩, fun y => ⟨(k1 y).1, fun v x hv hx => ?_⟩, k2, fun y => absurd (k3 y).2.1 (by omega)⟩
    · rw [g2 117 _ (by omega)]
      exact ⟨((k0 y).2 v hv).1, fun x hx => vm _ (((k0 y).2 v hv).2 x hx)⟩
    · rw [g2 132 _ (by omega)]
      exact ⟨((k1 y).2 v x hv hx).1, vm _ ((k1 y).2 v x hv hx).2⟩
  · obtain ⟨m, q1, q2, q3, q4⟩ := o5 t ht
    refine ⟨m, q1, (g2 120 t (by omega)).trans q2, q3, fun x hx => ?_⟩
    rw [g2 121 _ (by omega)]
    exact ⟨(q4 x hx).1, vm _ (q4 x hx).2⟩
  · exact ⟨⟨fun k _ => rfl, fun k _ _ => rfl, fun _ _ _ => ⟨rfl, rfl⟩⟩, ⟨fun t _ => g2 131 t (by omega), fun t c _ q2 q3 => g2 c t (by omega), fun k c _ q2 => g2 c k (by omega), fun t c _ q2 q3 => g2 c t (by omega), fun e a _ => ⟨rfl, rfl, g2 143 a (by omega)⟩⟩, vm, km⟩
theorem y_for (hg : ip_gk (lg_tbl, vwCl, Gr)) (ho : ip_old (lg_tbl, vwCl, Gr)) (hw1 : 1 ≤ w) (hw : w ≤ 32) (cx : CTX S T N M) (nu : ∀ x, x ≤ N → ur S x ≤ 30) (he : e < 800) (s11 : S.1 11 e = 2) (hf : ∀ a, ¬ Av e a) (hAJ : ∀ e a, Av e a → S.1 11 e = 2 → a < j2 + 1) (hsub : ∀ e' a', adA Av e (j2 + 1) e' a' → A3v e' a') (hn : nv ≤ nv') (hx : ∀ t, t < nv → vb' t = vb t ∧ vq' t = vq t ∧ vt' t = vt t) (hvv : vw ≤ vw') (hv2 : vw' ≤ 256) (g4 : S.1 4 i = 1) (g6 : S.1 6 i = nI p) (g17 : S.1 4 (i + 1) = 17) (c18 : S.1 4 i1 = 18) (d18 : S.1 4 i2 = 18) (b4 : S.1 4 (i2 + 1) = 19) (b5 : S.1 5 (i2 + 1) = nI e) (b6 : S.1 6 (i2 + 1) = nI p) (b7 : S.1 7 (i2 + 1) = nI (i3 + 1)) (u4 : S.1 4 i3 = 20) (u5 : S.1 5 i3 = nI e) (u7 : S.1 7 i3 = nI (i2 + 2)) (t20 : T.1 78 j = 20) (tp : T.1 81 j = nI p) (t38 : T.1 78 (j + 1) = 38) (t41 : T.1 78 j1 = 41) (t41' : T.1 78 j2 = 41) (t39 : T.1 78 (j2 + 1) = 39) (t80 : T.1 80 (j2 + 1) = nI j3) (t81 : T.1 81 (j2 + 1) = nI p) (t1 : T.1 78 j3 = 40) (t79 : T.1 79 j3 = nI (j2 + 1)) (t21 : T.1 78 (j3 + 1) = 21) (hsd : sd < 80) (hi1 : i + 2 < i1) (hi2 : i1 + 1 < i2) (hi3 : i2 + 2 ≤ i3) (hi' : i3 < N) (hj1 : j + 2 < j1) (hj2 : j1 + 1 < j2) (hj3 : j2 + 2 ≤ j3) (hj : j3 + 1 < M) (hhc : hc + 3 ≤ 9682) (h0 : YB w Av S T i hc st A B0 ∧ YE w Av S vw nv vb vq vt u sd no bo A B0) (ex1 : ∀ A1 B1 st1, XS w Av S T 0 0 0 0 0 (i + 2) hc 0 st1 A1 B1 → TRx l Gr n w d Av S T 0 0 0 0 0 0 (i + 2) i1 (j + 2) j1 hc 0 st1 A1) (ex2 : ∀ A1 B1 st1, XS w Av S T 0 0 0 0 0 (i1 + 1) (hc + 1) 1 st1 A1 B1 → TRx l Gr n w d Av S T 0 0 0 0 0 0 (i1 + 1) i2 (j1 + 1) j2 (hc + 1) 1 st1 A1)
    (body : ∀ A B0 st, (YB w (adA Av e (j2 + 1)) S T (i2 + 2) hc st A B0 ∧ YE w (adA Av e (j2 + 1)) S vw nv vb vq vt u (sd + 1) no bo A B0) → TRz l Gr n w d (fun st A B => YB w (adA Av e (j2 + 1)) S T (i2 + 2) hc st A B ∧ YE w (adA Av e (j2 + 1)) S vw nv vb vq vt u (sd + 1) no bo A B) (fun st A B => YB w A3v S T i3 hc st A B ∧ YE w A3v S vw' nv' vb' vq' vt' u (sd + 1) no bo A B) (SF w Cx (K2 S (adA Av e (j2 + 1))) hc (sd + 1) u nv vw lo hi) 0 (j2 + 2) j3 st A) : TRz l Gr n w d (fun st A B => YB w Av S T i hc st A B ∧ YE w Av S vw nv vb vq vt u sd no bo A B) (fun st A B => YB w Av S T (i3 + 1) hc st A B ∧ YE w Av S vw' nv vb vq vt u sd no bo A B) (SF w Cx (K2 S Av) hc sd u nv vw lo hi) 0 j (j3 + 2) st A := by
  have smk : ∀ (A A' B B' : zS), SF w Cx Av hc sd u nv vw lo hi A A' B B' → SF w Cx (K2 S Av) hc sd u nv vw lo hi A A' B B' := fun A A' B B' h => SF_mo h (fun _ _ h => h.1) (Nat.le_refl _) (Nat.le_refl _) (Nat.le_refl _) (Nat.le_refl _) (Nat.le_refl _) (Nat.le_refl _) (Nat.le_refl _)
  have smo : ∀ (A A' B B' : zS), SF w Cx Av hc (sd + 1) u nv vw lo hi A A' B B' → SF w Cx (K2 S Av) hc sd u nv vw lo hi A A' B B' := fun A A' B B' h => SF_mo h (fun _ _ h => h.1) (Nat.le_refl _) (by omega) (Nat.le_refl _) (Nat.le_refl _) (Nat.le_refl _) (Nat.le_refl _) (Nat.le_refl _)
  have smo2 : ∀ (A A' B B' : zS), SF w Cx (K2 S Av) hc (sd + 1) u nv vw lo hi A A' B B' → SF w Cx (K2 S Av) hc sd u nv vw lo hi A A' B B' := fun A A' B B' h => SF_mo h (fun _ _ h => h) (Nat.le_refl _) (by omega) (Nat.le_refl _) (Nat.le_refl _) (Nat.le_refl _) (Nat.le_refl _) (Nat.le_refl _)
  have s1 := TRz_mo (y_beg (l := l) (Gr := Gr) (n := n) (d := d) (Cx := Cx) (lo := lo) (hi := hi) hg ho hw1 hw cx h0 g4 g6 t20 tp hsd (by omega) (by omega) (by omega)) smk
  have s2 := TRzf_seq (f := 300) (f2 := 300) (c2 := -1) (Z2 := fun st A B => XS w Av S T 0 0 0 0 0 (i + 2) hc 0 st A B ∧ YE w Av S vw nv vb vq vt u (sd + 1) no bo A B) (j2 := j + 2) h0 (TRz_f s1) (by omega) (by omega) (fun _ _ _ _ _ _ => SF_tr) (fun _ _ _ _ h => h.2.2.2) (fun A1 B1 st1 _ z1 => TRz_f (TRz_mo (z_nop (z := 17) (z2 := 38) hg ho hw1 hw cx z1 (by omega) g17 (by omega) t38 (by omega) (by omega) (by omega) (Nat.le_refl _)) smo))
  have s3 := TRzf_seq (f := 300) (f2 := 300) (c2 := 0) (Z2 := fun st A B => XS w Av S T 0 0 0 0 0 (i2 + 1) (hc + 2) 2 st A B ∧ OAs w [0, 0] hc 0 A B ∧ YE w Av S vw nv vb vq vt u (sd + 1) no bo A B) (j2 := j2 + 1) h0 s2 (by omega) (by omega) (fun _ _ _ _ _ _ => SF_tr) (fun _ _ _ _ h => h.2.2.2) (fun A1 B1 st1 _ z1 => by
    have q1 := TRu_app (r := 0) hw1 hw z1.1 (nu i1 (by omega)) (TRu_nil (l := l) (Gr := Gr) (n := n) (d := d) (i := i + 2) (j := j + 2)) (fun A2 B2 st2 _ x2 => ex1 A2 B2 st2 x2)
    have q2 := TRu_nop2 (os := [0]) (ex := 0) hg ho hw1 hw cx z1.1 c18 t41 (by omega) (by omega) (by show hc + 1 + 1 ≤ _; omega) q1
    have q3 := TRu_app (r := 0) hw1 hw z1.1 (nu i2 (by omega)) q2 (fun A2 B2 st2 _ x2 => ex2 A2 B2 st2 x2)
    have q4 := TRu_nop2 (os := [0, 0]) (ex := 0) hg ho hw1 hw cx z1.1 d18 t41' (by omega) (by omega) (by show hc + 2 + 1 ≤ _; omega) q3
    exact TRz_f (TRz_mo (u_z (os := [0, 0]) (hcF := hc) (Cx := Cx) (lo := lo) (hi := hi) z1.1.2.2.2.2.1 q4 (Nat.le_refl _)) smo))
  have s4 := TRzf_seq (f := 300) (f2 := 560) (c2 := -257) (Z2 := fun st A B => YB w Av S T (i3 + 1) hc st A B ∧ YE w Av S vw' nv vb vq vt u (sd + 1) no bo A B) (j2 := j3 + 1) h0 s3 (by omega) (by omega) (fun _ _ _ _ _ _ => SF_tr) (fun _ _ _ _ h => h.2.2.2) (fun A1 B1 st1 _ z1 => by
    have q1 := for_rest (l := l) (Gr := Gr) (n := n) (d := d) (Cx := Cx) (lo := lo) (hi := hi) hg ho hw1 hw cx he s11 hf hAJ hsub hn hx hvv hv2 b4 b5 b6 b7 t39 t80 t81 u4 u5 u7 t1 t79 hi' (by omega) (by omega) (by omega) hhc z1 body
    obtain ⟨k1, A2, g1, kb1, ⟨st2, s2, b1, m1⟩ | b1⟩ := q1
    · refine ⟨k1, A2, g1, kb1, Or.inl ⟨st2, s2, b1, fun B hB => ?_⟩⟩
      obtain ⟨B2, n1, z1, f1⟩ := m1 B hB
      exact ⟨B2, n1, z1, smo2 _ _ _ _ f1⟩
    · exact ⟨k1, A2, g1, kb1, Or.inr b1⟩)
  have s5 := TRzf_seq (f := 300) (f2 := 0) (c2 := 0) (j2 := j3 + 1 + 1) h0 s4 (by omega) (by omega) (fun _ _ _ _ _ _ => SF_tr) (fun _ _ _ _ h => h.2.2.2) (fun A1 B1 st1 _ z1 => y_end (l := l) (Gr := Gr) (n := n) (d := d) (nv' := nv) (vw' := vw) (Cx := Cx) (lo := lo) (hi := hi) hg cx t21 hj hsd)
  exact TRzf_le s5 (by omega) (by omega)
end YFB
