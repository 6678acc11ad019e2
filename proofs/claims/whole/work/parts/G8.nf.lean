/-! mean() beside build: for -/
section OFO
variable {l l2 : Launch} {Gr Gr2 : zG} {n w d d2 : Nat} {inb : Nat → Nat} {wb : Nat} {act : Prop} {Av A3 : Nat → Nat → Prop} {S T B B' B1 B2 C C' C1 C2 : zS} {j0 u nv vw vw' sd st j j' j1 j2 j3 t a r z e p M N hr k D nv2 v v2 : Nat} {vb vq vt vb2 vq2 vt2 : Nat → Nat} {Z : Nat → zS → zS → Prop} {cs : Nat → Prop}
/-- a for's NAME is visible too -/
theorem NV_lp (h : NV inb wb w act Av S 0 0 B C) (g11 : S.1 11 e = 2) (hv : v < 2 ^ w) (hb : B.2 141 a = lN v) (hc : act → C.2 141 a = lN v) : NV inb wb w act (adA Av e a) S 0 0 B C := fun e' a' r z h1 h2 h3 h4 h5 => by
  rcases h1 with h1 | ⟨h1, h1'⟩
  · exact h e' a' r z h1 h2 h3 h4 h5
  · rw [h1, h1']
    exact ⟨fun q => absurd (g11.symm.trans q) (by decide), fun q => absurd (g11.symm.trans q) (by decide), fun _ => ⟨v, hv, hb, hc⟩, fun q => absurd (g11.symm.trans q) (by decide)⟩
/-- the loop; j: the place of FOR -/
theorem os_loop (hg : ip_gk (lg_tbl, vwCl, Gr)) (hg2 : ip_gk (lg_tbl, vwCl, Gr2)) (hw1 : 1 ≤ w) (hw : w ≤ 32) (hi : ∀ t, inb t = 0 ∨ inb t = 1) (cx : CTX S T N M) (hl : VLc w nv vb vq vt Av S) (hlv : ∀ e a, Av e a → S.1 11 e = 2 → a < j0) (hj0 : j0 ≤ j) (g11 : S.1 11 e = 2) (t40 : T.1 78 j3 = 40) (t79 : T.1 79 j3 = nI j) (hsd : sd < 80) (hjj : j < j3) (hj : j3 + 1 < M) (hnv : nv ≤ vw) (hv256 : vw ≤ 256) (y6 : ∀ t, t < nv → 1 ≤ vq t ∧ vb t + vq t ≤ vw ∧ (vt t = 1 ∨ vt t = w)) (y7 : ∀ t, t + 1 < nv → vb t + vq t ≤ vb (t + 1)) (y8 : VLk w nv vb vq vt Av S) (hvw : vw ≤ vw') (hv' : vw' ≤ 256) (s2 : ∀ e' a, adA Av e j e' a → A3 e' a) (n2 : nv ≤ nv2) (hv2 : v2 < 2 ^ w) (body : ∀ st' B' C', MYS inb wb w act (adA Av e j) S T vw nv vb vq vt u (sd + 1) st' B' C' → OZ l l2 Gr Gr2 n w d d2 act (j + 1) u nv (MYS inb wb w act A3 S T vw' nv2 vb2 vq2 vt2 u (sd + 1)) (j + 1) j3 st' B' C') : ∀ (k v st : Nat) (B C : zS), v + k = v2 → MYS inb wb w act Av S T vw nv vb vq vt u (sd + 1) st B C → B.2 141 j = lN v → B.2 142 j = lN v2 → B.1 143 j = nI nv → (act → C.2 141 j = lN v ∧ C.2 142 j = lN v2) → OZ l l2 Gr Gr2 n w d d2 act j0 u nv (MYS inb wb w act Av S T vw' nv vb vq vt u (sd + 1)) (j + 1) (j3 + 1) st B C := by
  have hM := cx.2.2.2
  have h32 : 2 ^ w ≤ 2 ^ 32 := Nat.pow_le_pow_right (by omega) hw
  intro k
  induction k with
  | zero =>
    intro v st B C hk my b141 b142 b143 hc
    have hN := my.1.2.2.2
    have my' : MYS inb wb w act (adA Av e j) S T vw nv vb vq vt u (sd + 1) st B C := ⟨⟨my.1.1, my.1.2.1, my.1.2.2.1, NV_lp hN g11 (by omega) b141 (fun q => (hc q).1)⟩, my.2.1, my.2.2.1, my.2.2.2.1, VLk_ad y8 g11⟩
    rcases body st B C my' with ⟨B3, C3, st3, s3, m3, n3, f3, ex3, my3⟩ | ⟨B3, j9, m3, z3⟩
    rotate_left
    · exact Or.inr ⟨B3, j9, m3, z3⟩
    obtain ⟨⟨hB3, hC3, -, hN3⟩, w1, w2, ⟨w3, w4, w5, w6, w7⟩, w8⟩ := my3
    obtain ⟨x, B4, ⟨-, eB⟩, r4⟩ := zMi_det (ms_40 (l := l) (Gr := Gr) (n := n) (w := w) (d := d + 5) (jl := j) (nv := nv) (v1 := v) (v2 := v2) (by omega) (by omega) ((hB3.1.2.1 78 j3 (by omega)).trans t40) ((hB3.1.2.1 79 j3 (by omega)).trans t79) ((f3.1 143 j (by omega)).trans b143) ((f3.2 141 j (by omega)).trans b141) ((f3.2 142 j (by omega)).trans b142) (by omega) (by omega))
    obtain ⟨ex, e4⟩ := eB (by omega)
    subst ex e4
    have m4 : MGo l Gr n w d B3 j3 (zi B3 73 97 (nI nv)) (j3 + 1) := mg_s (z := 40) hg (by omega) hM (hB3.1.1.trans cx.2.2.1) hB3.2.1 ((hB3.1.2.1 78 j3 (by omega)).trans t40) (by omega) (by omega) r4
    have f4 : ∀ c k, ¬ (c = 73 ∧ k = 97) → (zi B3 73 97 (nI nv)).1 c k = B3.1 c k := fun c k q => by rw [zi_get, if_neg q]
    have me : MEl B3 (zi B3 73 97 (nI nv)) := MEl_f (fun c k q => f4 c k (by omega))
    have ex4 := Ex_l me hB3.2.2.1
    have fA : SFm j0 u nv B (zi B3 73 97 (nI nv)) := SFm_tr (SFm_mo f3 (by omega) (Nat.le_refl _) (Nat.le_refl _)) ⟨fun c k q => f4 c k (by omega), fun _ _ _ => rfl⟩
    have n4 : act → NGo l2 Gr2 n w d2 C3 j3 C3 (j3 + 1) := fun q => by
      have hC3 := hC3 q
      refine nst_1 (z := 40) hg2 cx hC3 (by omega) t40 (by omega) (by omega) (zMi_imp (mt_efor (a := j) (NX := v) (NY := v2) (by omega) ((hC3.1.2.1 78 j3 (by omega)).trans t40) ((hC3.1.2.1 79 j3 (by omega)).trans t79) (by omega) (((n3 q).2.2 141 j (by omega) (by omega)).trans (hc q).1) (((n3 q).2.2 142 j (by omega) (by omega)).trans (hc q).2) (by omega) (by omega)) (fun y X' h => h.2 (by omega)))
    have yr := my.2.2.2.1.2.2.2.1
    refine Or.inl ⟨_, C3, st3, s3, MGo_tr m3 m4, fun q => ⟨NGo_tr (n3 q).1 (n4 q), FCs_mo (n3 q).2 (by omega)⟩, fA, Ex_tr ex3 ex4, ⟨⟨MB_f hB3 (fun c k q => f4 c k (by omega)) (fun _ => rfl) ((f4 73 7 (by omega)).trans hB3.2.1) (Gd_l me ⟨sd + 1, by omega, (f4 73 94 (by omega)).trans w1⟩ hB3.2.2.1) ((f4 73 85 (by omega)).trans hB3.2.2.2.1), hC3, Nat.le_refl _, NV_sm hi (NV_sub hN3 (fun e' a q => s2 e' a (Or.inl q))) ex4 (fun c k q => f4 c k (by omega)) (fun _ _ _ _ => rfl) (fun _ _ => rfl) (fun _ _ => rfl) (fun _ _ _ _ _ => rfl)⟩, (f4 73 94 (by omega)).trans w1, (f4 73 101 (by omega)).trans w2, ⟨zi_v, by omega, hv', VS_mo yr (fun c k q => fA.1 c k (by omega)) hvw, y7⟩, y8⟩⟩
  | succ k ih =>
    intro v st B C hk my b141 b142 b143 hc
    have hN := my.1.2.2.2
    have my' : MYS inb wb w act (adA Av e j) S T vw nv vb vq vt u (sd + 1) st B C := ⟨⟨my.1.1, my.1.2.1, my.1.2.2.1, NV_lp hN g11 (by omega) b141 (fun q => (hc q).1)⟩, my.2.1, my.2.2.1, my.2.2.2.1, VLk_ad y8 g11⟩
    rcases body st B C my' with ⟨B3, C3, st3, s3, m3, n3, f3, ex3, my3⟩ | ⟨B3, j9, m3, z3⟩
    rotate_left
    · exact Or.inr ⟨B3, j9, m3, z3⟩
    obtain ⟨⟨hB3, hC3, -, hN3⟩, w1, w2, ⟨w3, w4, w5, w6, w7⟩, w8⟩ := my3
    obtain ⟨x, B4, ⟨eB, -⟩, r4⟩ := zMi_det (ms_40 (l := l) (Gr := Gr) (n := n) (w := w) (d := d + 5) (jl := j) (nv := nv) (v1 := v) (v2 := v2) (by omega) (by omega) ((hB3.1.2.1 78 j3 (by omega)).trans t40) ((hB3.1.2.1 79 j3 (by omega)).trans t79) ((f3.1 143 j (by omega)).trans b143) ((f3.2 141 j (by omega)).trans b141) ((f3.2 142 j (by omega)).trans b142) (by omega) (by omega))
    obtain ⟨ex, e4⟩ := eB (by omega)
    subst ex e4
    have m4 : MGo l Gr n w d B3 j3 (zj (zi B3 73 97 (nI nv)) 141 j (lN (v + 1))) (j + 1) := mg_s (z := 40) hg (by omega) hM (hB3.1.1.trans cx.2.2.1) hB3.2.1 ((hB3.1.2.1 78 j3 (by omega)).trans t40) (by omega) (by omega) r4
    have f4 : ∀ c k, ¬ (c = 73 ∧ k = 97) → (zj (zi B3 73 97 (nI nv)) 141 j (lN (v + 1))).1 c k = B3.1 c k := fun c k q => by
      show (zi B3 73 97 (nI nv)).1 c k = _
      rw [zi_get, if_neg q]
    have l4 : ∀ c k, ¬ (c = 141 ∧ k = j) → (zj (zi B3 73 97 (nI nv)) 141 j (lN (v + 1))).2 c k = B3.2 c k := fun c k q => by
      rw [zj_get, if_neg q]
      rfl
    have me : MEl B3 (zj (zi B3 73 97 (nI nv)) 141 j (lN (v + 1))) := MEl_f (fun c k q => f4 c k (by omega))
    have ex4 := Ex_l me hB3.2.2.1
    have fA : SFm j0 u nv B (zj (zi B3 73 97 (nI nv)) 141 j (lN (v + 1))) := SFm_tr (SFm_mo f3 (by omega) (Nat.le_refl _) (Nat.le_refl _)) ⟨fun c k q => f4 c k (by omega), fun c k q => l4 c k (by omega)⟩
    have n4 : act → NGo l2 Gr2 n w d2 C3 j3 (zj C3 141 j (lN (v + 1))) (j + 1) := fun q => by
      have hC3 := hC3 q
      refine nst_1 (z := 40) hg2 cx hC3 (by omega) t40 (by omega) (by omega) (zMi_imp (mt_efor (a := j) (NX := v) (NY := v2) (by omega) ((hC3.1.2.1 78 j3 (by omega)).trans t40) ((hC3.1.2.1 79 j3 (by omega)).trans t79) (by omega) (((n3 q).2.2 141 j (by omega) (by omega)).trans (hc q).1) (((n3 q).2.2 142 j (by omega) (by omega)).trans (hc q).2) (by omega) (by omega)) (fun y X' h => h.1 (by omega)))
    have fc4 : FCs j0 C3 (zj C3 141 j (lN (v + 1))) := ⟨fun _ _ _ _ => rfl, fun c k q1 q2 => by rw [zj_get, if_neg (by omega)]⟩
    have yr := my.2.2.2.1.2.2.2.1
    refine OZ_seq (Z1 := fun st' B' C' => MYS inb wb w act Av S T vw nv vb vq vt u (sd + 1) st' B' C' ∧ B'.2 141 j = lN (v + 1) ∧ B'.2 142 j = lN v2 ∧ B'.1 143 j = nI nv ∧ (act → C'.2 141 j = lN (v + 1) ∧ C'.2 142 j = lN v2)) (j1 := j + 1) (Or.inl ⟨_, zj C3 141 j (lN (v + 1)), st3, s3, MGo_tr m3 m4, fun q => ⟨NGo_tr (n3 q).1 (n4 q), FCs_tr (FCs_mo (n3 q).2 (by omega)) fc4⟩, fA, Ex_tr ex3 ex4, ⟨⟨⟨MB_f hB3 (fun c k q => f4 c k (by omega)) (fun k => l4 82 k (by omega)) ((f4 73 7 (by omega)).trans hB3.2.1) (Gd_l me ⟨sd + 1, by omega, (f4 73 94 (by omega)).trans w1⟩ hB3.2.2.1) ((f4 73 85 (by omega)).trans hB3.2.2.2.1), fun q => MN_s (hC3 q) fc4 (hC3 q).2.1 (hC3 q).2.2.1, Nat.le_refl _, NV_sm hi (NV_sub hN3 (fun e' a q => s2 e' a (Or.inl q))) ex4 (fun c k q => f4 c k (by omega)) (fun e' a q1 q2 => l4 141 a (by have := hlv e' a q1 q2; omega)) (fun _ a => inW_s fc4 a) (fun _ k => by rw [zj_get, if_neg (by omega)]) (fun _ e' a q1 q2 => by rw [zj_get, if_neg (by have := hlv e' a q1 q2; omega)])⟩, (f4 73 94 (by omega)).trans w1, (f4 73 101 (by omega)).trans w2, ⟨?_, hnv, hv256, VS_mo yr (fun c k q => fA.1 c k (by omega)) (Nat.le_refl _), y7⟩, y8⟩, by rw [zj_get, if_pos ⟨rfl, rfl⟩], (l4 142 j (by omega)).trans ((f3.2 142 j (by omega)).trans b142), (f4 143 j (by omega)).trans ((f3.1 143 j (by omega)).trans b143), fun q => ⟨by rw [zj_get, if_pos ⟨rfl, rfl⟩], ?_⟩⟩⟩) (fun B1 C1 st1 _ z1 => ih (v + 1) st1 B1 C1 (by omega) z1.1 z1.2.1 z1.2.2.1 z1.2.2.2.1 z1.2.2.2.2)
    · show (zi B3 73 97 (nI nv)).1 73 97 = _
      exact zi_v
    · rw [zj_get, if_neg (by omega), (n3 q).2.2 142 j (by omega) (by omega)]
      exact (hc q).2
/-- for, behind its EXPRs; j: the place of FOR -/
theorem os_for (hg : ip_gk (lg_tbl, vwCl, Gr)) (hg2 : ip_gk (lg_tbl, vwCl, Gr2)) (hw1 : 1 ≤ w) (hw : w ≤ 32) (hi : ∀ t, inb t = 0 ∨ inb t = 1) (cx : CTX S T N M) (x1 : MXS inb wb w act Av S T 0 0 0 2 st B C) (o1 : WVs inb wb w act [0, 0] cs 0 B C) (hc0 : cs 0) (hc1 : cs 1) (y : MYe w Av S vw nv vb vq vt u (sd + 1) B) (hl : VLc w nv vb vq vt Av S) (hlv : ∀ e a, Av e a → S.1 11 e = 2 → a < j0) (hj0 : j0 ≤ j) (g11 : S.1 11 e = 2) (t39 : T.1 78 j = 39) (t80 : T.1 80 j = nI j3) (t81 : T.1 81 j = nI p) (t40 : T.1 78 j3 = 40) (t79 : T.1 79 j3 = nI j) (t21 : T.1 78 (j3 + 1) = 21) (hsd : sd < 80) (hjj : j < j3) (hj : j3 + 1 < M) (hvw : vw ≤ vw') (hv' : vw' ≤ 256) (s2 : ∀ e' a, adA Av e j e' a → A3 e' a) (n2 : nv ≤ nv2) (body : ∀ st' B' C', MYS inb wb w act (adA Av e j) S T vw nv vb vq vt u (sd + 1) st' B' C' → OZ l l2 Gr Gr2 n w d d2 act (j + 1) u nv (MYS inb wb w act A3 S T vw' nv2 vb2 vq2 vt2 u (sd + 1)) (j + 1) j3 st' B' C') : OZ l l2 Gr Gr2 n w d d2 act j0 u nv (MYS inb wb w act Av S T vw' nv vb vq vt u sd) j (j3 + 2) st B C := by
  obtain ⟨hB, hC, hh, hN⟩ := x1
  obtain ⟨NX, x1', x2, x3⟩ := o1 0 (Nat.succ_pos _)
  obtain ⟨NY, v1, v2, v3⟩ := o1 1 (Nat.succ_lt_succ (Nat.succ_pos _))
  have x1' : NX < 2 ^ w := x1'
  have x2 : act → C.2 147 0 = lN NX := x2
  have x3 : ∀ x, x < w → V2 inb wb (cs 0) B (B.1 122 (32 * 0 + x)) (NX.testBit x) := x3
  have v1 : NY < 2 ^ w := v1
  have v2 : act → C.2 147 (0 + 1) = lN NY := v2
  have v3 : ∀ x, x < w → V2 inb wb (cs 1) B (B.1 122 (32 * (0 + 1) + x)) (NY.testBit x) := v3
  have hM := cx.2.2.2
  have h32 : 2 ^ w ≤ 2 ^ 32 := Nat.pow_le_pow_right (by omega) hw
  have y' := y
  obtain ⟨y1, y2, ⟨y3, y4, y5, y6, y7⟩, y8⟩ := y'
  have eX : NX = nvb (xbo (fun x => B.1 122 (32 * 0 + x))) w 0 := (nvb_cn (fun x hx => (x3 x hx).2 hc0) x1').symm
  have eY : NY = nvb (xbo (fun x => B.1 122 (32 * (0 + 1) + x))) w 0 := (nvb_cn (fun x hx => (v3 x hx).2 hc1) v1).symm
  obtain ⟨x, B2, ⟨k1, k2, k3⟩, r2⟩ := zMi_det (ms_39 (l := l) (Gr := Gr) (n := n) (w := w) (d := d + 5) (q := 0) (js := j3) (p := p) (nv := nv) (v1 := NX) (v2 := NY) (X := fun x => B.1 122 (32 * 0 + x)) (Y := fun x => B.1 122 (32 * (0 + 1) + x)) hg hw (by omega) (by omega) ((hB.1.2.1 78 j (by omega)).trans t39) ((hB.1.2.1 80 j (by omega)).trans t80) ((hB.1.2.1 81 j (by omega)).trans t81) y3 hB.2.2.2.1 (fun _ _ => rfl) (fun _ _ => rfl) eX eY)
  have m2 : ∀ j9, x = nI j9 → MGo l Gr n w d B j B2 j9 := fun j9 e9 => by
    rw [e9] at r2
    exact mg_s (z := 39) hg (by omega) hM (hB.1.1.trans cx.2.2.1) hB.2.1 ((hB.1.2.1 78 j (by omega)).trans t39) (by omega) (by omega) r2
  have cf := fun q : act => mt_for (l := l2) (Gr := Gr2) (n := n) (w := w) (d := d2 + 2) (h := 0) (j := j3) (NX := NX) (NY := NY) (by omega) (by omega) (hC q).2.1 (((hC q).1.2.1 78 j (by omega)).trans t39) (((hC q).1.2.1 80 j (by omega)).trans t80) (x2 q) (v2 q) (by omega) (by omega)
  by_cases z : NX ≤ NY
  · by_cases z2 : NY - NX < 256
    · obtain ⟨ex, e2⟩ := k1 ⟨z, z2⟩
      have g := m2 _ ex
      subst e2
      have f : ∀ c k, ¬ (c = 73 ∧ k = 85) → ¬ (c = 143 ∧ k = j) → (zi (zj (zj (zi B 73 85 (nI 0)) 141 j (lN NX)) 142 j (lN NY)) 143 j (nI nv)).1 c k = B.1 c k := fun c k q1 q2 => by
        rw [zi_get, if_neg q2]
        show (zi B 73 85 (nI 0)).1 c k = _
        rw [zi_get, if_neg q1]
      have l2' : ∀ c k, ¬ ((c = 141 ∨ c = 142) ∧ k = j) → (zi (zj (zj (zi B 73 85 (nI 0)) 141 j (lN NX)) 142 j (lN NY)) 143 j (nI nv)).2 c k = B.2 c k := fun c k q => by
        show (zj (zj (zi B 73 85 (nI 0)) 141 j (lN NX)) 142 j (lN NY)).2 c k = _
        rw [zj_get, if_neg (by omega), zj_get, if_neg (by omega)]
        rfl
      have me : MEl B (zi (zj (zj (zi B 73 85 (nI 0)) 141 j (lN NX)) 142 j (lN NY)) 143 j (nI nv)) := MEl_f (fun c k q => f c k (by omega) (by omega))
      have ex2 := Ex_l me hB.2.2.1
      have fc : FCs j0 C (zj (zj (zi C 73 115 (nI 0)) 141 j (lN NX)) 142 j (lN NY)) := ⟨fun c k q1 q2 => by
        show (zi C 73 115 (nI 0)).1 c k = _
        rw [zi_get, if_neg (by omega)], fun c k q1 q2 => by
        rw [zj_get, if_neg (by omega), zj_get, if_neg (by omega)]
        rfl⟩
      refine OZ_seq (Z1 := fun st' B' C' => MYS inb wb w act Av S T vw nv vb vq vt u (sd + 1) st' B' C' ∧ B'.2 141 j = lN NX ∧ B'.2 142 j = lN NY ∧ B'.1 143 j = nI nv ∧ (act → C'.2 141 j = lN NX ∧ C'.2 142 j = lN NY)) (j1 := j + 1) (Or.inl ⟨_, zj (zj (zi C 73 115 (nI 0)) 141 j (lN NX)) 142 j (lN NY), st, Nat.le_refl _, g, fun q => ⟨nst_1 (z := 39) hg2 cx (hC q) (by omega) t39 (by omega) (by omega) (zMi_imp (cf q) (fun y X' h => h.1 z)), fc⟩, ⟨fun c k q => f c k (by omega) (by omega), fun c k q => l2' c k (by omega)⟩, ex2, ⟨⟨⟨MB_f hB (fun c k q => f c k (by omega) (by omega)) (fun k => l2' 82 k (by omega)) ((f 73 7 (by omega) (by omega)).trans hB.2.1) (Gd_l me ⟨sd + 1, by omega, (f 73 94 (by omega) (by omega)).trans y1⟩ hB.2.2.1) ?_, fun q => MN_s (hC q) fc ?_ ?_, Nat.le_refl _, NV_sm hi hN ex2 (fun c k q => f c k (by omega) (by omega)) (fun e' a q1 q2 => l2' 141 a (by have := hlv e' a q1 q2; omega)) (fun q a => inW_s fc a) (fun _ k => ?_) (fun _ e' a q1 q2 => ?_)⟩, MYe_k y (fun c k q => f c k (by omega) (by omega))⟩, ?_, ?_, zi_v, fun q => ⟨?_, ?_⟩⟩⟩) (fun B1 C1 st1 _ z1 => OZ_seq (j1 := j3 + 1) (os_loop (j0 := j0) (vb2 := vb2) (vq2 := vq2) (vt2 := vt2) (v2 := NY) hg hg2 hw1 hw hi cx hl hlv hj0 g11 t40 t79 hsd hjj hj y4 y5 (fun t ht => (y6 t ht).2.2.2) y7 y8 hvw hv' s2 n2 v1 body (NY - NX) NX st1 B1 C1 (by omega) z1.1 z1.2.1 z1.2.2.1 z1.2.2.2.1 z1.2.2.2.2) (fun B3 C3 st3 _ z3 => oz_end hg hg2 hw1 hw hi cx z3 t21 hsd hj))
      · rw [zi_c (by decide)]
        show (zi B 73 85 (nI 0)).1 73 85 = _
        exact zi_v
      · show (zi C 73 115 (nI 0)).1 73 115 = _
        exact zi_v
      · show (zi C 73 115 (nI 0)).1 73 110 = _
        rw [zi_k (by decide)]
        exact (hC q).2.2.1
      · rw [zj_get, if_neg (by omega), zj_get, if_neg (by omega)]
        rfl
      · have := hlv e' a q1 q2
        rw [zj_get, if_neg (by omega), zj_get, if_neg (by omega)]
        rfl
      · show (zj (zj (zi B 73 85 (nI 0)) 141 j (lN NX)) 142 j (lN NY)).2 141 j = _
        rw [zj_get, if_neg (by omega), zj_get, if_pos ⟨rfl, rfl⟩]
      · show (zj (zj (zi B 73 85 (nI 0)) 141 j (lN NX)) 142 j (lN NY)).2 142 j = _
        rw [zj_get, if_pos ⟨rfl, rfl⟩]
      · rw [zj_get, if_neg (by omega), zj_get, if_pos ⟨rfl, rfl⟩]
      · rw [zj_get, if_pos ⟨rfl, rfl⟩]
    · obtain ⟨ex, e2⟩ := k3 ⟨z, by omega⟩
      refine Or.inr ⟨B2, _, m2 _ ex, ?_⟩
      rw [e2]
      exact mT_7 (by rw [zi_k (by decide)]; exact hB.2.1) (by decide)
  · obtain ⟨ex, e2⟩ := k2 (by omega)
    have g := m2 _ ex
    subst e2
    have f : ∀ c k, ¬ (c = 73 ∧ k = 85) → (zi B 73 85 (nI 0)).1 c k = B.1 c k := fun c k q1 => by rw [zi_get, if_neg q1]
    have me : MEl B (zi B 73 85 (nI 0)) := MEl_f (fun c k q => f c k (by omega))
    have ex2 := Ex_l me hB.2.2.1
    have fc : FCs j0 C (zi C 73 115 (nI 0)) := ⟨fun c k q1 q2 => by rw [zi_get, if_neg (by omega)], fun _ _ _ _ => rfl⟩
    refine OZ_seq (Z1 := MYS inb wb w act Av S T vw' nv vb vq vt u (sd + 1)) (j1 := j3 + 1) (Or.inl ⟨_, zi C 73 115 (nI 0), st, Nat.le_refl _, g, fun q => ⟨nst_1 (z := 39) hg2 cx (hC q) (by omega) t39 (by omega) (by omega) (zMi_imp (cf q) (fun y X' h => h.2 z)), fc⟩, ⟨fun c k q => f c k (by omega), fun _ _ _ => rfl⟩, ex2, ⟨⟨MB_f hB (fun c k q => f c k (by omega)) (fun _ => rfl) ((f 73 7 (by omega)).trans hB.2.1) (Gd_l me ⟨sd + 1, by omega, (f 73 94 (by omega)).trans y1⟩ hB.2.2.1) zi_v, fun q => MN_s (hC q) fc zi_v (by rw [zi_k (by decide)]; exact (hC q).2.2.1), Nat.le_refl _, NV_sm hi hN ex2 (fun c k q => f c k (by omega)) (fun _ _ _ _ => rfl) (fun _ a => inW_s fc a) (fun _ _ => rfl) (fun _ _ _ _ _ => rfl)⟩, (f 73 94 (by omega)).trans y1, (f 73 101 (by omega)).trans y2, ⟨(f 73 97 (by omega)).trans y3, by omega, hv', VS_mo y6 (fun c k q => f c k (by omega)) hvw, y7⟩, y8⟩⟩) (fun B3 C3 st3 _ z3 => oz_end hg hg2 hw1 hw hi cx z3 t21 hsd hj)
end OFO
