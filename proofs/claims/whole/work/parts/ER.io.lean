/-! BUILD on both sides: if, its beginning -/
def VLc (w nv : Nat) (vb vq vt : Nat → Nat) (Av : Nat → Nat → Prop) (S : zS) : Prop := ∀ t, t < nv → ∃ e r z, Av e (vb t) ∧ S.1 11 e = 1 ∧ r ≤ 1 ∧ S.1 12 e = nI r ∧ z ≤ 64 ∧ S.1 13 e = nI z ∧ vq t = max 1 z ∧ vt t = bw w r
def IF1 (w : Nat) (Av : Nat → Nat → Prop) (S : zS) (hc lo g u nv : Nat) (vb vq vt : Nat → Nat) (A B : zS) : Prop := (A.1 57 (hc * w) = B.1 136 u ∧ VC B (B.1 136 u)) ∧ (B.1 137 u = nI nv ∧ B.1 138 u = 0) ∧ (∀ t W x, t < nv → vb t ≤ W → W < vb t + vq t → x < vt t → (if lo ≤ W ∧ W < lo + g then A.1 57 ((hc + 1) * w + ((W - lo) * w + x)) else A.1 58 (W * w + x)) = B.1 139 (8192 * u + 32 * W + x) ∧ VC B (B.1 139 (8192 * u + 32 * W + x))) ∧ ∀ k, k < g * w → CNl (A.1 57 ((hc + 1) * w + k)) ∧ (CXn w Av S (lo * w + k) → A.1 57 ((hc + 1) * w + k) = A.1 58 (lo * w + k))
section YIO
variable {l : Launch} {Cx : Nat → Prop} {Gr : zG} {n w : Nat} {d : Nat} {Av : Nat → Nat → Prop} {S T A A' A1 A2 B B' B0 B1 B2 : zS} {i hc st r i1 j j1 N M e vw nv u sd no lo hi g lo' hi' : Nat} {vb vq vt bo : Nat → Nat}
theorem cl_t (h : EN w Av S 0 0 0 0 A B) (hl : VLc w nv vb vq vt Av S) {t W x : Nat} (h1 : t < nv) (h2 : vb t ≤ W) (h3 : W < vb t + vq t) (h4 : x < vt t) : A.1 58 (W * w + x) = B.1 132 (32 * W + x) ∧ VC B (B.1 132 (32 * W + x)) := by
  obtain ⟨e, r, z, a1, a2, a3, a4, a5, a6, a7, a8⟩ := hl t h1
  have := ((h e (vb t) r z a1 a3 a5 a4 a6).2.1 a2).2 (W - vb t) x (by omega) (by omega)
  rw [show vb t + (W - vb t) = W by omega] at this
  exact this
theorem if_open (hg : ip_gk (lg_tbl, vwCl, Gr)) (ho : ip_old (lg_tbl, vwCl, Gr)) (hw1 : 1 ≤ w) (hw : w ≤ 32) (cx : CTX S T N M) (hl : VLc w nv vb vq vt Av S) (h0 : XS w Av S T 0 0 0 0 0 i1 (hc + 1) 1 st A B0 ∧ OAs w [1] hc 0 A B0 ∧ YE w Av S vw nv vb vq vt u (sd + 1) no bo A B0) (hlg : lo + g ≤ 256) (hu : u < 40) (hsd : sd < 80) (u4 : S.1 4 i1 = 14) (u5 : S.1 5 i1 = nI lo) (u7 : S.1 7 i1 = nI g) (t1 : T.1 78 j1 = 35) (hi1 : i1 < N) (hj : j1 < M) (hhc : hc + 1 + g + 1 ≤ 9682) : TRz l Gr n w d (fun st A B => XS w Av S T 0 0 0 0 0 i1 (hc + 1) 1 st A B ∧ OAs w [1] hc 0 A B ∧ YE w Av S vw nv vb vq vt u (sd + 1) no bo A B) (fun st A B => (YB w Av S T (i1 + 1) (hc + 1 + g) st A B ∧ YE w Av S vw nv vb vq vt (u + 1) (sd + 1) no bo A B) ∧ IF1 w Av S hc lo g u nv vb vq vt A B) (SF w Cx Av hc (sd + 1) u nv vw lo' hi') (-1) j1 (j1 + 1) st A := by
  obtain ⟨h0, o0, y0⟩ := h0
  have hN := cx.2.1
  have hM := cx.2.2.2
  have hst := h0.2.2.2.2.1
  have m1 : (hc + 1 + g) * w = (hc + 1) * w + g * w := Nat.add_mul _ _ _
  have m2 : (hc + 1) * w = hc * w + w := Nat.succ_mul _ _
  have m3 : (hc + 1 + g) * w ≤ 9682 * w := Nat.mul_le_mul_right _ (by omega)
  have m4 : lo * w + g * w ≤ 256 * w := by rw [← Nat.add_mul]; exact Nat.mul_le_mul_right _ hlg
  have cA : ∀ c u, (4 ≤ c ∧ c ≤ 7) ∨ (11 ≤ c ∧ c ≤ 15) → (zi A 45 16 (nI (i1 + 1))).1 c u = S.1 c u := fun c u h => by rw [zi_c (by omega)]; exact h0.1.1.2 c u (by omega)
  obtain ⟨A2, e2, run⟩ := zMv_det (w_st14 (l := l) (n := n) (d := d + 4) (A := zi A 45 16 (nI (i1 + 1))) (j := i1) (lo := lo) (g := g) (b := (hc + 1) * w) hg hw hw1 (by omega) ((cA 5 i1 (by omega)).trans u5) ((cA 7 i1 (by omega)).trans u7) hlg (by rw [zi_k (by decide)]; exact h0.1.2.2.2.1) (by omega))
  have g1 := ck_1 (z := 14) (e := 1) hg ho hw cx h0 hi1 u4 (by omega) rfl (by omega) (by omega) (kg_S (l := l) (n := n) (d := d) hg (by omega) run)
  have f2 : ∀ c k, ¬ (c = 45 ∧ (k = 8 ∨ k = 16)) → ¬ (c = 57 ∧ (hc + 1) * w ≤ k ∧ k < (hc + 1) * w + g * w) → A2.1 c k = A.1 c k := fun c k q1 q2 => by
    rw [e2, zi_get, if_neg (by omega), zI_get]
    by_cases z : c = 57
    · subst z
      rw [if_pos rfl, pk_cpy_out (by omega), zi_c (by decide)]
    · rw [if_neg z, zi_get, if_neg (by omega)]
  have v57 : ∀ k, k < g * w → A2.1 57 ((hc + 1) * w + k) = A.1 58 (lo * w + k) := fun k hk => by
    rw [e2, zi_c (by decide), zI_get, if_pos rfl, pk_cpy_in (by omega) (by omega), show (hc + 1) * w + k - (hc + 1) * w = k by omega, zi_c (by decide)]
  have c8 : A2.1 45 8 = nI ((hc + 1 + g) * w) := by rw [e2, zi_get, if_pos ⟨rfl, rfl⟩, m1]
  have c16 : A2.1 45 16 = nI (i1 + 1) := by rw [e2, zi_k (by decide), zI_c (by decide)]; exact zi_v
  have l2 : ∀ c k, A2.2 c k = A.2 c k := fun c k => by rw [e2]; rfl
  have K : KEc A A2 := ⟨fun k q1 q2 => f2 24 k (by omega) (by omega), fun c k q1 q2 => f2 c k (by omega) (by omega)⟩
  have c7 : A2.1 24 7 = 0 := (f2 24 7 (by omega) (by omega)).trans h0.1.2.2.1
  have c18 : A2.1 45 18 = nI st := (f2 45 18 (by omega) (by omega)).trans h0.1.2.2.2.2.2.1
  rw [kEnd_g (st := st) c7 c18 hst] at g1
  have kb : KBc A A2 := ⟨fun c k q1 q2 q3 => f2 c k (by omega) (by omega), fun c k _ => l2 c k⟩
  refine ⟨1, A2, g1, kb, Or.inl ⟨st, Nat.le_refl _, by omega, fun B hB => ?_⟩⟩
  obtain ⟨hB, oB, y1, y2, ⟨y3, y4, y5, y6, y7⟩, y8, y9, o1, o2, o3, o4, o5⟩ := hB
  have oa : OA w 1 hc 0 A B := oB 0 (Nat.succ_pos _)
  have mT : ∀ c k, (78 ≤ c ∧ c ≤ 81) ∨ c = 89 ∨ (102 ≤ c ∧ c ≤ 107) ∨ c = 117 → B.1 c k = T.1 c k := hB.2.1.1.2.1
  obtain ⟨x1, B1, ⟨ex, G1, G2, b85, b101, b136, b137, b138, b139⟩, r1⟩ := zMi_det (ms_35 (l := l) (n := n) (w := w) (d := d + 5) (B := B) (j := j1) (q := 0) (u := u) (nv := nv) (vb := vb) (vq := vq) hg (by omega) (by omega) hu (by omega) ((mT 78 j1 (by omega)).trans t1) hB.2.1.2.1 y2 y3 (fun t ht => ⟨(y6 t ht).1, (y6 t ht).2.1, by have := (y6 t ht).2.2.2.2.1; omega⟩))
  subst ex
  have n1 : MGo l Gr n w d B j1 B1 (j1 + 1) := mg_s (z := 35) hg hj hM (hB.2.1.1.1.trans cx.2.2.1) (XS_7 hB) ((mT 78 j1 (by omega)).trans t1) (by omega) (by omega) r1
  have El : MEl B B1 := ⟨fun k q => G1 73 k (by omega) (by omega) (by omega), fun c k q => G1 c k (by omega) (by omega) (by omega)⟩
  have vm : VM B B1 := fun x hx => VC_El El hx
  have km : KBm B B1 := ⟨fun c k q1 q2 q3 => G1 c k (by omega) (by omega) (by omega), fun c k _ => G2 c k⟩
  have vt32 : ∀ t, t < nv → vt t ≤ w := fun t ht => by have := (y6 t ht).2.2.2.2.2; omega
  have b94 : B1.1 73 94 = nI (sd + 1) := (G1 73 94 (by omega) (by omega) (by omega)).trans y1
  refine ⟨_, n1, ⟨⟨⟨⟨CCo_K hB.1.1 kb, (f2 3 5 (by omega) (by omega)).trans hB.1.2.1, c7, c8, c16, c18, (f2 45 13 (by omega) (by omega)).trans hB.1.2.2.2.2.2.2.1, (f2 45 12 (by omega) (by omega)).trans hB.1.2.2.2.2.2.2.2⟩, ⟨MCo_K hB.2.1.1 km, b85, (G1 73 70 (by omega) (by omega) (by omega)).trans hB.2.1.2.2.1, (G1 73 110 (by omega) (by omega) (by omega)).trans hB.2.1.2.2.2.1⟩, RL_El hB.2.2.1 hB.1.2.2.1 K El ⟨sd + 1, by omega, b94⟩, hst, EN_set (m := 0) (a := 0) hB.2.2.2.2.2.2.2 hw (by omega) (fun c k q => f2 c k (by omega) (by omega)) (fun k => l2 48 k) (fun c k q => G1 c k (by omega) (by omega) (by omega)) (fun k => G2 141 k) vm (fun x hx => absurd hx (by omega)) hw1⟩, b94, b101, ⟨(G1 73 97 (by omega) (by omega) (by omega)).trans y3, y4, y5, fun t ht => by rw [G1 133 t (by omega) (by omega) (by omega), G1 134 t (by omega) (by omega) (by omega), G1 135 t (by omega) (by omega) (by omega)]; exact y6 t ht, y7⟩, y8, fun k hk => by rw [f2 58 k (by omega) (by omega)]; exact y9 k hk, (f2 24 11 (by omega) (by omega)).trans o1, (G1 73 69 (by omega) (by omega) (by omega)).trans o2, o3, fun t ht => by rw [f2 31 t (by omega) (by omega)]; exact o4 t ht, fun t ht => ?_⟩, ⟨?_, ?_⟩, ⟨b137, b138⟩, fun t W x q1 q2 q3 q4 => ?_, fun k hk => ⟨?_, fun _ => ?_⟩⟩, ?_⟩
  · obtain ⟨m, q1, q2, q3, q4⟩ := o5 t ht
    refine ⟨m, q1, (G1 120 t (by omega) (by omega) (by omega)).trans q2, q3, fun x hx => ?_⟩
    rw [f2 32 _ (by omega) (by omega), G1 121 _ (by omega) (by omega) (by omega)]
    exact ⟨(q4 x hx).1, vm _ (q4 x hx).2⟩
  · rw [f2 57 _ (by omega) (by omega), b136]
    exact (oa 0 (by show 0 < bw w 1; unfold bw; rw [if_pos rfl]; omega)).1
  · rw [b136]
    exact vm _ (oa 0 (by show 0 < bw w 1; unfold bw; rw [if_pos rfl]; omega)).2
  · have hc' := cl_t hB.2.2.2.2.2.2.2 hl q1 q2 q3 q4
    have := vt32 t q1
    have e9 := b139 t (32 * W + x) q1 (by omega) (by omega)
    rw [← Nat.add_assoc] at e9
    rw [e9]
    refine ⟨?_, vm _ hc'.2⟩
    split
    · rename_i q
      have m5 : (W - lo) * w + w ≤ g * w := by rw [← Nat.succ_mul]; exact Nat.mul_le_mul_right _ (by omega)
      rw [v57 _ (by omega), ← Nat.add_assoc, ← Nat.add_mul, show lo + (W - lo) = W by omega]
      exact hc'.1
    · rw [f2 58 _ (by omega) (by omega)]
      exact hc'.1
  · rw [v57 k hk]
    exact y9 _ (by omega)
  · rw [v57 k hk, f2 58 _ (by omega) (by omega)]
  · exact ⟨⟨fun k _ => f2 57 k (by omega) (by omega), fun k _ _ => f2 58 k (by omega) (by omega), fun e a _ => ⟨l2 48 e, l2 49 e⟩⟩, ⟨fun t q => G1 131 t (by omega) (by omega) (by omega), fun t c _ q2 q3 => G1 c t (by omega) (by omega) (by omega), fun k c _ q2 => G1 c k (by omega) (by omega) (by omega), fun t c _ q2 q3 => G1 c t (by omega) (by omega) (by omega), fun e a _ => ⟨G2 141 a, G2 142 a, G1 143 a (by omega) (by omega) (by omega)⟩⟩, vm, km⟩
end YIO
