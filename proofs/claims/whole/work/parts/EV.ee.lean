/-! BUILD on both sides: if, between its branches -/
/-- YE without the number of visible vars -/
def YEd (w vw nv : Nat) (vb vq vt : Nat → Nat) (u sd no : Nat) (bo : Nat → Nat) (A B : zS) : Prop := (B.1 73 94 = nI sd ∧ B.1 73 101 = nI u) ∧ (nv ≤ vw ∧ vw ≤ 256 ∧ (∀ t, t < nv → B.1 133 t = nI (vb t) ∧ B.1 134 t = nI (vq t) ∧ B.1 135 t = nI (vt t) ∧ 1 ≤ vq t ∧ vb t + vq t ≤ vw ∧ (vt t = 1 ∨ vt t = w)) ∧ ∀ t, t + 1 < nv → vb t + vq t ≤ vb (t + 1)) ∧ (∀ k, k < 256 * w → CNl (A.1 58 k)) ∧ OUx w no bo A B
/-- in the second branch -/
def IF2 (w : Nat) (Av : Nat → Nat → Prop) (S : zS) (hc lo g u nv : Nat) (vb vq vt : Nat → Nat) (A B : zS) : Prop := (A.1 57 (hc * w) = B.1 136 u ∧ VC B (B.1 136 u)) ∧ (B.1 137 u = nI nv ∧ B.1 138 u = 1) ∧ (∀ t W x, t < nv → vb t ≤ W → W < vb t + vq t → x < vt t → (if lo ≤ W ∧ W < lo + g then A.1 57 ((hc + 1) * w + ((W - lo) * w + x)) else A.1 58 (W * w + x)) = B.1 140 (8192 * u + 32 * W + x) ∧ VC B (B.1 140 (8192 * u + 32 * W + x))) ∧ ∀ k, k < g * w → CNl (A.1 57 ((hc + 1) * w + k)) ∧ (CXn w Av S (lo * w + k) → A.1 57 ((hc + 1) * w + k) = A.1 58 (lo * w + k))
section YIG
variable {l : Launch} {Cx : Nat → Prop} {Gr : zG} {n w : Nat} {d : Nat} {Av A2v Av2 : Nat → Nat → Prop} {S T A A' A1 A2 B B' B0 B1 B2 : zS} {e : Int32} {V L : Nat → Int32} {i hc st r i1 i2 i3 j j1 j2 j3 N M vw nv u sd sd2 no lo hi g lo' hi' p vwF vw2 nv2 : Nat} {vb vq vt bo vb2 vq2 vt2 : Nat → Nat}
theorem IF2_k (h : IF2 w Av S hc lo g u nv vb vq vt A B) (f : SF w (CXn w Av S) Av2 (hc + 1 + g) sd2 (u + 1) nv2 vw lo hi A A' B B') (hw : w ≤ 32) (hw1 : 1 ≤ w) (hgv : 0 < g → lo + g ≤ vw) (hgh : ∀ t W, t < nv → vb t ≤ W → W < vb t + vq t → lo + g ≤ W → hi ≤ W) (hvv : ∀ t, t < nv → vb t + vq t ≤ vw ∧ vt t ≤ w) (hvw : vw ≤ 256) : IF2 w Av S hc lo g u nv vb vq vt A' B' := by
  obtain ⟨⟨a1, a2⟩, ⟨a3, a4⟩, a5, a6⟩ := h
  obtain ⟨⟨f1, f2, -⟩, ⟨-, f4, f5, -⟩, vm, -⟩ := f
  have m1 : (hc + 1 + g) * w = (hc + 1) * w + g * w := Nat.add_mul _ _ _
  have m2 : (hc + 1) * w = hc * w + w := Nat.succ_mul _ _
  have e6 : ∀ c, 136 ≤ c → c ≤ 138 → B'.1 c u = B.1 c u := fun c q1 q2 => f4 u c (by omega) q1 q2
  refine ⟨⟨?_, ?_⟩, ⟨by rw [e6 137 (by omega) (by omega)]; exact a3, by rw [e6 138 (by omega) (by omega)]; exact a4⟩, fun t W x q1 q2 q3 q4 => ?_, fun k hk => ⟨?_, fun q => ?_⟩⟩
  · rw [f1 _ (by omega), e6 136 (by omega) (by omega)]
    exact a1
  · rw [e6 136 (by omega) (by omega)]
    exact vm _ a2
  · have hv := hvv t q1
    have e9 : B'.1 140 (8192 * u + 32 * W + x) = B.1 140 (8192 * u + 32 * W + x) := f5 _ 140 (by omega) (Or.inr rfl)
    have := a5 t W x q1 q2 q3 q4
    rw [e9]
    refine ⟨?_, vm _ this.2⟩
    rw [← this.1]
    by_cases q : lo ≤ W ∧ W < lo + g
    · rw [if_pos q, if_pos q]
      have m5 : (W - lo) * w + w ≤ g * w := by rw [← Nat.succ_mul]; exact Nat.mul_le_mul_right _ (by omega)
      exact f1 _ (by omega)
    · rw [if_neg q, if_neg q]
      have m6 : W * w + w ≤ vw * w := by rw [← Nat.succ_mul]; exact Nat.mul_le_mul_right _ (by omega)
      refine f2 _ (by omega) ?_
      by_cases y : W < lo
      · have : W * w + w ≤ lo * w := by rw [← Nat.succ_mul]; exact Nat.mul_le_mul_right _ y
        exact Or.inl (by omega)
      · have : hi * w ≤ W * w := Nat.mul_le_mul_right _ (hgh t W q1 q2 q3 (by omega))
        exact Or.inr (Or.inl (by omega))
  · rw [f1 _ (by omega)]
    exact (a6 k hk).1
  · have g0 : 0 < g := by
      rcases Nat.eq_zero_or_pos g with y | y
      · rw [y, Nat.zero_mul] at hk
        omega
      · exact y
    have m7 : lo * w + g * w ≤ vw * w := by rw [← Nat.add_mul]; exact Nat.mul_le_mul_right _ (hgv g0)
    rw [f1 _ (by omega), f2 _ (by omega) (Or.inr (Or.inr q))]
    exact (a6 k hk).2 q
theorem YE_d (h : YE w A2v S vw2 nv2 vb2 vq2 vt2 u sd no bo A B) (hn : nv ≤ nv2) (hx : ∀ t, t < nv → vb2 t = vb t ∧ vq2 t = vq t ∧ vt2 t = vt t) : YEd w vw2 nv vb vq vt u sd no bo A B := by
  obtain ⟨y1, y2, ⟨y3, y4, y5, y6, y7⟩, y8, y9, o⟩ := h
  refine ⟨⟨y1, y2⟩, ⟨by omega, y5, fun t ht => ?_, fun t ht => ?_⟩, y9, o⟩
  · obtain ⟨e1, e2, e3⟩ := hx t ht
    rw [← e1, ← e2, ← e3]
    exact y6 t (by omega)
  · rw [← (hx t (by omega)).1, ← (hx t (by omega)).2.1, ← (hx (t + 1) ht).1]
    exact y7 t (by omega)
theorem EN_sub (h : EN w A2v S 0 0 0 0 A B) (hs : ∀ e a, Av e a → A2v e a) : EN w Av S 0 0 0 0 A B := fun e a r z h1 => h e a r z (hs e a h1)
theorem YB_sub (h : YB w A2v S T i hc st A B) (hs : ∀ e a, Av e a → A2v e a) : YB w Av S T i hc st A B := ⟨h.1, h.2.1, h.2.2.1, h.2.2.2.1, EN_sub h.2.2.2.2 hs⟩
theorem ifV_W {W x : Nat} (hx : x < w) : ifV A ((hc + 1) * w) (lo * w) (g * w) (W * w + x) = if lo ≤ W ∧ W < lo + g then A.1 57 ((hc + 1) * w + ((W - lo) * w + x)) else A.1 58 (W * w + x) := by
  unfold ifV
  by_cases q : lo ≤ W ∧ W < lo + g
  · obtain ⟨y, rfl⟩ : ∃ y, W = lo + y := ⟨W - lo, by omega⟩
    have e1 : (lo + y) * w = lo * w + y * w := Nat.add_mul _ _ _
    have m5 : y * w + w ≤ g * w := by rw [← Nat.succ_mul]; exact Nat.mul_le_mul_right _ (by omega)
    rw [if_pos q, if_pos (by omega), show lo + y - lo = y by omega, show (lo + y) * w + x - lo * w = y * w + x by omega]
  · rw [if_neg q, if_neg]
    by_cases y : W < lo
    · have : W * w + w ≤ lo * w := by rw [← Nat.succ_mul]; exact Nat.mul_le_mul_right _ y
      omega
    · have : lo * w + g * w ≤ W * w := by rw [← Nat.add_mul]; exact Nat.mul_le_mul_right _ (by omega)
      omega
/-- the class turns -/
theorem if_tk (hg : ip_gk (lg_tbl, vwCl, Gr)) (ho : ip_old (lg_tbl, vwCl, Gr)) (hw1 : 1 ≤ w) (hw : w ≤ 32) (cx : CTX S T N M) (h0 : YB w Av S T i2 (hc + 1 + g) st A B0) (hlg : lo + g ≤ 256) (u4 : S.1 4 i2 = 15) (u5 : S.1 5 i2 = nI i1) (v5 : S.1 5 i1 = nI lo) (v7 : S.1 7 i1 = nI g) (hii : i1 < i2) (hi' : i2 < N) (hhc : hc + 1 + g + 1 ≤ 9682) : ∃ A2, CGo l Gr n w d 1 A A2 ∧ KBc A A2 ∧ (∀ c k, ¬ (c = 45 ∧ k = 16) → ¬ (c = 57 ∧ (hc + 1) * w ≤ k ∧ k < (hc + 1) * w + g * w) → ¬ (c = 58 ∧ lo * w ≤ k ∧ k < lo * w + g * w) → A2.1 c k = A.1 c k) ∧ (∀ c k, A2.2 c k = A.2 c k) ∧ A2.1 45 16 = nI (i2 + 1) ∧ ∀ x, x < g * w → A2.1 57 ((hc + 1) * w + x) = A.1 58 (lo * w + x) ∧ A2.1 58 (lo * w + x) = A.1 57 ((hc + 1) * w + x) := by
  have hN := cx.2.1
  have hst := h0.2.2.2.1
  have m1 : (hc + 1 + g) * w = (hc + 1) * w + g * w := Nat.add_mul _ _ _
  have m3 : (hc + 1 + g) * w ≤ 9682 * w := Nat.mul_le_mul_right _ (by omega)
  have cA : ∀ c u, (4 ≤ c ∧ c ≤ 7) ∨ (11 ≤ c ∧ c ≤ 15) → (zi A 45 16 (nI (i2 + 1))).1 c u = S.1 c u := fun c u h => by rw [zi_c (by omega)]; exact h0.1.1.2 c u (by omega)
  obtain ⟨A2, ⟨e1, e2, e3⟩, run⟩ := zMv_det (w_st15 (l := l) (n := n) (d := d + 4) (A := zi A 45 16 (nI (i2 + 1))) (j := i2) (i1 := i1) (lo := lo) (g := g) (b := (hc + 1) * w) hg hw hw1 (by omega) (by omega) ((cA 5 i2 (by omega)).trans u5) ((cA 5 i1 (by omega)).trans v5) ((cA 7 i1 (by omega)).trans v7) hlg (by rw [zi_k (by decide), h0.1.2.2.2.1, m1]) (by omega))
  have g1 := cy_1 (z := 15) (e := 1) hg ho hw cx h0 hi' u4 (by omega) rfl (by omega) (by omega) (kg_S (l := l) (n := n) (d := d) hg (by omega) run)
  have f2 : ∀ c k, ¬ (c = 45 ∧ k = 16) → ¬ (c = 57 ∧ (hc + 1) * w ≤ k ∧ k < (hc + 1) * w + g * w) → ¬ (c = 58 ∧ lo * w ≤ k ∧ k < lo * w + g * w) → A2.1 c k = A.1 c k := fun c k q1 q2 q3 => by rw [e2 c k (by omega), zi_get, if_neg (by omega)]
  have c7 : A2.1 24 7 = 0 := (f2 24 7 (by omega) (by omega) (by omega)).trans h0.1.2.2.1
  have c18 : A2.1 45 18 = nI st := (f2 45 18 (by omega) (by omega) (by omega)).trans h0.1.2.2.2.2.2.1
  rw [kEnd_g (st := st) c7 c18 hst] at g1
  refine ⟨A2, g1, ⟨fun c k q1 q2 q3 => f2 c k (by omega) (by omega) (by omega), fun c k _ => e1 c k⟩, f2, e1, ?_, fun x hx => ?_⟩
  · rw [e2 45 16 (by omega)]
    exact zi_v
  · have := e3 x hx
    rw [zi_c (by decide), zi_c (by decide)] at this
    exact this
/-- what is alike behind the class's turn -/
theorem if_tv (hw1 : 1 ≤ w) (he : EN w Av S 0 0 0 0 A B) (hl : VLc w nv vb vq vt Av S) (hi : IF1 w Av S hc lo g u nv vb vq vt A B) (hvv : ∀ t, t < nv → vt t ≤ w) (hC : ∀ k, k < 256 * w → CNl (A.1 58 k)) (f2 : ∀ c k, ¬ (c = 45 ∧ k = 16) → ¬ (c = 57 ∧ (hc + 1) * w ≤ k ∧ k < (hc + 1) * w + g * w) → ¬ (c = 58 ∧ lo * w ≤ k ∧ k < lo * w + g * w) → A2.1 c k = A.1 c k) (v2 : ∀ x, x < g * w → A2.1 57 ((hc + 1) * w + x) = A.1 58 (lo * w + x) ∧ A2.1 58 (lo * w + x) = A.1 57 ((hc + 1) * w + x)) (hlg : lo + g ≤ 256) : (∀ t W x, t < nv → vb t ≤ W → W < vb t + vq t → x < vt t → (if lo ≤ W ∧ W < lo + g then A2.1 57 ((hc + 1) * w + ((W - lo) * w + x)) else A2.1 58 (W * w + x)) = B.1 132 (32 * W + x) ∧ VC B (B.1 132 (32 * W + x)) ∧ A2.1 58 (W * w + x) = B.1 139 (8192 * u + 32 * W + x) ∧ VC B (B.1 139 (8192 * u + 32 * W + x))) ∧ (∀ k, k < 256 * w → CNl (A2.1 58 k)) ∧ ∀ k, k < g * w → CNl (A2.1 57 ((hc + 1) * w + k)) ∧ (CXn w Av S (lo * w + k) → A2.1 57 ((hc + 1) * w + k) = A2.1 58 (lo * w + k)) := by
  have m4 : lo * w + g * w ≤ 256 * w := by rw [← Nat.add_mul]; exact Nat.mul_le_mul_right _ hlg
  refine ⟨fun t W x q1 q2 q3 q4 => ?_, fun k hk => ?_, fun k hk => ⟨?_, fun q => ?_⟩⟩
  · have hc' := cl_t he hl q1 q2 q3 q4
    have h9 := hi.2.2.1 t W x q1 q2 q3 q4
    have hv := hvv t q1
    refine ⟨?_, hc'.2, ?_, h9.2⟩
    · rw [← hc'.1]
      by_cases q : lo ≤ W ∧ W < lo + g
      · rw [if_pos q]
        have m5 : (W - lo) * w + w ≤ g * w := by rw [← Nat.succ_mul]; exact Nat.mul_le_mul_right _ (by omega)
        rw [(v2 _ (by omega)).1, ← Nat.add_assoc, ← Nat.add_mul, show lo + (W - lo) = W by omega]
      · rw [if_neg q]
        have m6 : W * w + x < lo * w ∨ lo * w + g * w ≤ W * w + x := by
          by_cases y : W < lo
          · have : W * w + w ≤ lo * w := by rw [← Nat.succ_mul]; exact Nat.mul_le_mul_right _ y
            omega
          · have : lo * w + g * w ≤ W * w := by rw [← Nat.add_mul]; exact Nat.mul_le_mul_right _ (by omega)
            omega
        exact f2 58 _ (by omega) (by omega) (by omega)
    · rw [← h9.1]
      by_cases q : lo ≤ W ∧ W < lo + g
      · rw [if_pos q]
        have m5 : (W - lo) * w + w ≤ g * w := by rw [← Nat.succ_mul]; exact Nat.mul_le_mul_right _ (by omega)
        rw [← (v2 _ (by omega)).2, ← Nat.add_assoc, ← Nat.add_mul, show lo + (W - lo) = W by omega]
      · rw [if_neg q]
        have m6 : W * w + x < lo * w ∨ lo * w + g * w ≤ W * w + x := by
          by_cases y : W < lo
          · have : W * w + w ≤ lo * w := by rw [← Nat.succ_mul]; exact Nat.mul_le_mul_right _ y
            omega
          · have : lo * w + g * w ≤ W * w := by rw [← Nat.add_mul]; exact Nat.mul_le_mul_right _ (by omega)
            omega
        exact f2 58 _ (by omega) (by omega) (by omega)
  · by_cases q : lo * w ≤ k ∧ k < lo * w + g * w
    · obtain ⟨y, rfl⟩ : ∃ y, k = lo * w + y := ⟨k - lo * w, by omega⟩
      rw [(v2 y (by omega)).2]
      exact (hi.2.2.2 y (by omega)).1
    · rw [f2 58 k (by omega) (by omega) (by omega)]
      exact hC k hk
  · rw [(v2 k hk).1]
    exact hC _ (by omega)
  · rw [(v2 k hk).1, (v2 k hk).2]
    exact ((hi.2.2.2 k hk).2 q).symm
end YIG
