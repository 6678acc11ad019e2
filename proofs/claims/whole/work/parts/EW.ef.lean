/-! BUILD on both sides: if, the turn -/
section YIH
variable {l : Launch} {Cx : Nat → Prop} {Gr : zG} {n w : Nat} {d : Nat} {Av : Nat → Nat → Prop} {S T A A' A1 A2 B B' B0 B1 B2 : zS} {i hc st r i1 i2 i3 j j1 j2 j3 N M vw nv u sd no lo hi g lo' hi' p vwF : Nat} {vb vq vt bo : Nat → Nat}
theorem gap_V (h : ∀ k, k < g * w → CXn w Av S (lo * w + k) → A.1 57 ((hc + 1) * w + k) = A.1 58 (lo * w + k)) (k : Nat) (q : CXn w Av S k) : ifV A ((hc + 1) * w) (lo * w) (g * w) k = A.1 58 k := by
  unfold ifV
  by_cases y : lo * w ≤ k ∧ k < lo * w + g * w
  · rw [if_pos y]
    have e : lo * w + (k - lo * w) = k := by omega
    have := h (k - lo * w) (by omega) (by rw [e]; exact q)
    rw [e] at this
    exact this
  · rw [if_neg y]
theorem if_cv (hw1 : 1 ≤ w) (h : (YB w Av S T i3 (hc + 1 + g) st A B ∧ YEd w vw nv vb vq vt (u + 1) (sd + 1) no bo A B) ∧ IF2 w Av S hc lo g u nv vb vq vt A B ∧ B.1 131 sd = nI p) (hl : VLc w nv vb vq vt Av S) (hvv : ∀ t, t < nv → vt t ≤ w) : IFz w Av S T i3 hc lo g vw nv vb vq vt u sd no bo p st A B := by
  obtain ⟨⟨⟨hk, hm, hRL, hst, hE⟩, ⟨y1, y2⟩, yv, yC, yo⟩, ⟨⟨a1, a2⟩, ⟨a3, a4⟩, a5, a6⟩, hp⟩ := h
  refine ⟨⟨hk, hm, hRL, hst, EN_2 hw1 hE⟩, ⟨y1, y2, hp⟩, yv, yC, yo, ⟨a1, a2, a3⟩, fun t W x q1 q2 q3 q4 => ?_, gap_V (fun k hk => (a6 k hk).2)⟩
  have hc' := cl_t hE hl q1 q2 q3 q4
  have z := a5 t W x q1 q2 q3 q4
  rw [ifV_W (by have := hvv t q1; omega), z.1]
  exact ⟨fun _ => ⟨rfl, hc'.1.symm⟩, fun y => absurd (a4.symm.trans y) (by decide), z.2, by rw [hc'.1]; exact hc'.2⟩
theorem if_t0 (hg : ip_gk (lg_tbl, vwCl, Gr)) (ho : ip_old (lg_tbl, vwCl, Gr)) (hw1 : 1 ≤ w) (hw : w ≤ 32) (cx : CTX S T N M) (hl : VLc w nv vb vq vt Av S) (hCx : CXo w Av S Cx) (h0 : (YB w Av S T i2 (hc + 1 + g) st A B0 ∧ YEd w vw nv vb vq vt (u + 1) (sd + 1) no bo A B0) ∧ IF1 w Av S hc lo g u nv vb vq vt A B0 ∧ B0.1 131 sd = nI p) (hlg : lo + g ≤ 256) (hlo : lo' ≤ lo) (hhi : 0 < g → lo + g ≤ hi') (hsd : sd < 80) (u4 : S.1 4 i2 = 15) (u5 : S.1 5 i2 = nI i1) (v5 : S.1 5 i1 = nI lo) (v7 : S.1 7 i1 = nI g) (hii : i1 < i2) (hi : i2 < N) (hhc : hc + 1 + g + 1 ≤ 9682) : TRz l Gr n w d (fun st A B => (YB w Av S T i2 (hc + 1 + g) st A B ∧ YEd w vw nv vb vq vt (u + 1) (sd + 1) no bo A B) ∧ IF1 w Av S hc lo g u nv vb vq vt A B ∧ B.1 131 sd = nI p) (IFz w Av S T (i2 + 1) hc lo g vw nv vb vq vt u sd no bo p) (SF w Cx (K2 S Av) hc sd u nv vwF lo' hi') (-1) j j st A := by
  have hst := h0.1.1.2.2.2.1
  obtain ⟨A2, g1, kb, f2, l2, c16, v2⟩ := if_tk (l := l) (Gr := Gr) (n := n) (d := d) hg ho hw1 hw cx h0.1.1 hlg u4 u5 v5 v7 hii hi hhc
  have m2 : (hc + 1) * w = hc * w + w := Nat.succ_mul _ _
  have ml : lo' * w ≤ lo * w := Nat.mul_le_mul_right _ hlo
  have mh : 0 < g → lo * w + g * w ≤ hi' * w := fun q => by rw [← Nat.add_mul]; exact Nat.mul_le_mul_right _ (hhi q)
  refine ⟨1, A2, g1, kb, Or.inl ⟨st, Nat.le_refl _, by omega, fun B hB => ?_⟩⟩
  obtain ⟨⟨⟨hk, hm, hRL, -, hE⟩, ⟨y1, y2⟩, ⟨yv1, yv2, yv3, yv4⟩, yC, o1, o2, o3, o4, o5⟩, hI, hp⟩ := hB
  have hvv : ∀ t, t < nv → vt t ≤ w := fun t ht => by have := (yv3 t ht).2.2.2.2.2; omega
  obtain ⟨tv1, tv2, tv3⟩ := if_tv hw1 hE hl hI hvv yC f2 v2 hlg
  have K : KEc A A2 := ⟨fun k q1 q2 => f2 24 k (by omega) (by omega) (by omega), fun c k q1 q2 => f2 c k (by omega) (by omega) (by omega)⟩
  refine ⟨B, MGo_rfl, ⟨⟨⟨CCo_K hk.1 kb, (f2 3 5 (by omega) (by omega) (by omega)).trans hk.2.1, (f2 24 7 (by omega) (by omega) (by omega)).trans hk.2.2.1, (f2 45 8 (by omega) (by omega) (by omega)).trans hk.2.2.2.1, c16, (f2 45 18 (by omega) (by omega) (by omega)).trans hk.2.2.2.2.2.1, (f2 45 13 (by omega) (by omega) (by omega)).trans hk.2.2.2.2.2.2.1, (f2 45 12 (by omega) (by omega) (by omega)).trans hk.2.2.2.2.2.2.2⟩, hm, RL_El hRL hk.2.2.1 K ⟨fun _ _ => rfl, fun _ _ _ => rfl⟩ ⟨sd + 1, by omega, y1⟩, hst, EN2_k (EN_2 hw1 hE) (fun k => f2 20 k (by omega) (by omega) (by omega)) (fun k => l2 48 k) (fun _ => rfl) (fun _ => rfl) (fun _ h => h)⟩, ⟨y1, y2, hp⟩, ⟨yv1, yv2, yv3, yv4⟩, tv2, ⟨(f2 24 11 (by omega) (by omega) (by omega)).trans o1, o2, o3, fun t ht => by rw [f2 31 t (by omega) (by omega) (by omega)]; exact o4 t ht, fun t ht => ?_⟩, ⟨?_, hI.1.2, hI.2.1.1⟩, fun t W x q1 q2 q3 q4 => ?_, gap_V (fun k hk => (tv3 k hk).2)⟩, ?_⟩
  · obtain ⟨m, q1, q2, q3, q4⟩ := o5 t ht
    refine ⟨m, q1, q2, q3, fun x hx => ?_⟩
    rw [f2 32 _ (by omega) (by omega) (by omega)]
    exact q4 x hx
  · rw [f2 57 _ (by omega) (by omega) (by omega)]
    exact hI.1.1
  · have z := tv1 t W x q1 q2 q3 q4
    rw [ifV_W (by have := hvv t q1; omega), z.1, z.2.2.1]
    exact ⟨fun y => absurd hI.2.1.2 y, fun _ => ⟨rfl, rfl⟩, z.2.1, z.2.2.2⟩
  · refine ⟨⟨fun k q => f2 57 k (by omega) (by omega) (by omega), fun k _ q => ?_, fun e a _ => ⟨l2 48 e, l2 49 e⟩⟩, ⟨fun _ _ => rfl, fun _ _ _ _ _ => rfl, fun _ _ _ _ => rfl, fun _ _ _ _ _ => rfl, fun _ _ _ => ⟨rfl, rfl, rfl⟩⟩, fun _ h => h, ⟨fun _ _ _ _ _ => rfl, fun _ _ _ => rfl⟩⟩
    by_cases y : lo * w ≤ k ∧ k < lo * w + g * w
    · obtain ⟨z, rfl⟩ : ∃ z, k = lo * w + z := ⟨k - lo * w, by omega⟩
      have g0 : 0 < g := by
        rcases Nat.eq_zero_or_pos g with q | q
        · rw [q, Nat.zero_mul] at y
          omega
        · exact q
      have := mh g0
      rcases q with q | q | q
      · omega
      · omega
      · rw [(v2 z (by omega)).2]
        exact (hI.2.2.2 z (by omega)).2 (CXo_n hCx q)
    · exact f2 58 k (by omega) (by omega) (by omega)
theorem if_t1 (hg : ip_gk (lg_tbl, vwCl, Gr)) (ho : ip_old (lg_tbl, vwCl, Gr)) (hw1 : 1 ≤ w) (hw : w ≤ 32) (cx : CTX S T N M) (hvk : VLk w nv vb vq vt Av S) (hl : VLc w nv vb vq vt Av S) (hCx : CXo w Av S Cx) (h0 : (YB w Av S T i2 (hc + 1 + g) st A B0 ∧ YEd w vw nv vb vq vt (u + 1) (sd + 1) no bo A B0) ∧ IF1 w Av S hc lo g u nv vb vq vt A B0 ∧ B0.1 131 sd = nI p) (hlg : lo + g ≤ 256) (hlo : lo' ≤ lo) (hhi : 0 < g → lo + g ≤ hi') (hu : u < 40) (hsd : sd < 80) (u4 : S.1 4 i2 = 15) (u5 : S.1 5 i2 = nI i1) (v5 : S.1 5 i1 = nI lo) (v7 : S.1 7 i1 = nI g) (t1 : T.1 78 j2 = 36) (hii : i1 < i2) (hi : i2 < N) (hj : j2 < M) (hhc : hc + 1 + g + 1 ≤ 9682) : TRz l Gr n w d (fun st A B => (YB w Av S T i2 (hc + 1 + g) st A B ∧ YEd w vw nv vb vq vt (u + 1) (sd + 1) no bo A B) ∧ IF1 w Av S hc lo g u nv vb vq vt A B ∧ B.1 131 sd = nI p) (fun st A B => (YB w Av S T (i2 + 1) (hc + 1 + g) st A B ∧ YE w Av S vw nv vb vq vt (u + 1) (sd + 1) no bo A B) ∧ IF2 w Av S hc lo g u nv vb vq vt A B ∧ B.1 131 sd = nI p) (SF w Cx (K2 S Av) hc sd u nv vwF lo' hi') (-1) j2 (j2 + 1) st A := by
  have hst := h0.1.1.2.2.2.1
  have hM := cx.2.2.2
  obtain ⟨A2, g1, kb, f2, l2, c16, v2⟩ := if_tk (l := l) (Gr := Gr) (n := n) (d := d) hg ho hw1 hw cx h0.1.1 hlg u4 u5 v5 v7 hii hi hhc
  have m2 : (hc + 1) * w = hc * w + w := Nat.succ_mul _ _
  have ml : lo' * w ≤ lo * w := Nat.mul_le_mul_right _ hlo
  have mh : 0 < g → lo * w + g * w ≤ hi' * w := fun q => by rw [← Nat.add_mul]; exact Nat.mul_le_mul_right _ (hhi q)
  refine ⟨1, A2, g1, kb, Or.inl ⟨st, Nat.le_refl _, by omega, fun B hB => ?_⟩⟩
  obtain ⟨⟨⟨hk, hm, hRL, hst', hE⟩, ⟨y1, y2⟩, ⟨yv1, yv2, yv3, yv4⟩, yC, o1, o2, o3, o4, o5⟩, hI, hp⟩ := hB
  have hvv : ∀ t, t < nv → vt t ≤ w := fun t ht => by have := (yv3 t ht).2.2.2.2.2; omega
  obtain ⟨tv1, tv2, tv3⟩ := if_tv hw1 hE hl hI hvv yC f2 v2 hlg
  have K : KEc A A2 := ⟨fun k q1 q2 => f2 24 k (by omega) (by omega) (by omega), fun c k q1 q2 => f2 c k (by omega) (by omega) (by omega)⟩
  have mT : ∀ c k, (78 ≤ c ∧ c ≤ 81) ∨ c = 89 ∨ (102 ≤ c ∧ c ≤ 107) ∨ c = 117 → B.1 c k = T.1 c k := hm.1.2.1
  obtain ⟨x1, B1, ⟨ex, I1, I2, I3, I4⟩, r1⟩ := zMi_det (ms_36 (l := l) (n := n) (w := w) (d := d + 5) (B := B) (j := j2) (u := u) (nv := nv) (vb := vb) (vq := vq) hg (by omega) hu (by omega) ((mT 78 j2 (by omega)).trans t1) y2 hI.2.1.1 (fun t ht => ⟨(yv3 t ht).1, (yv3 t ht).2.1, by have := (yv3 t ht).2.2.2.2.1; omega⟩))
  subst ex
  have n1 : MGo l Gr n w d B j2 B1 (j2 + 1) := mg_s (z := 36) hg hj hM (hm.1.1.trans cx.2.2.1) (by
    rcases hRL.2.2 with y | y
    · exact y.2.1
    · exact absurd hk.2.2.1 y.1) ((mT 78 j2 (by omega)).trans t1) (by omega) (by omega) r1
  have gz : ∀ c k, ¬ (c = 73 ∧ k = 97) → ¬ (c = 138 ∧ k = u) → (zi (zi B 73 97 (nI nv)) 138 u 1).1 c k = B.1 c k := fun c k q1 q2 => by rw [zi_get, if_neg (by omega), zi_get, if_neg (by omega)]
  have gb : ∀ c k, ¬ (c = 73 ∧ k = 97) → ¬ (c = 138 ∧ k = u) → ¬ c = 132 → ¬ (c = 140 ∧ 8192 * u ≤ k ∧ k < 8192 * u + 8192) → B1.1 c k = B.1 c k := fun c k q1 q2 q3 q4 => by rw [I1 c k q3 q4]; exact gz c k q1 q2
  have gl : ∀ c k, B1.2 c k = B.2 c k := fun c k => I2 c k
  have b97 : B1.1 73 97 = nI nv := by rw [I1 73 97 (by omega) (by omega), zi_c (by decide)]; exact zi_v
  have b138 : B1.1 138 u = 1 := by rw [I1 138 u (by omega) (by omega)]; exact zi_v
  have El : MEl B B1 := ⟨fun k q => gb 73 k (by omega) (by omega) (by omega) (by omega), fun c k q => gb c k (by omega) (by omega) (by omega) (by omega)⟩
  have vm : VM B B1 := fun x hx => VC_El El hx
  have km : KBm B B1 := ⟨fun c k q1 q2 q3 => gb c k (by omega) (by omega) (by omega) (by omega), fun c k _ => gl c k⟩
  have b94 : B1.1 73 94 = nI (sd + 1) := (gb 73 94 (by omega) (by omega) (by omega) (by omega)).trans y1
  have hb : ∀ t W x, t < nv → vb t ≤ W → W < vb t + vq t → x < vt t → B1.1 140 (8192 * u + 32 * W + x) = B.1 132 (32 * W + x) ∧ B1.1 132 (32 * W + x) = B.1 139 (8192 * u + 32 * W + x) := fun t W x q1 q2 q3 q4 => by
    have := hvv t q1
    have z := I3 t (32 * W + x) q1 (by omega) (by omega)
    rw [← Nat.add_assoc, gz 132 _ (by omega) (by omega), gz 139 _ (by omega) (by omega)] at z
    exact z
  have hv : ∀ t W x, t < nv → vb t ≤ W → W < vb t + vq t → x < vt t → A2.1 58 (W * w + x) = B1.1 132 (32 * W + x) ∧ VC B1 (B1.1 132 (32 * W + x)) := fun t W x q1 q2 q3 q4 => by
    have z := tv1 t W x q1 q2 q3 q4
    rw [(hb t W x q1 q2 q3 q4).2]
    exact ⟨z.2.2.1, vm _ z.2.2.2⟩
  refine ⟨B1, n1, ⟨⟨⟨⟨CCo_K hk.1 kb, (f2 3 5 (by omega) (by omega) (by omega)).trans hk.2.1, (f2 24 7 (by omega) (by omega) (by omega)).trans hk.2.2.1, (f2 45 8 (by omega) (by omega) (by omega)).trans hk.2.2.2.1, c16, (f2 45 18 (by omega) (by omega) (by omega)).trans hk.2.2.2.2.2.1, (f2 45 13 (by omega) (by omega) (by omega)).trans hk.2.2.2.2.2.2.1, (f2 45 12 (by omega) (by omega) (by omega)).trans hk.2.2.2.2.2.2.2⟩, ⟨MCo_K hm.1 km, (gb 73 85 (by omega) (by omega) (by omega) (by omega)).trans hm.2.1, (gb 73 70 (by omega) (by omega) (by omega) (by omega)).trans hm.2.2.1, (gb 73 110 (by omega) (by omega) (by omega) (by omega)).trans hm.2.2.2⟩, RL_El hRL hk.2.2.1 K El ⟨sd + 1, by omega, b94⟩, hst, EN2_E (EN2_k (EN_2 hw1 hE) (fun k => f2 20 k (by omega) (by omega) (by omega)) (fun k => l2 48 k) (fun k => gb 117 k (by omega) (by omega) (by omega) (by omega)) (fun k => gl 141 k) vm) hvk hv⟩, b94, (gb 73 101 (by omega) (by omega) (by omega) (by omega)).trans y2, ⟨b97, yv1, yv2, fun t ht => by rw [gb 133 t (by omega) (by omega) (by omega) (by omega), gb 134 t (by omega) (by omega) (by omega) (by omega), gb 135 t (by omega) (by omega) (by omega) (by omega)]; exact yv3 t ht, yv4⟩, hvk, tv2, (f2 24 11 (by omega) (by omega) (by omega)).trans o1, (gb 73 69 (by omega) (by omega) (by omega) (by omega)).trans o2, o3, fun t ht => by rw [f2 31 t (by omega) (by omega) (by omega)]; exact o4 t ht, fun t ht => ?_⟩, ⟨⟨?_, ?_⟩, ⟨?_, b138⟩, fun t W x q1 q2 q3 q4 => ?_, tv3⟩, (gb 131 sd (by omega) (by omega) (by omega) (by omega)).trans hp⟩, ?_⟩
  · obtain ⟨m, q1, q2, q3, q4⟩ := o5 t ht
    refine ⟨m, q1, (gb 120 t (by omega) (by omega) (by omega) (by omega)).trans q2, q3, fun x hx => ?_⟩
    rw [f2 32 _ (by omega) (by omega) (by omega), gb 121 _ (by omega) (by omega) (by omega) (by omega)]
    exact ⟨(q4 x hx).1, vm _ (q4 x hx).2⟩
  · rw [f2 57 _ (by omega) (by omega) (by omega), gb 136 u (by omega) (by omega) (by omega) (by omega)]
    exact hI.1.1
  · rw [gb 136 u (by omega) (by omega) (by omega) (by omega)]
    exact vm _ hI.1.2
  · rw [gb 137 u (by omega) (by omega) (by omega) (by omega)]
    exact hI.2.1.1
  · have z := tv1 t W x q1 q2 q3 q4
    rw [(hb t W x q1 q2 q3 q4).1]
    exact ⟨z.1, vm _ z.2.1⟩
  · refine ⟨⟨fun k q => f2 57 k (by omega) (by omega) (by omega), fun k _ q => ?_, fun e a _ => ⟨l2 48 e, l2 49 e⟩⟩, ⟨fun t q => gb 131 t (by omega) (by omega) (by omega) (by omega), fun t c _ q2 q3 => gb c t (by omega) (by omega) (by omega) (by omega), fun k c q q2 => gb c k (by omega) (by omega) (by omega) (by omega), fun t c _ q2 q3 => gb c t (by omega) (by omega) (by omega) (by omega), fun e a _ => ⟨gl 141 a, gl 142 a, gb 143 a (by omega) (by omega) (by omega) (by omega)⟩⟩, vm, km⟩
    by_cases y : lo * w ≤ k ∧ k < lo * w + g * w
    · obtain ⟨z, rfl⟩ : ∃ z, k = lo * w + z := ⟨k - lo * w, by omega⟩
      have g0 : 0 < g := by
        rcases Nat.eq_zero_or_pos g with q | q
        · rw [q, Nat.zero_mul] at y
          omega
        · exact q
      have := mh g0
      rcases q with q | q | q
      · omega
      · omega
      · rw [(v2 z (by omega)).2]
        exact (hI.2.2.2 z (by omega)).2 (CXo_n hCx q)
    · exact f2 58 k (by omega) (by omega) (by omega)
end YIH
