/-! BUILD on both sides: whole -/
def kBu (w : Nat) (A : zS) : zS := zi (zi (zi (zi (zi (zfill A 58 (-2) (256 * w)) 45 8 0) 45 12 0) 45 13 0) 45 16 0) 45 18 0
def mBu (B : zS) : zS := zi (zi (zi (zi (zi (zi (zi (zi (zi (zi B 73 66 0) 73 67 0) 73 68 0) 73 69 0) 73 70 0) 73 94 0) 73 97 0) 73 101 0) 73 110 0) 73 85 0
/-- the class ahead of BUILD -/
def BKe (S A : zS) (iwb : Nat) : Prop := CCo S A ∧ A.1 3 5 = 0 ∧ A.1 24 8 = nI iwb ∧ A.1 24 4 = 0 ∧ A.1 24 5 = 0 ∧ A.1 24 6 = 0 ∧ A.1 24 7 = 0 ∧ A.1 24 11 = 0 ∧ A.1 31 0 = 0
/-- the reference as its loop begins -/
def BMe (T B : zS) (iwb : Nat) : Prop := MCo T B ∧ B.1 73 7 = 0 ∧ B.1 73 65 = nI iwb ∧ B.1 73 66 = 0 ∧ B.1 73 67 = 0 ∧ B.1 73 68 = 0 ∧ B.1 73 69 = 0 ∧ B.1 73 70 = 0 ∧ B.1 73 94 = 0 ∧ B.1 73 97 = 0 ∧ B.1 73 101 = 0 ∧ B.1 73 110 = 0 ∧ B.1 73 85 = 0
/-- what the class's BUILD makes, for the reference's code T -/
def BUr (l : Launch) (Gr : zG) (n w d : Nat) (S T : zS) (Av : Nat → Nat → Prop) (N M vw iwb : Nat) (A' : zS) : Prop := (∃ nv vb vq vt no bo st', 9 * no ≤ 4000 ∧ ∀ B, BMe T B iwb → ∃ B', MGo l Gr n w d B 0 B' M ∧ PGZ w Av S T N vw nv vb vq vt no bo iwb st' A' B' ∧ KBm B B') ∨ ∀ B, BMe T B iwb → ∃ B' j'', MGo l Gr n w d B 0 B' j'' ∧ KBm B B' ∧ FBT A' B'
section BUW
variable {l : Launch} {Gr : zG} {n w d D N M : Nat} {S T T' A A' B B0 B1 : zS} {Av Av' : Nat → Nat → Prop} {i i' j j' k iw iw' vw vw' p x o r z iwb iwF : Nat} {H : Nat → Nat → Nat → Nat → Prop} {Q : Option Value → zS → Prop}
theorem aP_T (hT : ∀ c x, (78 ≤ c ∧ c ≤ 81) ∨ c = 89 ∨ (102 ≤ c ∧ c ≤ 107) → T'.1 c x = T.1 c x) (hT2 : ∀ x, T'.2 82 x = T.2 82 x) : ∀ k Av vw iw i j p, aP n w D S T H k Av vw iw i j p → aP n w D S T' H k Av vw iw i j p
  | 0, _, _, _, _, _, _, h => h
  | k + 1, Av, vw, iw, i, j, p, h => by
    obtain ⟨i0, j0, iw0, vw0, A0, p0, h0, h1, h2⟩ := h
    refine ⟨i0, j0, iw0, vw0, A0, p0, aP_T hT hT2 k _ _ _ _ _ _ h0, ?_, h2⟩
    have U : ∀ a b, anU T T' a b := fun a b => ⟨fun c k q => hT c k q.1, hT2⟩
    rcases h1 with ⟨h1, e⟩ | ⟨h1, e⟩ | ⟨h1, e⟩ | ⟨h1, e⟩
    · exact Or.inl ⟨aT_D (Nat.le_refl _) h1 anS_rfl (U _ _), e⟩
    · obtain ⟨e', r, z, o, q1, q2, q3, q4, q5, q6, q7, q8, q9, q10, q11, q12, e1, e2, f1, t1, t2, t3, t4, q13⟩ := h1
      exact Or.inr (Or.inl ⟨⟨e', r, z, o, q1, q2, q3, q4, q5, q6, q7, q8, q9, q10, q11, q12, e1, e2, f1, (hT 78 _ (by omega)).trans t1, (hT 78 _ (by omega)).trans t2, (hT 80 _ (by omega)).trans t3, (hT2 _).trans t4, q13⟩, e⟩)
    · obtain ⟨e', r, k', i1, j1, q1, q2, q3, q4, q5, q6, q7, q8, hxx, q9, q10, e1, e2, f1, f2, f3, t1, t2, t3, t4, t5⟩ := h1
      exact Or.inr (Or.inr (Or.inl ⟨⟨e', r, k', i1, j1, q1, q2, q3, q4, q5, q6, q7, fun a ha => ⟨(q8 a ha).1, (q8 a ha).2.1, (q8 a ha).2.2.1, (q8 a ha).2.2.2.1, (q8 a ha).2.2.2.2.1, (hT 78 _ (by omega)).trans (q8 a ha).2.2.2.2.2⟩, aX_cong (Nat.le_refl _) (fun _ _ y => y) hxx anS_rfl (anU_T (U _ _)), q9, q10, e1, e2, f1, f2, f3, (hT 78 _ (by omega)).trans t1, (hT 80 _ (by omega)).trans t2, (hT2 _).trans t3, (hT 78 _ (by omega)).trans t4, (hT 78 _ (by omega)).trans t5⟩, e⟩))
    · obtain ⟨r, i1, j1, hr, hxx, e1, e2, f1, f2, f3, f4, g1, g2, g3, g4, g5⟩ := h1
      exact Or.inr (Or.inr (Or.inr ⟨⟨r, i1, j1, hr, aX_cong (Nat.le_refl _) (fun _ _ y => y) hxx anS_rfl (anU_T (U _ _)), e1, e2, f1, f2, f3, f4, (hT 78 _ (by omega)).trans g1, (hT 81 _ (by omega)).trans g2, (hT 78 _ (by omega)).trans g3, (hT 80 _ (by omega)).trans g4, (hT 78 _ (by omega)).trans g5⟩, e⟩))
theorem kBu_n {c k : Nat} (h : ¬ (c = 45 ∧ (k = 8 ∨ k = 12 ∨ k = 13 ∨ k = 16 ∨ k = 18))) (h2 : ¬ c = 58) : (kBu w A).1 c k = A.1 c k := by
  unfold kBu zfill
  rw [zi_get, if_neg (by omega), zi_get, if_neg (by omega), zi_get, if_neg (by omega), zi_get, if_neg (by omega), zi_get, if_neg (by omega), zI_get, if_neg (by omega)]
theorem kBu_58 {k : Nat} (h : k < 256 * w) : (kBu w A).1 58 k = -2 := by
  unfold kBu zfill
  rw [zi_c (by decide), zi_c (by decide), zi_c (by decide), zi_c (by decide), zi_c (by decide), zI_get, if_pos rfl, if_pos h]
theorem kBu_45 {k : Nat} (h : k = 8 ∨ k = 12 ∨ k = 13 ∨ k = 16 ∨ k = 18) : (kBu w A).1 45 k = 0 := by
  unfold kBu
  rcases h with rfl | rfl | rfl | rfl | rfl
  · rw [zi_k (by decide), zi_k (by decide), zi_k (by decide), zi_k (by decide)]; exact zi_v
  · rw [zi_k (by decide), zi_k (by decide), zi_k (by decide)]; exact zi_v
  · rw [zi_k (by decide), zi_k (by decide)]; exact zi_v
  · rw [zi_k (by decide)]; exact zi_v
  · exact zi_v
theorem pg_0 (hA : BKe S A iwb) (hB : BMe T B iwb) (hiw : iwb ≤ 8192) : PGZ w (fun _ _ => False) S T 0 0 0 (fun _ => 0) (fun _ => 0) (fun _ => 0) 0 (fun _ => 0) iwb 0 (kBu w A) B := by
  obtain ⟨a1, a2, a3, a4, a5, a6, a7, a8, a9⟩ := hA
  obtain ⟨m1, m7, m65, m66, m67, m68, m69, m70, m94, m97, m101, m110, m85⟩ := hB
  have f : ∀ c k, ¬ (c = 45 ∧ (k = 8 ∨ k = 12 ∨ k = 13 ∨ k = 16 ∨ k = 18)) → ¬ c = 58 → (kBu w A).1 c k = A.1 c k := fun c k => kBu_n
  have c0 : CCo S (kBu w A) := ⟨(f 3 4 (by omega) (by omega)).trans a1.1, fun c k q => (f c k (by omega) (by omega)).trans (a1.2 c k q)⟩
  refine ⟨⟨⟨⟨c0, (f 3 5 (by omega) (by omega)).trans a2, (f 24 7 (by omega) (by omega)).trans a7, by rw [kBu_45 (by omega), Nat.zero_mul]; rfl, kBu_45 (by omega), kBu_45 (by omega), kBu_45 (by omega), kBu_45 (by omega)⟩, ⟨m1, m85, m70, m110⟩, ⟨⟨0, by omega, (f 24 4 (by omega) (by omega)).trans a4⟩, ⟨⟨⟨0, by omega, m66⟩, 0, by omega, m94⟩, iwb, hiw, m65⟩, Or.inl ⟨(f 24 7 (by omega) (by omega)).trans a7, m7, 0, iwb, by omega, hiw, (f 24 4 (by omega) (by omega)).trans a4, m66, (f 24 8 (by omega) (by omega)).trans a3, m65, by rw [f 24 5 (by omega) (by omega), a5, m67], m67, by rw [f 24 6 (by omega) (by omega), a6, m68], ⟨0, by omega, m68⟩, fun k hk => absurd hk (Nat.not_lt_zero k)⟩⟩, by omega, fun _ _ _ _ h => h.elim⟩, m94, m101, ⟨m97, by omega, by omega, fun t ht => absurd ht (Nat.not_lt_zero t), fun t ht => absurd ht (by omega)⟩, fun _ _ _ _ h => h.elim, fun k hk => by rw [kBu_58 hk]; exact fun _ => Or.inr rfl, (f 24 11 (by omega) (by omega)).trans a8, m69, rfl, fun t ht => ?_, fun t ht => absurd ht (Nat.not_lt_zero t)⟩, m65⟩
  rw [show t = 0 by omega]
  exact ⟨(f 31 0 (by omega) (by omega)).trans a9, Nat.zero_le _⟩
theorem w_build (hg : ip_gk (lg_tbl, vwCl, Gr)) (ho : ip_old (lg_tbl, vwCl, Gr)) (hw1 : 1 ≤ w) (hw : w ≤ 32) (cx : CTX S T N M) (hD : D ≤ 800) (nu : ∀ x, x ≤ N → ur S x ≤ 30) (inf : INF iw iwb S T) (an : aP n w D S T (hxI S) k Av vw iw N M p) (hk : k ≤ 4000) (hp : p ≤ 4000) (hA : BKe S A iwb) (hB : BMe T B0 iwb) : zMv l Gr (zc n w) 168 M_Builder_build (d + 12) [.ref 77] A (fun A' => KBc (kBu w A) A' ∧ BUr l Gr n w d S T Av N M vw iwb A') := by
  have hN := cx.2.1
  obtain ⟨nv, vb, vq, vt, no, bo, nd, -, ⟨b1, b2, b3⟩, T1⟩ := pg_all (l := l) (Gr := Gr) (d := d) hg ho hw1 hw cx hD nu inf k Av vw iw N M p an (Nat.le_refl _) (Nat.le_refl _) hp (Nat.le_refl _)
  have z0 := pg_0 (w := w) hA hB inf.1
  obtain ⟨kk, A', g1, kb, hh⟩ := T1 0 (kBu w A) B0 z0
  have hw2 : 256 * w ≤ 256 * 32 := Nat.mul_le_mul_left _ hw
  have key : ∀ R : zS → Prop, kk < 100000000 → (A'.1 3 4 ≤ A'.1 45 16 ∨ ¬ A'.1 3 5 = 0) → R A' → zMv l Gr (zc n w) 168 M_Builder_build (d + 12) [.ref 77] A R := fun R hkk hx hR => by
    refine e_Builder_build (b_Builder_build_0 hg (m_fill_90 (by omega) (-2)) (fun A1 e1 => b_Builder_build_9 ?_))
    rw [e1]
    have g := g1 0 (fun v S' => v = none ∧ R S') (by omega)
    rw [Nat.zero_add] at g
    refine g (b_Builder_build_36 (fun y => absurd y (nI_ge (a := kk) (b := 100000000) hkk (by omega))) (fun _ => b_Builder_build_42 (fun _ => b_Builder_build_189 ⟨rfl, hR⟩) (fun y => b_Builder_build_56 (fun _ => b_Builder_build_189 ⟨rfl, hR⟩) (fun y2 => ?_))))
    rcases hx with hx | hx
    · exact absurd hx y
    · exact absurd y2 hx
  rcases hh with ⟨st', s1, b4, m4⟩ | ⟨b4, m4⟩
  · obtain ⟨B', -, z1, -⟩ := m4 B0 z0
    have hst := z1.1.1.2.2.2.1
    refine key _ (by omega) (Or.inl ?_) ⟨kb, Or.inl ⟨nv, vb, vq, vt, no, bo, st', by omega, fun B hB => m4 B (pg_0 hA hB inf.1)⟩⟩
    rw [z1.1.1.1.1.1, cx.1, z1.1.1.1.2.2.2.2.1]
    exact nI_le (Nat.le_refl _) (by omega)
  · obtain ⟨B', j'', -, -, fb⟩ := m4 B0 z0
    exact key _ (by omega) (Or.inr fb.1) ⟨kb, Or.inr (fun B hB => m4 B (pg_0 hA hB inf.1))⟩
end BUW
