/-! BUILD of the reference, whole -/
section BUM
variable {l : Launch} {Gr : zG} {n w d D N M : Nat} {S T T' A A' B B0 B1 : zS} {Av Av' : Nat → Nat → Prop} {i i' j j' k iw iw' vw vw' p x o r z iwb iwF : Nat} {H : Nat → Nat → Nat → Nat → Prop} {Q : Option Value → zS → Prop}
theorem iW_mo : ∀ c a, iW S a ≤ iW S (a + c)
  | 0, a => Nat.le_refl _
  | c + 1, a => by
    have := iW_mo c a
    show iW S a ≤ iW S (a + c) + iB S (a + c)
    omega
theorem iW_le : ∀ a, (∀ b, b < a → iB S b ≤ 32) → iW S a ≤ 32 * a
  | 0, _ => Nat.le_refl _
  | a + 1, h => by
    have := iW_le a (fun b hb => h b (by omega))
    have := h a (by omega)
    show iW S a + iB S a ≤ _
    omega
/-- where the inputs lie, of both -/
theorem inf_of (hw1 : 1 ≤ w) (hw : w ≤ 32) (hc : iw ≤ 256) (h20 : ∀ a, a < iw → ∃ bt, (bt = 1 ∨ bt = w) ∧ S.1 19 a = nI bt ∧ S.1 20 a = nI (iW S a)) (h117 : ∀ a, a < iw → T.1 117 a = nI (iW S a)) : INF iw (iW S iw) S T := by
  have hb : ∀ a, a < iw → iB S a ≤ 32 := fun a ha => by
    obtain ⟨bt, h1, h2, -⟩ := h20 a ha
    unfold iB
    rw [h2, nI_clamp (by omega)]
    omega
  refine ⟨by have := iW_le iw hb; omega, fun a ha => ?_⟩
  obtain ⟨bt, h1, h2, h3⟩ := h20 a ha
  refine ⟨iW S a, bt, h3, h117 a ha, h2, ?_, by omega⟩
  have e : iW S (a + 1) = iW S a + bt := by
    show iW S a + iB S a = _
    unfold iB
    rw [h2, nI_clamp (by omega)]
  have := iW_mo (S := S) (iw - (a + 1)) (a + 1)
  rw [show a + 1 + (iw - (a + 1)) = iw by omega] at this
  omega
theorem mBu_n {c k : Nat} (h : ¬ (c = 73 ∧ ((66 ≤ k ∧ k ≤ 70) ∨ k = 85 ∨ k = 94 ∨ k = 97 ∨ k = 101 ∨ k = 110))) : (mBu B).1 c k = B.1 c k := by
  unfold mBu
  rw [zi_get, if_neg (by omega), zi_get, if_neg (by omega), zi_get, if_neg (by omega), zi_get, if_neg (by omega), zi_get, if_neg (by omega), zi_get, if_neg (by omega), zi_get, if_neg (by omega), zi_get, if_neg (by omega), zi_get, if_neg (by omega), zi_get, if_neg (by omega)]
theorem mBu_0 {k : Nat} (h : (66 ≤ k ∧ k ≤ 70) ∨ k = 85 ∨ k = 94 ∨ k = 97 ∨ k = 101 ∨ k = 110) : (mBu B).1 73 k = 0 := by
  unfold mBu
  simp only [zi_get, true_and]
  have : k = 66 ∨ k = 67 ∨ k = 68 ∨ k = 69 ∨ k = 70 ∨ k = 85 ∨ k = 94 ∨ k = 97 ∨ k = 101 ∨ k = 110 := by omega
  rcases this with rfl | rfl | rfl | rfl | rfl | rfl | rfl | rfl | rfl | rfl <;> rfl
/-- what the reference's BUILD makes: with the class's store A' for the code T that it then has -/
def BMr (l : Launch) (Gr : zG) (n w d : Nat) (S Bp : zS) (Av : Nat → Nat → Prop) (N M vw iw : Nat) (R : zS → zS → Prop) (B' : zS) : Prop := ∃ B1 A', INs S (zi (zi Bp 73 75 0) 73 65 0) B1 iw ∧ R (mBu B1) A' ∧ KBm (mBu B1) B' ∧ ((∃ nv vb vq vt no bo st', 9 * no ≤ 4000 ∧ PGZ w Av S (mBu B1) N vw nv vb vq vt no bo (iW S iw) st' A' B') ∨ FBT A' B')
theorem m_build (hg : ip_gk (lg_tbl, vwCl, Gr)) (hw1 : 1 ≤ w) (hw : w ≤ 32) (hn : n ≤ 16) (hM : M ≤ 12000) (h13 : B.1 73 13 = nI M) (h7 : B.1 73 7 = 0) (hT : ∀ c x, (78 ≤ c ∧ c ≤ 81) ∨ c = 89 ∨ (102 ≤ c ∧ c ≤ 107) → B.1 c x = T.1 c x) (hT2 : ∀ x, B.2 82 x = T.2 82 x) (an : aP n w D S T (hxI S) k Av vw iw N M p) {R : zS → zS → Prop} (fam : ∀ T', T'.1 73 13 = nI M → BMe T' T' (iW S iw) → (∀ a, a < iw → T'.1 117 a = nI (iW S a)) → aP n w D S T' (hxI S) k Av vw iw N M p → ∃ A', R T' A' ∧ BUr l Gr n w d S T' Av N M vw (iW S iw) A') : zMv l Gr (zc n w) 168 M_Mo_build (d + 12) [.ref 105] B (fun B' => BMr l Gr n w d S B Av N M vw iw R B') := by
  have ent : zMv l Gr (zc n w) 168 M_Mo_inputsOfAll (d + 11) [.ref 105] B (fun B1 => INs S (zi (zi B 73 75 0) 73 65 0) B1 iw) := by
    refine e_Mo_inputsOfAll (b_Mo_inputsOfAll_0 ?_)
    have z13 : (zi (zi B 73 75 0) 73 65 0).1 73 13 = nI M := by rw [zi_k (by decide), zi_k (by decide)]; exact h13
    refine io_all (d := d + 10) (T := T) hg hw hw1 hn hM z13 (fun c x q => by rw [zi_c (by omega), zi_c (by omega)]; exact hT c x (by omega)) hT2 k Av vw iw N M p an (Nat.le_refl _) (fun B1 h1 => ?_) _ ⟨fun _ _ _ _ => rfl, fun _ _ _ => rfl, by rw [zi_k (by decide)]; exact zi_v, zi_v, fun a ha => absurd ha (Nat.not_lt_zero a)⟩
    refine b_Mo_inputsOfAll_12 (fun _ => b_Mo_inputsOfAll_159 ⟨rfl, h1⟩) (fun y => absurd ?_ y)
    rw [h1.1 73 13 (by omega) (by omega), z13]
    exact nI_le (Nat.le_refl _) (by omega)
  refine e_Mo_build (b_Mo_build_0 hg ent (fun B1 h1 => b_Mo_build_4 ?_))
  have hb : ∀ c k, ¬ (c = 73 ∧ (k = 65 ∨ k = 75 ∨ (66 ≤ k ∧ k ≤ 70) ∨ k = 85 ∨ k = 94 ∨ k = 97 ∨ k = 101 ∨ k = 110)) → ¬ (115 ≤ c ∧ c ≤ 117) → (mBu B1).1 c k = B.1 c k := fun c k q1 q2 => by
    rw [mBu_n (by omega), h1.1 c k (by omega) q2, zi_get, if_neg (by omega), zi_get, if_neg (by omega)]
  have l82 : ∀ x, (mBu B1).2 82 x = T.2 82 x := fun x => (h1.2.1 82 x (by omega)).trans (hT2 x)
  have b13 : (mBu B1).1 73 13 = nI M := (hb 73 13 (by omega) (by omega)).trans h13
  have bm : BMe (mBu B1) (mBu B1) (iW S iw) := ⟨⟨rfl, fun _ _ _ => rfl, fun _ => rfl⟩, (hb 73 7 (by omega) (by omega)).trans h7, (mBu_n (by omega)).trans h1.2.2.2.1, mBu_0 (by omega), mBu_0 (by omega), mBu_0 (by omega), mBu_0 (by omega), mBu_0 (by omega), mBu_0 (by omega), mBu_0 (by omega), mBu_0 (by omega), mBu_0 (by omega), mBu_0 (by omega)⟩
  have an' : aP n w D S (mBu B1) (hxI S) k Av vw iw N M p := aP_T (fun c x q => (hb c x (by omega) (by omega)).trans (hT c x q)) l82 k _ _ _ _ _ _ an
  obtain ⟨A', hR, hU⟩ := fam (mBu B1) b13 bm (fun a ha => (mBu_n (by omega)).trans (h1.2.2.2.2 a ha).2.2.1) an'
  rcases hU with ⟨nv, vb, vq, vt, no, bo, st', hno, hU⟩ | hU
  · obtain ⟨B', g, z, kb⟩ := hU (mBu B1) bm
    refine g _ (b_Mo_build_56 (fun _ => b_Mo_build_99 ⟨rfl, B1, A', h1, hR, kb, Or.inl ⟨nv, vb, vq, vt, no, bo, st', hno, z⟩⟩) (fun y => absurd ?_ y))
    rw [kb.1 73 13 (by omega) (by omega) (by omega), b13]
    exact nI_le (Nat.le_refl _) (by omega)
  · obtain ⟨B', j'', g, kb, fb⟩ := hU (mBu B1) bm
    have fin : zW l Gr (zc n w) 168 M_Mo_build (d + 12) 99 [none, none] [] B' (fun v B' => v = none ∧ BMr l Gr n w d S B Av N M vw iw R B') := b_Mo_build_99 ⟨rfl, B1, A', h1, hR, kb, Or.inr fb⟩
    exact g _ (b_Mo_build_56 (fun _ => fin) (fun _ => b_Mo_build_64 (fun _ => fin) (fun y => absurd (fb.2.1.symm.trans y) fb.1)))
end BUM
