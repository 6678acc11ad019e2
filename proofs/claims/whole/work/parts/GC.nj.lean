/-! build, with mean() beside it -/
section MBM
variable {l l2 : Launch} {Gr Gr2 : zG} {n w d d2 D N M : Nat} {S B C : zS} {Av : Nat → Nat → Prop} {k iw vw p : Nat} {V vm : Nat → Nat}
theorem GdT_0 (h66 : B.1 73 66 = 0) (h94 : B.1 73 94 = 0) (h65 : B.1 73 65 = nI k) (hk : k ≤ 8192) : GdT k B := ⟨⟨⟨⟨0, by omega, h66⟩, 0, by omega, h94⟩, k, hk, h65⟩, h65, hk, 0, by omega, h66, fun g hg => absurd hg (Nat.not_lt_zero g)⟩
theorem mb_mean (hg : ip_gk (lg_tbl, vwCl, Gr)) (hg2 : ip_gk (lg_tbl, vwCl, Gr2)) (hw1 : 1 ≤ w) (hw : w ≤ 32) (hn : n ≤ 16) (cx : CTX S B N M) (h7 : B.1 73 7 = 0) (hD : D ≤ 800) (hp : p ≤ 4000) (nu : ∀ x, x ≤ N → ur S x ≤ 30) (hIc : Ic n w S iw) (an : aP n w D S B (hxI S) k Av vw iw N M p) (hV : ∀ t, V t = 0 ∨ V t = 1) (hC : MD B C) (c115 : C.1 73 115 = nI 0) (c118 : C.1 73 118 = nI 0) (c110 : C.1 73 110 = nI 0) (hin : ∀ a, a < iw → vm a < 2 ^ iB S a ∧ inW C a = lN (vm a)) (hbit : ∀ a j, a < iw → j < iB S a → V (iW S a + j) = vm a / 2 ^ j % 2) : zMv l Gr (zc n w) 168 M_Mo_build (d + 12) [.ref 105] B (fun B' => ¬ B'.1 73 7 = 0 ∨ ∃ C' no, B'.1 73 7 = 0 ∧ 9 * no ≤ 4000 ∧ GdT (iW S iw) B' ∧ NGo l2 Gr2 n w d2 C 0 C' M ∧ FCp C C' ∧ OUm V (iW S iw) w True no B' C') := by
  have hM := cx.2.2.2
  have h13 := cx.2.2.1
  have ent : zMv l Gr (zc n w) 168 M_Mo_inputsOfAll (d + 11) [.ref 105] B (fun B1 => INs S (zi (zi B 73 75 0) 73 65 0) B1 iw) := by
    refine e_Mo_inputsOfAll (b_Mo_inputsOfAll_0 ?_)
    have z13 : (zi (zi B 73 75 0) 73 65 0).1 73 13 = nI M := by rw [zi_k (by decide), zi_k (by decide)]; exact h13
    refine io_all (d := d + 10) (T := B) hg hw hw1 hn hM z13 (fun c x q => by rw [zi_c (by omega), zi_c (by omega)]) (fun _ => rfl) k Av vw iw N M p an (Nat.le_refl _) (fun B1 h1 => ?_) _ ⟨fun _ _ _ _ => rfl, fun _ _ _ => rfl, by rw [zi_k (by decide)]; exact zi_v, zi_v, fun a ha => absurd ha (Nat.not_lt_zero a)⟩
    refine b_Mo_inputsOfAll_12 (fun _ => b_Mo_inputsOfAll_159 ⟨rfl, h1⟩) (fun y => absurd ?_ y)
    rw [h1.1 73 13 (by omega) (by omega), z13]
    exact nI_le (Nat.le_refl _) (by omega)
  refine e_Mo_build (b_Mo_build_0 hg ent (fun B1 h1 => b_Mo_build_4 ?_))
  have hb : ∀ c k, ¬ (c = 73 ∧ (k = 65 ∨ k = 75 ∨ (66 ≤ k ∧ k ≤ 70) ∨ k = 85 ∨ k = 94 ∨ k = 97 ∨ k = 101 ∨ k = 110)) → ¬ (115 ≤ c ∧ c ≤ 117) → (mBu B1).1 c k = B.1 c k := fun c k q1 q2 => by
    rw [mBu_n (by omega), h1.1 c k (by omega) q2, zi_get, if_neg (by omega), zi_get, if_neg (by omega)]
  have l82 : ∀ x, (mBu B1).2 82 x = B.2 82 x := fun x => h1.2.1 82 x (by omega)
  have b13 : (mBu B1).1 73 13 = nI M := (hb 73 13 (by omega) (by omega)).trans h13
  have an' : aP n w D S (mBu B1) (hxI S) k Av vw iw N M p := aP_T (fun c x q => hb c x (by omega) (by omega)) l82 k _ _ _ _ _ _ an
  have h117 : ∀ a, a < iw → (mBu B1).1 117 a = nI (iW S a) := fun a ha => (mBu_n (by omega)).trans (h1.2.2.2.2 a ha).2.2.1
  have inf : INF iw (iW S iw) S (mBu B1) := inf_of hw1 hw hIc.1 (fun a ha => by
    obtain ⟨o, bt, i1, i2, i3, i4, i5, i6⟩ := hIc.2.2.2.1 a ha
    exact ⟨bt, i2, i4, i5⟩) h117
  have iv : INv V (iW S iw) vm iw S (mBu B1) := ⟨inf.1, fun a ha => by
    obtain ⟨q, bt, q1, q2, q3, q4, q5⟩ := inf.2 a ha
    have eq : q = iW S a := by
      have hq : iW S a ≤ 32 * a := iW_le a (fun b hb' => by
        obtain ⟨o, bt, i1, i2, i3, i4, i5, i6⟩ := hIc.2.2.2.1 b (by omega)
        unfold iB
        rw [i4, nI_clamp (by omega)]
        omega)
      have := hIc.1
      have := inf.1
      exact (nI_eq (by omega) (by omega)).mp (q2.symm.trans (h117 a ha))
    have eb : iB S a = bt := by
      unfold iB
      rw [q3, nI_clamp (by omega)]
    refine ⟨q, bt, q2, q3, q4, q5, by rw [← eb]; exact (hin a ha).1, fun x hx => ?_⟩
    rw [eq, hbit a x ha (by rw [eb]; exact hx), Nat.testBit_eq_decide_div_mod_eq]
    have : vm a / 2 ^ x % 2 = 0 ∨ vm a / 2 ^ x % 2 = 1 := by omega
    rcases this with e | e <;> rw [e] <;> rfl⟩
  have cx' : CTX S (mBu B1) N M := ⟨cx.1, cx.2.1, b13, hM⟩
  have gd : GdT (iW S iw) (mBu B1) := GdT_0 (mBu_0 (by omega)) (mBu_0 (by omega)) ((mBu_n (by omega)).trans h1.2.2.2.1) inf.1
  have z0 : MPZ V (iW S iw) w True vm iw (fun _ _ => False) S (mBu B1) 0 0 (fun _ => 0) (fun _ => 0) (fun _ => 0) 0 0 (mBu B1) C := by
    refine ⟨⟨⟨⟨⟨rfl, fun _ _ _ => rfl, fun _ => rfl⟩, (hb 73 7 (by omega) (by omega)).trans h7, gd, mBu_0 (by omega), mBu_0 (by omega), by omega, mBu_0 (by omega), fun q => absurd q (by omega)⟩, fun _ => ⟨⟨?_, fun c k q => ?_, fun x => ?_⟩, c115, c110, fun q => absurd q (by omega)⟩, Nat.le_refl _, fun _ _ _ _ q => q.elim⟩, mBu_0 (by omega), mBu_0 (by omega), ⟨mBu_0 (by omega), Nat.le_refl _, by omega, fun t ht => absurd ht (Nat.not_lt_zero t), fun t ht => absurd ht (Nat.not_lt_zero _)⟩, fun _ _ _ _ q => q.elim⟩, ⟨mBu_0 (by omega), fun _ => c118, fun t ht => absurd ht (Nat.not_lt_zero t)⟩, fun _ a ha => (hin a ha).2⟩
    · rw [b13, hC.1]
      exact h13
    · rw [hb c k (by omega) (by omega)]
      exact hC.2.1 c k q
    · rw [l82]
      exact hC.2.2 x
  obtain ⟨nv, vb, vq, vt, no, nd, -, ⟨-, b9, -⟩, T1⟩ := mpg_all (l := l) (l2 := l2) (n := n) (d := d) (d2 := d2) (act := True) hg hg2 hw1 hw hV cx' hD nu iv k Av vw iw N M p an' (Nat.le_refl _) (Nat.le_refl _) hp (Nat.le_refl _)
  rcases T1 0 (mBu B1) C z0 with ⟨B', C', st', m1, n1, z1⟩ | ⟨B', j'', m1, z1⟩
  · refine m1 _ (b_Mo_build_56 (fun _ => b_Mo_build_99 ⟨rfl, Or.inr ⟨C', no, z1.1.1.1.2.1, by omega, z1.1.1.1.2.2.1, (n1 trivial).1, (n1 trivial).2, z1.2.1⟩⟩) (fun y => absurd ?_ y))
    rw [z1.1.1.1.1.1, b13]
    exact nI_le (Nat.le_refl _) (by omega)
  · have fin : zW l Gr (zc n w) 168 M_Mo_build (d + 12) 99 [none, none] [] B' (fun v B' => v = none ∧ (¬ B'.1 73 7 = 0 ∨ ∃ C' no, B'.1 73 7 = 0 ∧ 9 * no ≤ 4000 ∧ GdT (iW S iw) B' ∧ NGo l2 Gr2 n w d2 C 0 C' M ∧ FCp C C' ∧ OUm V (iW S iw) w True no B' C')) := b_Mo_build_99 ⟨rfl, Or.inl z1⟩
    exact m1 _ (b_Mo_build_56 (fun _ => fin) (fun _ => b_Mo_build_64 (fun _ => fin) (fun y => absurd y z1)))
end MBM
