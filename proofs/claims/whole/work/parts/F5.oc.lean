/-! compile()'s turn: the store behind it -/
/-- what compile() makes of S -/
def CPo (n w : Nat) (S X : zS) : Prop := iRT X ∧ (∀ c k, ¬ (c = 0 ∧ (k = 4 ∨ (14 ≤ k ∧ k ≤ 16))) → ¬ (3 ≤ c ∧ c ≤ 58) → ¬ (c = 73 ∧ ((5 ≤ k ∧ k ≤ 112) ∨ k = 119 ∨ k = 124 ∨ k = 139 ∨ k = 140 ∨ k = 145)) → ¬ (76 ≤ c ∧ c ≤ 146) → ¬ (c = 155 ∨ c = 156 ∨ c = 167) → X.1 c k = S.1 c k) ∧ iBt n w X ∧ X.1 0 15 = 0 ∧ X.1 0 16 = 0 ∧ (∀ k, k = 119 ∨ k = 124 ∨ k = 139 ∨ k = 140 → X.1 73 k = 0) ∧ X.1 3 5 = X.1 73 7 ∧ (¬ X.1 3 5 = 0 → X.1 3 6 = X.1 73 8)
section OCM
variable {l : Launch} {Gr : zG} {n w q : Nat} {S S0 S1 S2 : zS} {x : Int32} {Inv : zS → Prop}
theorem cg_35 (h : CMG n w x S1 S2) : S1.1 3 5 = 0 ∧ S2.1 73 7 = 0 := by
  obtain ⟨-, S6, A, A2, T6, B1, B, Av, D, k, t, i, j, vw, nv, vb, vq, vt, no, bo, st, iw, an, lv, g, g', Dm, hD, hk, ht, cx, aa, ic, kbc, gl, fin, eS, ins, kbm, h9, pg, ceq, gl', ml, mf⟩ := h
  refine ⟨?_, ?_⟩
  · rw [eS, zi_c (by decide), fin.1 3 5 (by omega), zi_c (by decide)]
    exact pg.1.1.1.2.1
  · rw [mf.1 73 7 (by omega) (by omega)]
    exact YB_7 pg.1.1
theorem cp_o (hR : iRT S) (k0 : KCr S S0) (k1 : KCr S S1) (h04 : S1.1 0 4 = 0) (kd : KDr S0 S2) (h735 : S2.1 73 5 = 0) (h : CMB n x S1 S2 ∨ CMG n w x S1 S2) : CPo n w S (zmx S1 S2) := by
  have fr : ∀ c k, ¬ (c = 0 ∧ (k = 4 ∨ (14 ≤ k ∧ k ≤ 16))) → ¬ (3 ≤ c ∧ c ≤ 58) → ¬ (c = 73 ∧ ((5 ≤ k ∧ k ≤ 112) ∨ k = 119 ∨ k = 124 ∨ k = 139 ∨ k = 140 ∨ k = 145)) → ¬ (76 ≤ c ∧ c ≤ 146) → ¬ (c = 155 ∨ c = 156 ∨ c = 167) → (zmx S1 S2).1 c k = S.1 c k := fun c k q1 q2 q3 q4 q5 => by
    by_cases z : c < 73
    · rw [zmx_l z]
      exact k1.1 c k q1 q2
    · rw [zmx_r (by omega), kd.1 c k q3 q4 q5]
      exact k0.1 c k q1 q2
  obtain ⟨t, ht, -, -, a3, -⟩ := hR
  refine ⟨⟨0, by omega, by rw [zmx_l (by omega)]; exact h04, by rw [zmx_r (by omega)]; exact h735, fun k hk => ?_, fun k hk => absurd hk (Nat.not_lt_zero _)⟩, fr, ?_, by rw [zmx_l (by omega)]; exact k1.2.2.1, by rw [zmx_l (by omega)]; exact k1.2.2.2, fun k hk => by rw [zmx_r (by omega)]; exact kd.2.2 k hk, ?_, fun z => ?_⟩
  · rw [fr 1 k (by omega) (by omega) (by omega) (by omega) (by omega), fr 74 k (by omega) (by omega) (by omega) (by omega) (by omega)]
    exact a3 k hk
  · rcases h with ⟨-, -, -, -, b14, b83, b6, -, -⟩ | h
    · exact Or.inl ⟨by rw [zmx_l (by omega)]; exact b14, by rw [zmx_r (by omega)]; exact b83, by rw [zmx_l (by omega)]; exact b6, by rw [zmx_l (by omega)]; exact k1.2.2.1, by rw [zmx_r (by omega)]; exact kd.2.2 124 (by omega)⟩
    · obtain ⟨g1, g2, g3⟩ := g_ck h
      exact Or.inr ⟨g2, g3, g1⟩
  · rw [zmx_l (by omega), zmx_r (by omega)]
    rcases h with ⟨-, b5, b7, -⟩ | h
    · rw [b5, b7]
    · rw [(cg_35 h).1, (cg_35 h).2]
  · rw [zmx_l (by omega)] at z ⊢
    rw [zmx_r (by omega)]
    rcases h with ⟨-, -, -, b8, -⟩ | h
    · exact b8
    · exact absurd (cg_35 h).1 z
/-- compile() on both: one answer, and the store behind it -/
theorem o_comp (hg : ip_gk (lg_tbl, vwCl, Gr)) (ho : ip_old (lg_tbl, vwCl, Gr)) (hn : 2 ≤ n ∧ n ≤ 16) (hw : 1 ≤ w ∧ w ≤ 32) (hI : Inv S) (hR : iRT S) (hN : ∀ X, CPo n w S X → Inv X) : ∃ (v : Int32) (h1 : ip_H) (S3 : zS), ip_RnM l (lg_tbl, vwCl, Gr) M_H_compile (q + 302) [.ref 32] (zP (zc n w) 168 S) (some (.int v), h1) ∧ (∃ fs, ip_h h1 105 = some (.inr (12, fs))) ∧ ip_RnM l (lg_tbl, vwCl, Gr) M_Mo_compile (q + 302) [.ref 105] h1 (some (.int v), zP (zc n w) 168 S3) ∧ Inv S3 := by
  obtain ⟨x0, S0, y, S1, S2, c0, c1, m0, k0, k1, h04, kd, h5, hc⟩ := cmp_all (l := l) (Gr := Gr) (q := q) hg ho hn hw hR
  exact t_two hI c0 c1 m0 (fun c hc => ⟨funext fun k => kd.1 c k (by omega) (by omega) (by omega), funext fun k => kd.2.1 c k (by omega) (by omega)⟩) (hN _ (cp_o hR k0 k1 h04 kd h5 hc))
end OCM
