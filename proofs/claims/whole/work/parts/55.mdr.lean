section MDR
variable {l : Launch} {Gr : zG} {n w : Nat} {d : Nat} {S : zS}
def gI (S T : zS) (b : Int64) (q f i : Nat) : Prop := (∀ c, c ≠ 73 → c ≠ 150 → T.1 c = S.1 c) ∧ T.2 = S.2 ∧ (∀ k, k ≠ 121 → T.1 73 k = S.1 73 k) ∧ T.1 73 121 = nI (q + i) ∧ (∀ k, k < q → T.1 150 ((f + k) % 2000) = S.1 150 ((f + k) % 2000)) ∧ ∀ k, k < i → T.1 150 ((f + q + k) % 2000) = drb b k
theorem wm_kl {q f m : Nat} (hm : m ≤ 64) (hq : q + m ≤ 2000) (hf : f < 2000) {b : Int64} {S0 : zS} (h0 : S0.1 73 122 = nI f) : ∀ (j i : Nat) (S : zS), i + j = m → gI S0 S b q f i → zW l Gr (zc n w) 168 M_Mo_draws d 27 [some (.ref 105), some (.long b), none, some (.int (nI m)), some (.int (nI i))] [] S (fun v S' => ∃ x, v = some (.int x) ∧ x = nI (q + m) ∧ gI S0 S' b q f m)
  | 0, i, S, h, hp => b_Mo_draws_27 (fun _ => b_Mo_draws_74 ⟨_, rfl, by rw [hp.2.2.2.1, show i = m by omega], by rw [show m = i by omega]; exact hp⟩) (fun z => absurd (nI_le (a := m) (b := i) (by omega) (by omega)) z)
  | j + 1, i, S, h, hp => by
    have e2 : S.1 73 122 = nI f := by rw [hp.2.2.1 122 (by decide)]; exact h0
    have ei : (S.1 73 122 + S.1 73 121) - (S.1 73 122 + S.1 73 121) / 2000 * 2000 = nI ((f + q + i) % 2000) := by
      rw [e2, hp.2.2.2.1, nI_add, show f + (q + i) = f + q + i by omega]
      exact pk_rem (a := f + q + i) (d := 2000) (by omega) (by omega) (by omega)
    have hlt : (f + q + i) % 2000 < 2000 := Nat.mod_lt _ (by omega)
    refine b_Mo_draws_27 (fun z => absurd z (nI_ge (a := i) (b := m) (by omega) (by omega))) (fun _ => b_Mo_draws_33 (by rw [ei]; exact vp_in_nI hlt (by omega)) ?_)
    rw [ei, nI_clamp (by omega), show nI i + Int32.ofInt 1 = nI (i + 1) from nI_add i 1]
    refine wm_kl hm hq hf h0 j (i + 1) _ (by omega) ⟨fun c h1 h2 => ?_, hp.2.1, fun k hk => ?_, ?_, fun k hk => ?_, fun k hk => ?_⟩
    · funext k
      rw [zi_c h1, zi_c h2, hp.1 c h1 h2]
    · rw [zi_k hk, zi_c (by decide)]
      exact hp.2.2.1 k hk
    · rw [zi_v, hp.2.2.2.1]
      exact nI_1 (q + i)
    · rw [zi_c (by decide), zi_k (by omega)]
      exact hp.2.2.2.2.1 k hk
    · rw [zi_c (by decide)]
      by_cases e : k = i
      · subst e
        rw [zi_v]
        rfl
      · rw [zi_k (by omega)]
        exact hp.2.2.2.2.2 k (by omega)
theorem wm_draws {b : Int64} {x3 : Int32} {q f : Nat} (hq : q ≤ 2000) (hf : f < 2000) (h2 : S.1 73 121 = nI q) (h3 : S.1 73 122 = nI f) : zMi l Gr (zc n w) 168 M_Mo_draws d [.ref 105, .long b, .int x3] S (fun v S' => (v = -1 ∧ S' = S ∧ ∀ m : Nat, x3 = nI m → m ≤ 64 → ¬ q + m ≤ 2000) ∨ ∃ m : Nat, x3 = nI m ∧ m ≤ 64 ∧ q + m ≤ 2000 ∧ v = nI (q + m) ∧ gI S S' b q f m) := by
  refine e_Mo_draws (b_Mo_draws_0 (fun z => b_Mo_draws_22 ⟨_, rfl, Or.inl ⟨rfl, rfl, fun m e hm => ?_⟩⟩) (fun z => b_Mo_draws_4 (fun z2 => b_Mo_draws_22 ⟨_, rfl, Or.inl ⟨rfl, rfl, fun m e hm => ?_⟩⟩) (fun z2 => ?_)))
  · subst e
    exact absurd z (nI_pos (by omega))
  · subst e
    exact absurd z2 (nI_nlt (a := 64) (b := m) hm (by omega))
  · have h64 : x3 ≤ nI 64 := Int32.not_lt.mp z2
    obtain ⟨m, hm, rfl⟩ := nI_of2 (M := nI 64) (n := 64) (nI_toInt (by omega)) z h64
    refine b_Mo_draws_10 (fun z3 => b_Mo_draws_24 ?_) (fun z3 => b_Mo_draws_22 ⟨_, rfl, Or.inl ⟨rfl, rfl, fun m' e hm' h5 => ?_⟩⟩)
    · rw [h2, nI_add] at z3
      have h5 : q + m ≤ 2000 := (nI_leI (a := q + m) (b := 2000) (by omega) (by omega)).mp z3
      refine z_imp (wm_kl hm h5 hf h3 m 0 S (by omega) ⟨fun _ _ _ => rfl, rfl, fun _ _ => rfl, h2, fun _ _ => rfl, fun k hk => absurd hk (Nat.not_lt_zero k)⟩) (fun v S' h => ?_)
      obtain ⟨x, e, hx, hk⟩ := h
      exact ⟨x, e, Or.inr ⟨m, rfl, hm, h5, hx, hk⟩⟩
    · have : m = m' := (nI_eq (by omega) (by omega)).mp e
      subst this
      rw [h2, nI_add] at z3
      exact z3 (nI_le (a := q + m) (b := 2000) h5 (by omega))
/-! the tie of the draws -/
def iDR (S : zS) : Prop := ∃ q f : Nat, q ≤ 2000 ∧ f < 2000 ∧ S.1 59 2 = nI q ∧ S.1 59 3 = 0 ∧ S.1 73 121 = nI q ∧ S.1 73 122 = nI f ∧ (∀ k, k < q → S.1 60 k = S.1 150 ((f + k) % 2000) ∧ (S.1 60 k = 0 ∨ S.1 60 k = 1)) ∧ S.1 59 4 = S.1 73 120
theorem o_draws (hg : ip_gk (lg_tbl, vwCl, Gr)) {b : Int64} {x3 : Int32} (h : iDR S) : ∃ (v : Int32) (S1 : zS), ip_RnM l (lg_tbl, vwCl, Gr) M_H_draws (d + 1) [.ref 32, .long b, .int x3] (zP (zc n w) 168 S) (some (.int v), zP (zc n w) 168 S1) ∧ ∃ S2 : zS, ip_RnM l (lg_tbl, vwCl, Gr) M_Mo_draws (d + 1) [.ref 105, .long b, .int x3] (zP (zc n w) 168 S1) (some (.int v), zP (zc n w) 168 S2) ∧ iDR S2 ∧ (∀ c, c ≠ 59 → c ≠ 60 → c ≠ 73 → c ≠ 150 → S2.1 c = S.1 c) ∧ (∀ k, k ≠ 121 → S2.1 73 k = S.1 73 k) ∧ (∀ k, k ≠ 2 → S2.1 59 k = S.1 59 k) ∧ S2.2 = S.2 := by
  obtain ⟨q, f, hq, hf, a1, a0, a2, a3, a4, a5⟩ := h
  obtain ⟨_, S1, ⟨v, rfl, hv⟩, c1⟩ := w_draws (l := l) (Gr := Gr) (n := n) (w := w) (d := d) (b := b) (x3 := x3) hg hq a1
  rcases hv with ⟨rfl, rfl, hv⟩ | ⟨m, rfl, hm, h5, rfl, hk⟩
  · obtain ⟨_, S2, ⟨u, rfl, hu⟩, c2⟩ := wm_draws (l := l) (Gr := Gr) (n := n) (w := w) (d := d + 1) (b := b) (x3 := x3) (S := S1) hq hf a2 a3
    rcases hu with ⟨rfl, rfl, -⟩ | ⟨m, e, hm, h5, -, -⟩
    · exact ⟨_, _, c1, S2, c2, ⟨q, f, hq, hf, a1, a0, a2, a3, a4, a5⟩, fun _ _ _ _ _ => rfl, fun _ _ => rfl, fun _ _ => rfl, rfl⟩
    · exact absurd h5 (hv m e hm)
  · have b2 : S1.1 73 121 = nI q := by rw [hk.1 73 (by decide) (by decide)]; exact a2
    have b3 : S1.1 73 122 = nI f := by rw [hk.1 73 (by decide) (by decide)]; exact a3
    obtain ⟨_, S2, ⟨u, rfl, hu⟩, c2⟩ := wm_draws (l := l) (Gr := Gr) (n := n) (w := w) (d := d + 1) (b := b) (x3 := nI m) (S := S1) hq hf b2 b3
    rcases hu with ⟨-, -, hu⟩ | ⟨m', e, hm', h5', rfl, hg2⟩
    · exact absurd h5 (hu m rfl hm)
    · have : m = m' := (nI_eq (by omega) (by omega)).mp e
      subst this
      have r : ∀ c, c ≠ 73 → c ≠ 150 → S2.1 c = S1.1 c := hg2.1
      refine ⟨_, _, c1, S2, c2, ⟨q + m, f, h5, hf, ?_, ?_, hg2.2.2.2.1, ?_, fun k hk2 => ?_, ?_⟩, fun c h1 h2 h3 h4 => ?_, fun k hk2 => ?_, fun k hk2 => ?_, ?_⟩
      · rw [r 59 (by decide) (by decide)]
        exact hk.2.2.2.1
      · rw [r 59 (by decide) (by decide), hk.2.2.1 3 (by decide)]
        exact a0
      · rw [hg2.2.2.1 122 (by decide)]
        exact b3
      · rw [r 60 (by decide) (by decide)]
        by_cases e1 : k < q
        · rw [hk.2.2.2.2.1 k (Or.inl e1), hg2.2.2.2.2.1 k e1, hk.1 150 (by decide) (by decide)]
          exact a4 k e1
        · have e2 := hk.2.2.2.2.2 (k - q) (by omega)
          have e3 := hg2.2.2.2.2.2 (k - q) (by omega)
          rw [show q + (k - q) = k by omega] at e2
          rw [show f + q + (k - q) = f + k by omega] at e3
          rw [e2, e3]
          exact ⟨rfl, drb_01 b (k - q)⟩
      · rw [r 59 (by decide) (by decide), hk.2.2.1 4 (by decide), hg2.2.2.1 120 (by decide), hk.1 73 (by decide) (by decide)]
        exact a5
      · rw [r c h3 h4, hk.1 c h1 h2]
      · rw [hg2.2.2.1 k hk2, hk.1 73 (by decide) (by decide)]
      · rw [r 59 (by decide) (by decide), hk.2.2.1 k hk2]
      · rw [hg2.2.1, hk.2.1]
end MDR
