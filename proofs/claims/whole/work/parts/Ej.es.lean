/-! compile(): the class reads -/
/-- the class as its reading begins -/
def kRd (b : Nat → Int32) (t : Nat) (S : zS) : zS := wS b t (gp b t 0) (zi (zi (zi (zi S 34 9 0) 34 10 0) 38 1 (nI t)) 38 4 0)
section RDE
variable {l : Launch} {Gr : zG} {n w d D : Nat} {S T : zS} {b : Nat → Int32} {t : Nat}
theorem kRd_n {c k : Nat} (h : ¬ (c = 34 ∧ (k = 9 ∨ k = 10))) (h2 : ¬ (c = 38 ∧ 1 ≤ k ∧ k ≤ 4)) : (kRd b t S).1 c k = S.1 c k := by
  unfold kRd wS
  rw [zi_get, if_neg (by omega), zi_get, if_neg (by omega), zi_get, if_neg (by omega), zi_get, if_neg (by omega), zi_get, if_neg (by omega), zi_get, if_neg (by omega), zi_get, if_neg (by omega)]
theorem w_rdP (hg : ip_gk (lg_tbl, vwCl, Gr)) (ho : ip_old (lg_tbl, vwCl, Gr)) (hn : 2 ≤ n ∧ n ≤ 16) (hw : 1 ≤ w ∧ w ≤ 32) (htx : ∀ k, k < t → tx (b k)) (ht : t ≤ 4000) (hD : 300 ≤ D) (hb : S.1 2 = b) (h34 : S.1 3 4 = 0) (h35 : S.1 3 5 = 0) (h81 : S.1 8 1 = nI t) (h89 : S.1 8 9 = 0) (h176 : S.1 17 6 = 0) (h177 : S.1 17 7 = 0) (h23 : ∀ q, q < n → S.1 23 q = 0) : zMv l Gr (zc n w) 168 M_Reader_readProgram (D + 1) [.ref 66, .int (nI t)] S (fun S' => PROK l Gr n w d b t (kRd b t S) S' ∨ PRBD l Gr n w d b t (kRd b t S) S') := by
  obtain ⟨D', rfl⟩ : ∃ D', D = D' + 6 := ⟨D - 6, by omega⟩
  have e1 : (zi (zi (zi (zi S 34 9 0) 34 10 0) 38 1 (nI t)) 38 4 0).1 2 = b := by
    rw [zi_row (by decide), zi_row (by decide), zi_row (by decide), zi_row (by decide)]
    exact hb
  refine e_Reader_readProgram (b_Reader_readProgram_0 hg (e_Words_begin (R := fun S' => S' = kRd b t S) (b_Words_begin_0 hg (w_advance (d := D') (i := 0) hg ho ht (Nat.zero_le _) e1 (by rw [zi_k (by decide)]; exact zi_v) zi_v) (fun S' e => b_Words_begin_14 ⟨rfl, e⟩))) (fun S' e => b_Reader_readProgram_18 ?_))
  rw [e]
  have gk := gp_ok (b := b) (t := t) (i := 0) (Nat.zero_le _)
  have f : ∀ c k, ¬ (c = 34 ∧ (k = 9 ∨ k = 10)) → ¬ (c = 38 ∧ 1 ≤ k ∧ k ≤ 4) → (kRd b t S).1 c k = S.1 c k := fun c k => kRd_n
  have v34 : (kRd b t S).1 34 9 = 0 ∧ (kRd b t S).1 34 10 = 0 := by
    unfold kRd wS
    refine ⟨?_, ?_⟩
    · rw [zi_c (by decide), zi_c (by decide), zi_c (by decide), zi_c (by decide), zi_c (by decide), zi_k (by decide)]; exact zi_v
    · rw [zi_c (by decide), zi_c (by decide), zi_c (by decide), zi_c (by decide), zi_c (by decide)]; exact zi_v
  have cs : CS b t (gp b t 0) 0 0 (kRd b t S) := by
    refine ⟨?_, ?_, ?_, ?_, ?_, (f 3 4 (by omega) (by omega)).trans h34, (f 3 5 (by omega) (by omega)).trans h35, v34.1, gk, ht⟩
    · unfold kRd wS
      rw [zi_row (by decide), zi_row (by decide), zi_row (by decide)]
      exact e1
    · unfold kRd wS
      rw [zi_k (by decide), zi_k (by decide), zi_k (by decide), zi_k (by decide)]
      exact zi_v
    · unfold kRd wS
      rw [zi_k (by decide), zi_k (by decide)]
      exact zi_v
    · unfold kRd wS
      rw [zi_k (by decide)]
      exact zi_v
    · unfold kRd wS
      exact zi_v
  have cn : CN b t (gp b t 0) 0 0 0 (kRd b t S) := ⟨cs, (f 8 1 (by omega) (by omega)).trans h81, (f 8 9 (by omega) (by omega)).trans h89, v34.2, by omega, by omega, by omega, fun e he => absurd he (Nat.not_lt_zero e)⟩
  have ic : Ic n w (kRd b t S) 0 := ⟨by omega, (f 17 6 (by omega) (by omega)).trans h176, (f 17 7 (by omega) (by omega)).trans h177, fun a ha => absurd ha (Nat.not_lt_zero a), fun q hq => (f 23 q (by omega) (by omega)).trans (h23 q hq)⟩
  exact wx_pr (S0 := kRd b t S) hg ho hn hw htx hD t (kRd b t S) (gp b t 0) 0 0 0 0 0 (by omega) (Nat.zero_le _) ⟨cn, ic, JK_rfl, fun T0 hH => ⟨T0, 0, 0, 0, 0, PX_rfl, hH, PK_rfl, rfl, rfl, rfl, rfl, rfl⟩⟩
end RDE
