theorem zf1 {S : zS} (h : zfr z0 S) {c : Nat} (hc : 73 ≤ c) (k : Nat) : S.1 c k = z0.1 c k := by rw [(h c hc).1]
section P1M
variable {l : Launch} {Gr : zG} {n w : Nat} {d : Nat} {S : zS}
theorem mw_loop {a : Nat} (ha : a ≤ 16) {v : Int32} : ∀ (j i : Nat) (S : zS), i + j = 4 → zW l Gr (zc n w) 168 M_Mo_word d 2 [some (.ref 105), some (.int (nI a)), some (.int v), some (.int (nI i))] [] S (fun u S' => u = none ∧ True)
  | 0, i, S, h => b_Mo_word_2 (fun _ => b_Mo_word_34 ⟨rfl, trivial⟩) (fun q => absurd (nI_le (a := 4) (b := i) (by omega) (by omega)) q)
  | j + 1, i, S, h => b_Mo_word_2 (fun q => absurd q (nI_ge (a := i) (b := 4) (by omega) (by omega))) (fun _ => b_Mo_word_7 (by rw [nI_add]; exact vp_in_nI (by omega) (by omega)) (by
      rw [show nI i + Int32.ofInt 1 = nI (i + 1) from nI_add i 1]
      exact mw_loop ha j (i + 1) _ (by omega)))
theorem q_word {a : Nat} (ha : a ≤ 16) {v : Int32} : zMv l Gr (zc n w) 168 M_Mo_word d [.ref 105, .int (nI a), .int v] S (fun _ => True) :=
  e_Mo_word (b_Mo_word_0 (mw_loop ha 4 0 S rfl))
theorem q_feed (hg : ip_gk (lg_tbl, vwCl, Gr)) {x1 x2 x3 x4 x5 : Int32} : zMv l Gr (zc n w) 168 M_Mo_feed (d + 1) [.ref 105, .int x1, .int x2, .int x3, .int x4, .int x5] S (fun _ => True) :=
  e_Mo_feed (b_Mo_feed_0 hg (q_word (a := 0) (by omega)) (fun _ _ => b_Mo_feed_6 hg (q_word (a := 4) (by omega)) (fun _ _ => b_Mo_feed_12 hg (q_word (a := 8) (by omega)) (fun _ _ => b_Mo_feed_19 hg (q_word (a := 12) (by omega)) (fun _ _ => b_Mo_feed_27 hg (q_word (a := 16) (by omega)) (fun _ _ => b_Mo_feed_35 ⟨rfl, trivial⟩))))))
theorem qe_loop {v : Int32} : ∀ (j i : Nat) (S : zS), i + j = 20 → S.1 73 5 = v → zW l Gr (zc n w) 168 M_Mo_end d 125 [some (.ref 105), none, some (.int (nI i))] [] S (fun u S' => ∃ x, u = some (.int x) ∧ x = v)
  | 0, i, S, h, hv => b_Mo_end_125 (fun _ => b_Mo_end_144 ⟨_, rfl, hv⟩) (fun q => absurd (nI_le (a := 20) (b := i) (by omega) (by omega)) q)
  | j + 1, i, S, h, hv => b_Mo_end_125 (fun q => absurd q (nI_ge (a := i) (b := 20) (by omega) (by omega))) (fun _ => b_Mo_end_131 (vp_in_nI (by omega) (by omega)) (by
      rw [show nI i + Int32.ofInt 1 = nI (i + 1) from nI_add i 1]
      exact qe_loop j (i + 1) _ (by omega) ((zi_c (by decide)).trans hv)))
theorem q_end (hf : zfr z0 S) {x1 : Int32} : zMi l Gr (zc n w) 168 M_Mo_end d [.ref 105, .int x1] S (fun v _ => v = p_en x1) := by
  have h5 : S.1 73 5 = 0 := zf1 hf (by omega) 5
  refine e_Mo_end (b_Mo_end_0 (fun q => b_Mo_end_22 ⟨_, rfl, ?_⟩) (fun q => b_Mo_end_4 (fun q2 => b_Mo_end_22 ⟨_, rfl, ?_⟩) (fun q2 => ?_)))
  · unfold p_en
    rw [if_neg]
    intro e
    subst e
    exact absurd q (by decide)
  · unfold p_en
    rw [if_neg]
    intro e
    subst e
    exact absurd q2 (by decide)
  · have h20 : x1 ≤ nI 20 := Int32.not_lt.mp q2
    obtain ⟨m, hm, rfl⟩ := nI_of2 (M := nI 20) (n := 20) (nI_toInt (by omega)) q h20
    refine b_Mo_end_10 (fun _ => b_Mo_end_24 (b_Mo_end_26 (fun q3 => ?_) (fun q3 => ?_))) (fun q3 => absurd ?_ q3)
    · have hm0 : m = 0 := by
        have : nI m ≤ nI 0 := q3
        have := (nI_leI (by omega) (by omega)).mp this
        omega
      subst hm0
      refine b_Mo_end_83 (b_Mo_end_85 (fun _ => b_Mo_end_113 (qe_loop (v := p_en (nI 0)) 20 0 _ rfl ?_)) (fun q4 => absurd (by decide) q4))
      rw [zi_v, h5]
      rfl
    · have hm0 : ¬ m = 0 := fun e => by
        subst e
        exact q3 (by decide)
      have h0 : S.1 74 ((0 : Int32).toNatClampNeg) = 0 := zf1 hf (by omega) _
      have hin : vp_in 0 20 := by unfold vp_in; decide
      refine b_Mo_end_31 hin (fun q4 => ?_) (fun _ => b_Mo_end_42 hin (fun q4 => ?_) (fun _ => b_Mo_end_53 hin (fun _ => b_Mo_end_75 ⟨_, rfl, ?_⟩) (fun q4 => ?_)))
      · rw [h0] at q4
        exact absurd q4 (by decide)
      · rw [h0] at q4
        exact absurd q4 (by decide)
      · unfold p_en
        rw [if_neg]
        intro e
        exact nI_ne0 (by omega) (by omega) e
      · rw [h0] at q4
        exact absurd (by decide) q4
    · rw [h5, Int32.zero_add]
      exact nI_le (a := m) (b := 4000) (by omega) (by omega)
theorem q_seed {x1 : Int32} : zMv l Gr (zc n w) 168 M_Mo_seed d [.ref 105, .int x1] S (fun _ => True) := e_Mo_seed (b_Mo_seed_0 ⟨rfl, trivial⟩)
theorem q_gate (hf : zfr z0 S) {x1 x2 : Int32} : zMi l Gr (zc n w) 168 M_Mo_gate d [.ref 105, .int x1, .int x2] S (fun v _ => v = -1) := e_Mo_gate (b_Mo_gate_0 (fun _ => b_Mo_gate_28 ⟨_, rfl, rfl⟩) (fun q => absurd (zf1 hf (by omega) 83) q))
theorem q_literal (hf : zfr z0 S) {x1 x2 : Int32} : zMi l Gr (zc n w) 168 M_Mo_literal d [.ref 105, .int x1, .int x2] S (fun v _ => v = -3) := e_Mo_literal (b_Mo_literal_0 (fun _ => b_Mo_literal_48 (b_Mo_literal_64 ⟨_, rfl, rfl⟩)) (fun q => absurd (zf1 hf (by omega) 83) q))
theorem q_input (hf : zfr z0 S) {x1 x2 : Int32} : zMl l Gr (zc n w) 168 M_Mo_input d [.ref 105, .int x1, .int x2] S (fun v _ => v = -1) := e_Mo_input (b_Mo_input_0 (fun _ => b_Mo_input_28 ⟨_, rfl, rfl⟩) (fun q => absurd (zf1 hf (by omega) 83) q))
theorem q_give (hf : zfr z0 S) {x1 x2 : Int32} : zMi l Gr (zc n w) 168 M_Mo_give d [.ref 105, .int x1, .int x2] S (fun v _ => v = 0) := e_Mo_give (b_Mo_give_0 (fun _ => b_Mo_give_19 ⟨_, rfl, Or.inl rfl, rfl⟩) (fun q => absurd (zf1 hf (by omega) 83) q))
theorem q_deal (hf : zfr z0 S) : zMi l Gr (zc n w) 168 M_Mo_deal (d + 1) [.ref 105] S (fun v _ => v = 0) := e_Mo_deal (b_Mo_deal_0 (fun q => absurd (zf1 hf (by omega) 83) q) (fun _ => b_Mo_deal_7 ⟨_, rfl, Or.inl rfl, rfl⟩))
theorem q_truth (hf : zfr z0 S) {x1 : Int32} : zMl l Gr (zc n w) 168 M_Mo_truth (d + 1) [.ref 105, .int x1] S (fun v _ => v = -1) := e_Mo_truth (b_Mo_truth_0 (fun _ => b_Mo_truth_19 ⟨_, rfl, rfl⟩) (fun q => absurd (zf1 hf (by omega) 83) q))
theorem q_party (hf : zfr z0 S) {x1 x2 : Int32} : zMi l Gr (zc n w) 168 M_Mo_party (d + 1) [.ref 105, .int x1, .int x2] S (fun v _ => v = -1) := e_Mo_party (b_Mo_party_0 (fun _ => b_Mo_party_28 ⟨_, rfl, rfl⟩) (fun q => absurd (zf1 hf (by omega) 124) q))
theorem q_dealt (hf : zfr z0 S) {x1 x2 x3 : Int32} : zMi l Gr (zc n w) 168 M_Mo_dealt d [.ref 105, .int x1, .int x2, .int x3] S (fun v _ => v = -1) := e_Mo_dealt (b_Mo_dealt_0 (fun _ => b_Mo_dealt_40 ⟨_, rfl, rfl⟩) (fun q => absurd (zf1 hf (by omega) 124) q))
theorem q_share (hf : zfr z0 S) {x1 x2 : Int32} : zMi l Gr (zc n w) 168 M_Mo_share d [.ref 105, .int x1, .int x2] S (fun v _ => v = -1) := e_Mo_share (b_Mo_share_0 (fun _ => b_Mo_share_36 ⟨_, rfl, rfl⟩) (fun q => absurd (zf1 hf (by omega) 124) q))
theorem q_view (hf : zfr z0 S) {x1 x2 : Int32} : zMi l Gr (zc n w) 168 M_Mo_view (d + 1) [.ref 105, .int x1, .int x2] S (fun v _ => v = -1) := e_Mo_view (b_Mo_view_0 (fun _ => b_Mo_view_48 ⟨_, rfl, rfl⟩) (fun q => absurd (zf1 hf (by omega) 124) q))
theorem q_told (hf : zfr z0 S) {x1 x2 : Int32} : zMl l Gr (zc n w) 168 M_Mo_told (d + 1) [.ref 105, .int x1, .int x2] S (fun v _ => v = -1) := e_Mo_told (b_Mo_told_0 (fun _ => b_Mo_told_31 ⟨_, rfl, rfl⟩) (fun q => absurd (zf1 hf (by omega) 124) q))
theorem q_deliver (hf : zfr z0 S) {x1 : Int32} : zMi l Gr (zc n w) 168 M_Mo_deliver (d + 1) [.ref 105, .int x1] S (fun v _ => v = -1) := e_Mo_deliver (b_Mo_deliver_0 (fun _ => b_Mo_deliver_12 (b_Mo_deliver_21 ⟨_, rfl, rfl⟩)) (fun q => b_Mo_deliver_4 (fun q2 => absurd (by rw [zf1 hf (by omega) 139] at q2; exact q2) q) (fun _ => b_Mo_deliver_12 (b_Mo_deliver_21 ⟨_, rfl, rfl⟩))))
theorem q_message (hf : zfr z0 S) {x1 x2 : Int32} : zMi l Gr (zc n w) 168 M_Mo_message (d + 1) [.ref 105, .int x1, .int x2] S (fun v _ => v = -1) := e_Mo_message (b_Mo_message_0 (fun _ => b_Mo_message_16 ⟨_, rfl, rfl⟩) (fun q => b_Mo_message_4 (fun _ => b_Mo_message_16 ⟨_, rfl, rfl⟩) (fun q2 => absurd (by rw [zf1 hf (by omega) 139]; exact Int32.not_lt.mp q) q2)))
theorem q_rush (hf : zfr z0 S) {x1 x2 : Int32} : zMi l Gr (zc n w) 168 M_Mo_rush (d + 1) [.ref 105, .int x1, .int x2] S (fun v _ => v = p_rs x1 x2) :=
  e_Mo_rush (b_Mo_rush_0 (fun q => b_Mo_rush_15 ⟨_, rfl, by simp [p_rs, q]⟩) (fun q => b_Mo_rush_4 (fun q2 => b_Mo_rush_15 ⟨_, rfl, by simp [p_rs, q, q2]⟩) (fun q2 => b_Mo_rush_8 (fun q3 => b_Mo_rush_17 (b_Mo_rush_19 (fun _ => b_Mo_rush_59 ⟨_, rfl, by simp [p_rs, q, q2, q3]⟩) (fun _ => b_Mo_rush_24 (fun _ => b_Mo_rush_59 ⟨_, rfl, by simp [p_rs, q, q2, q3]⟩) (fun z => absurd (by rw [zf1 hf (by omega) 139]; decide) z)))) (fun q3 => b_Mo_rush_15 ⟨_, rfl, by simp [p_rs, q, q2, q3]⟩))))
theorem qd_loop (hn : n ≤ 16) (hf : zfr z0 S) : ∀ (j i : Nat), i + j = n → zW l Gr (zc n w) 168 M_Mo_done d 4 [some (.ref 105), some (.int 0), some (.int (nI i))] [] S (fun u S' => ∃ x, u = some (.int x) ∧ x = 0)
  | 0, i, h => b_Mo_done_4 (fun _ => b_Mo_done_48 ⟨_, rfl, rfl⟩) (fun q => absurd (nI_le (a := n) (b := i) (by omega) (by omega)) q)
  | j + 1, i, h => b_Mo_done_4 (fun q => absurd q (nI_ge (a := i) (b := n) (by omega) (by omega))) (fun _ => b_Mo_done_12 (fun _ => b_Mo_done_39 (b_Mo_done_40 (by
      rw [show nI i + Int32.ofInt 1 = nI (i + 1) from nI_add i 1]
      exact qd_loop hn hf j (i + 1) (by omega)))) (fun q => absurd (zf1 hf (by omega) 124) q))
theorem q_look (hg : ip_gk (lg_tbl, vwCl, Gr)) (hn : n ≤ 16) (hf : zfr z0 S) {x1 : Int32} : zMi l Gr (zc n w) 168 M_Mo_look (d + 1) [.ref 105, .int x1] S (fun v _ => v = p_lk x1) := by
  have h83 : S.1 73 83 = 0 := zf1 hf (by omega) 83
  have mid : ∀ k : Int32, ¬ k < 1 → ¬ 8 < k → zW l Gr (zc n w) 168 M_Mo_look (d + 1) 17 [none, none] [] S (fun v S' => ∃ x, v = some (.int x) ∧ x = p_lk k) := fun k q q2 => b_Mo_look_17 ⟨_, rfl, (p_lk_mid q q2).symm⟩
  have h19 : (x1 ≤ 0 ∨ 9 ≤ x1) → zW l Gr (zc n w) 168 M_Mo_look (d + 1) 19 [some (.ref 105), some (.int x1)] [] S (fun v S' => ∃ x, v = some (.int x) ∧ x = p_lk x1) := fun hx => by
    have bad : ∀ k : Int32, x1 = k → ¬ (k ≤ 0 ∨ 9 ≤ k) → False := fun k e h => h (e ▸ hx)
    exact b_Mo_look_19 (fun q => by subst q; exact b_Mo_look_96 ⟨_, rfl, zf1 hf (by omega) 8⟩) (fun q => (bad _ q (by decide)).elim) (fun q => (bad _ q (by decide)).elim) (fun q => (bad _ q (by decide)).elim) (fun q => (bad _ q (by decide)).elim) (fun q => (bad _ q (by decide)).elim) (fun q => (bad _ q (by decide)).elim) (fun q => (bad _ q (by decide)).elim) (fun q => (bad _ q (by decide)).elim)
      (fun q => by subst q; exact b_Mo_look_162 ⟨_, rfl, zf1 hf (by omega) 139⟩) (fun q => by subst q; exact b_Mo_look_167 ⟨_, rfl, zf1 hf (by omega) 140⟩)
      (fun q => by subst q; exact b_Mo_look_172 hg (e_Mo_done (R := fun v _ => v = 0) (b_Mo_done_0 (qd_loop hn hf n 0 (by omega)))) (fun v S' h => by subst h; exact b_Mo_look_176 ⟨_, rfl, rfl⟩))
      (fun q => by subst q; exact b_Mo_look_177 (fun z => absurd h83 z) (fun _ => b_Mo_look_184 (b_Mo_look_200 ⟨_, rfl, rfl⟩)))
      (fun q => by subst q; exact b_Mo_look_201 ⟨_, rfl, zf1 hf (by omega) 121⟩) (fun q => by subst q; exact b_Mo_look_206 ⟨_, rfl, zf1 hf (by omega) 120⟩)
      (fun q0 q1 q2 q3 q4 q5 q6 q7 q8 q9 q10 q11 q12 q13 q14 => b_Mo_look_211 ⟨_, rfl, by simp [p_lk, q9, q10, q11, q12, q13, q14]⟩)
  refine e_Mo_look (b_Mo_look_0 (fun q => h19 (Or.inl q)) (fun q => b_Mo_look_4 (fun q2 => h19 (Or.inr q2)) (fun q2 => b_Mo_look_10 (fun z => absurd h83 z) (fun _ => mid x1 ?_ ?_))))
  · intro h
    apply q
    have := Int32.lt_iff_toInt_lt.mp h
    apply Int32.le_iff_toInt_le.mpr
    have e1 : (1 : Int32).toInt = 1 := rfl
    have e0 : (0 : Int32).toInt = 0 := rfl
    omega
  · intro h
    apply q2
    have := Int32.lt_iff_toInt_lt.mp h
    apply Int32.le_iff_toInt_le.mpr
    have e1 : (8 : Int32).toInt = 8 := rfl
    have e0 : (9 : Int32).toInt = 9 := rfl
    omega
theorem qw_idx {i : Nat} (h : i < 2000) : ((0 : Int32) + nI i) - ((0 : Int32) + nI i) / 2000 * 2000 = nI i := by
  rw [Int32.zero_add]
  apply Int32.toInt_inj.mp
  have e1 : (nI i / 2000 : Int32) = 0 := by
    apply Int32.toInt_inj.mp
    rw [Int32.toInt_div, nI_toInt (by omega), show (2000 : Int32).toInt = 2000 from rfl, show (0 : Int32).toInt = 0 from rfl]
    have : ((i : Int).tdiv 2000) = 0 := Int.tdiv_eq_zero_of_lt (by omega) (by omega)
    rw [this]
    rfl
  rw [e1]
  simp
theorem qr_loop {m : Nat} (hm : m ≤ 64) {b : Int64} : ∀ (j i : Nat) (S : zS), i + j = m → S.1 73 121 = nI i → S.1 73 122 = 0 → zW l Gr (zc n w) 168 M_Mo_draws d 27 [some (.ref 105), some (.long b), none, some (.int (nI m)), some (.int (nI i))] [] S (fun v S' => ∃ x, v = some (.int x) ∧ x = nI m)
  | 0, i, S, h, hw, h0 => b_Mo_draws_27 (fun _ => b_Mo_draws_74 ⟨_, rfl, by rw [hw, show i = m by omega]⟩) (fun q => absurd (nI_le (by omega) (by omega)) q)
  | j + 1, i, S, h, hw, h0 => b_Mo_draws_27 (fun q => absurd q (nI_ge (by omega) (by omega))) (fun _ => b_Mo_draws_33 (by rw [hw, h0, qw_idx (by omega)]; exact vp_in_nI (by omega) (by omega)) (by
      rw [show nI i + Int32.ofInt 1 = nI (i + 1) from nI_add i 1]
      refine qr_loop hm j (i + 1) _ (by omega) ?_ ?_
      · rw [zi_v, hw]
        exact nI_1 i
      · rw [zi_k (by decide), zi_c (by decide), h0]))
theorem q_draws (hf : zfr z0 S) {x1 : Int64} {x3 : Int32} : zMi l Gr (zc n w) 168 M_Mo_draws d [.ref 105, .long x1, .int x3] S (fun v _ => v = p_dr x3) := by
  refine e_Mo_draws (b_Mo_draws_0 (fun q => b_Mo_draws_22 ⟨_, rfl, by simp [p_dr, q]⟩) (fun q => b_Mo_draws_4 (fun q2 => b_Mo_draws_22 ⟨_, rfl, by simp [p_dr, q2]⟩) (fun q2 => ?_)))
  have e0 : p_dr x3 = x3 := by simp [p_dr, q, q2]
  have h64 : x3 ≤ nI 64 := Int32.not_lt.mp q2
  obtain ⟨m, hm, rfl⟩ := nI_of2 (M := nI 64) (n := 64) (nI_toInt (by omega)) q h64
  rw [e0]
  refine b_Mo_draws_10 (fun _ => b_Mo_draws_24 (qr_loop hm m 0 S (by omega) (zf1 hf (by omega) 121) (zf1 hf (by omega) 122))) (fun q3 => absurd ?_ q3)
  rw [zf1 hf (by omega) 121]
  show (0 : Int32) + nI m ≤ nI 2000
  rw [Int32.zero_add]
  exact nI_le (by omega) (by omega)
end P1M
