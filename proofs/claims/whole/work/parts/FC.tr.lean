/-! triples: the class cuts them -/
def tpA (q : Nat) (Qs : Nat → Int32) (s : Int32) (n i : Nat) : Int32 × Nat := dBut q Qs s (fun _ => false) n 0 i 0
def tpB (q : Nat) (Qs : Nat → Int32) (s : Int32) (n i : Nat) : Int32 × Nat := dBut q Qs s (fun _ => false) n 0 (tpA q Qs s n i).2 0
def tpO (q : Nat) (Qs : Nat → Int32) (s : Int32) (n i : Nat) : Int32 × Nat := dBut q Qs s (fun p => decide (p = 0)) n 0 (tpB q Qs s n i).2 0
def tpC (q : Nat) (Qs : Nat → Int32) (s : Int32) (n i : Nat) : Int32 := (tpO q Qs s n i).1 ||| (par (tpO q Qs s n i).1 ^^^ (par (tpA q Qs s n i).1 &&& par (tpB q Qs s n i).1))
/-- draws before triple k -/
def tNk (q : Nat) (Qs : Nat → Int32) (s : Int32) (n i0 : Nat) : Nat → Nat
  | 0 => i0
  | k + 1 => (tpO q Qs s n (tNk q Qs s n i0 k)).2
/-- triple k lies in the class's rows -/
def TRk (q : Nat) (Qs : Nat → Int32) (s : Int32) (n i0 : Nat) (S : zS) (k : Nat) : Prop := S.1 61 k = (tpA q Qs s n (tNk q Qs s n i0 k)).1 ∧ S.1 62 k = (tpB q Qs s n (tNk q Qs s n i0 k)).1 ∧ S.1 63 k = tpC q Qs s n (tNk q Qs s n i0 k)
def FTk (S S' : zS) : Prop := (∀ c k, ¬ (c = 59 ∧ (k = 3 ∨ k = 4)) → ¬ (61 ≤ c ∧ c ≤ 63) → S'.1 c k = S.1 c k) ∧ ∀ c k, S'.2 c k = S.2 c k
section TRI
variable {l : Launch} {Gr : zG} {n w d q f i i0 m : Nat} {S S0 S' S'' : zS} {s x : Int32} {Qs : Nat → Int32} {Q : Option Value → zS → Prop}
theorem DCq_zi {c k : Nat} {v : Int32} (h : DCq q Qs s i S) (hc : ¬ c = 59) (hc2 : ¬ c = 60) : DCq q Qs s i (zi S c k v) :=
  ⟨h.1, by rw [zi_c (Ne.symm hc)]; exact h.2.1, by rw [zi_c (Ne.symm hc)]; exact h.2.2.1, by rw [zi_c (Ne.symm hc)]; exact h.2.2.2.1, fun j hj => by rw [zi_c (Ne.symm hc2)]; exact h.2.2.2.2 j hj⟩
theorem le_m1 (hn : n ≤ 16) : ∀ p, p < n → ((fun _ : Nat => false) p = true ↔ nI p = -1) := fun p hp => ⟨fun y => absurd y Bool.false_ne_true, fun y => absurd y (nI_no (by omega))⟩
theorem le_0 (hn : n ≤ 16) : ∀ p, p < n → ((fun p : Nat => decide (p = 0)) p = true ↔ nI p = 0) := fun p hp => ⟨fun y => by rw [of_decide_eq_true y]; rfl, fun y => decide_eq_true ((nI_eq (b := 0) (by omega) (by omega)).mp y)⟩
theorem w_ct_2 (hg : ip_gk (lg_tbl, vwCl, Gr)) (hn : n ≤ 16) (hm : m ≤ 40000) (kk : ∀ S', DCq q Qs s (tNk q Qs s n i0 m) S' → (∀ j, j < m → TRk q Qs s n i0 S' j) → FTk S0 S' → Q none S') : ∀ c k S, k + c = m → DCq q Qs s (tNk q Qs s n i0 k) S → (∀ j, j < k → TRk q Qs s n i0 S j) → FTk S0 S → zW l Gr (zc n w) 168 M_Dealer_cutTriples (d + 2) 2 [some (.ref 91), some (.int (nI m)), some (.int (nI k)), none] [] S Q
  | 0, k, S, h, hD, hT, hF => by
    have ek : k = m := by omega
    subst ek
    exact b_Dealer_cutTriples_2 (fun _ => b_Dealer_cutTriples_79 (kk S hD hT hF)) (fun y => absurd (nI_le (Nat.le_refl _) (by omega)) y)
  | c + 1, k, S, h, hD, hT, hF => by
    have ck : (nI k).toNatClampNeg = k := nI_clamp (by omega)
    have vk : vp_in (nI k) 40000 := vp_in_nI (by omega) (by omega)
    refine b_Dealer_cutTriples_2 (fun y => absurd y (nI_ge (by omega) (by omega))) (fun _ => b_Dealer_cutTriples_7 (fun y => absurd y (nI_ge (a := k) (b := 40000) (by omega) (by omega))) (fun _ => b_Dealer_cutTriples_13 hg (w_dbut hg hn (le_m1 hn) hD) (fun v S1 h1 => ?_)))
    obtain ⟨rfl, d1, f1⟩ := h1
    refine b_Dealer_cutTriples_23 hg vk (w_dbut hg hn (le_m1 hn) (DCq_zi d1 (by decide) (by decide))) (fun v S2 h2 => ?_)
    obtain ⟨rfl, d2, f2⟩ := h2
    refine b_Dealer_cutTriples_34 hg vk (w_dbut hg hn (le_0 hn) (DCq_zi d2 (by decide) (by decide))) (fun v S3 h3 => ?_)
    obtain ⟨rfl, d3, f3⟩ := h3
    refine b_Dealer_cutTriples_40 hg (w_par hg) (fun v S' e => ?_)
    obtain ⟨rfl, rfl⟩ := e
    refine b_Dealer_cutTriples_51 hg vk (w_par hg) (fun v S' e => ?_)
    obtain ⟨rfl, rfl⟩ := e
    refine b_Dealer_cutTriples_60 hg vk (w_par hg) (fun v S' e => ?_)
    obtain ⟨rfl, rfl⟩ := e
    rw [ck] at f2 f3
    have r61 : ∀ j, S'.1 61 j = if j = k then (tpA q Qs s n (tNk q Qs s n i0 k)).1 else S.1 61 j := fun j => by
      rw [f3.1 61 j (by omega), zi_c (by decide), f2.1 61 j (by omega)]
      by_cases z : j = k
      · rw [if_pos z, z]
        exact zi_v
      · rw [if_neg z, zi_k z]
        exact f1.1 61 j (by omega)
    have r62 : ∀ j, S'.1 62 j = if j = k then (tpB q Qs s n (tNk q Qs s n i0 k)).1 else S.1 62 j := fun j => by
      rw [f3.1 62 j (by omega)]
      by_cases z : j = k
      · rw [if_pos z, z]
        exact zi_v
      · rw [if_neg z, zi_k z, f2.1 62 j (by omega), zi_c (by decide)]
        exact f1.1 62 j (by omega)
    have r63 : ∀ j, S'.1 63 j = S.1 63 j := fun j => by
      rw [f3.1 63 j (by omega), zi_c (by decide), f2.1 63 j (by omega), zi_c (by decide)]
      exact f1.1 63 j (by omega)
    refine b_Dealer_cutTriples_69 vk ?_
    rw [ck, show nI k + Int32.ofInt 1 = nI (k + 1) from nI_add k 1, r61 k, if_pos rfl, r62 k, if_pos rfl]
    refine w_ct_2 hg hn hm kk c (k + 1) _ (by omega) (DCq_zi d3 (by decide) (by decide)) (fun j hj => ?_) ⟨fun c i q1 q2 => ?_, fun c i => ?_⟩
    · by_cases z : j = k
      · subst z
        exact ⟨by rw [zi_c (by decide), r61, if_pos rfl], by rw [zi_c (by decide), r62, if_pos rfl], zi_v⟩
      · obtain ⟨t1, t2, t3⟩ := hT j (by omega)
        exact ⟨by rw [zi_c (by decide), r61, if_neg z]; exact t1, by rw [zi_c (by decide), r62, if_neg z]; exact t2, by rw [zi_k z, r63]; exact t3⟩
    · rw [zi_get, if_neg (by omega), f3.1 c i (by omega), zi_get, if_neg (by omega), f2.1 c i (by omega), zi_get, if_neg (by omega), f1.1 c i (by omega)]
      exact hF.1 c i q1 q2
    · show S'.2 c i = S0.2 c i
      rw [f3.2 c i]
      show S2.2 c i = _
      rw [f2.2 c i]
      show S1.2 c i = _
      rw [f1.2 c i]
      exact hF.2 c i
theorem w_ct (hg : ip_gk (lg_tbl, vwCl, Gr)) (hn : n ≤ 16) (hm : m ≤ 40000) (hD : DCq q Qs s i0 S) : zMv l Gr (zc n w) 168 M_Dealer_cutTriples (d + 2) [.ref 91, .int (nI m)] S (fun S' => DCq q Qs s (tNk q Qs s n i0 m) S' ∧ (∀ j, j < m → TRk q Qs s n i0 S' j) ∧ FTk S S') :=
  e_Dealer_cutTriples (b_Dealer_cutTriples_0 (w_ct_2 hg hn hm (fun S' a1 a2 a3 => ⟨rfl, a1, a2, a3⟩) m 0 S (by omega) hD (fun j hj => absurd hj (Nat.not_lt_zero _)) ⟨fun _ _ _ _ => rfl, fun _ _ => rfl⟩))
end TRI
