/-! draws that wait, the seed -/
def drb (b : Int64) (i : Nat) : Int32 := (((((b : Int64)).toUInt64 >>> (((nI i : Int32)).toInt64.toUInt64 &&& Int64.toUInt64 63)).toInt64 &&& 1)).toInt32
theorem and1_l (x : Int64) : x &&& 1 = 0 ∨ x &&& 1 = 1 := by
  have h : (x &&& 1).toBitVec.toNat = x.toBitVec.toNat % 2 := by
    rw [Int64.toBitVec_and, BitVec.toNat_and, show (1 : Int64).toBitVec.toNat = 1 from rfl, Nat.and_one_is_mod]
  have h2 := Nat.mod_two_eq_zero_or_one x.toBitVec.toNat
  rcases h2 with h2 | h2
  · left
    apply Int64.toBitVec_inj.mp
    apply BitVec.eq_of_toNat_eq
    rw [h, h2]
    rfl
  · right
    apply Int64.toBitVec_inj.mp
    apply BitVec.eq_of_toNat_eq
    rw [h, h2]
    rfl
theorem drb_01 (b : Int64) (i : Nat) : drb b i = 0 ∨ drb b i = 1 := by
  unfold drb
  rcases and1_l ((b.toUInt64 >>> ((nI i).toInt64.toUInt64 &&& Int64.toUInt64 63)).toInt64) with h | h
  · left; rw [h]; rfl
  · right; rw [h]; rfl
theorem drb_b (b : Int64) (i : Nat) : ((drb b i).toInt8.toInt32).toInt8.toInt32 = drb b i := by
  rcases drb_01 b i with h | h
  · rw [h]; rfl
  · rw [h]; rfl
section DR
variable {l : Launch} {Gr : zG} {n w : Nat} {d : Nat} {S : zS}
/-- T: S with the draws b of i bits more behind q -/
def kI (S T : zS) (b : Int64) (q i : Nat) : Prop := (∀ c, c ≠ 59 → c ≠ 60 → T.1 c = S.1 c) ∧ T.2 = S.2 ∧ (∀ k, k ≠ 2 → T.1 59 k = S.1 59 k) ∧ T.1 59 2 = nI (q + i) ∧ (∀ k, (k < q ∨ q + i ≤ k) → T.1 60 k = S.1 60 k) ∧ ∀ k, k < i → T.1 60 (q + k) = drb b k
theorem w_kl {q m : Nat} (hm : m ≤ 64) (hq : q + m ≤ 2000) {b : Int64} {S0 : zS} : ∀ (j i : Nat) (S : zS), i + j = m → kI S0 S b q i → zW l Gr (zc n w) 168 M_Dealer_keep d 3 [some (.ref 91), some (.long b), none, some (.int (nI m)), some (.int (nI i))] [] S (fun v S' => ∃ x, v = some (.int x) ∧ x = nI (q + m) ∧ kI S0 S' b q m)
  | 0, i, S, h, hp => b_Dealer_keep_3 (fun _ => b_Dealer_keep_52 ⟨_, rfl, by rw [hp.2.2.2.1, show i = m by omega], by rw [show m = i by omega]; exact hp⟩) (fun z => absurd (nI_le (a := m) (b := i) (by omega) (by omega)) z)
  | j + 1, i, S, h, hp => b_Dealer_keep_3 (fun z => absurd z (nI_ge (a := i) (b := m) (by omega) (by omega))) (fun _ => b_Dealer_keep_9 (fun z => absurd z (by rw [hp.2.2.2.1]; exact nI_ge (a := q + i) (b := 2000) (by omega) (by omega))) (fun _ => b_Dealer_keep_19 (by rw [hp.2.2.2.1]; exact vp_in_nI (by omega) (by omega)) (by
      rw [show nI i + Int32.ofInt 1 = nI (i + 1) from nI_add i 1]
      refine w_kl hm hq j (i + 1) _ (by omega) ⟨fun c h1 h2 => ?_, hp.2.1, fun k hk => ?_, ?_, fun k hk => ?_, fun k hk => ?_⟩
      · funext k
        rw [zi_c h1, zi_c h2, hp.1 c h1 h2]
      · rw [zi_k hk, zi_c (by decide)]
        exact hp.2.2.1 k hk
      · rw [zi_v, hp.2.2.2.1]
        exact nI_1 (q + i)
      · rw [zi_c (by decide), hp.2.2.2.1, nI_clamp (by omega), zi_k (by omega)]
        exact hp.2.2.2.2.1 k (by omega)
      · rw [zi_c (by decide), hp.2.2.2.1, nI_clamp (by omega)]
        by_cases e : k = i
        · subst e
          rw [zi_v]
          exact drb_b b k
        · rw [zi_k (by omega)]
          exact hp.2.2.2.2.2 k (by omega))))
theorem w_draws (hg : ip_gk (lg_tbl, vwCl, Gr)) {b : Int64} {x3 : Int32} {q : Nat} (hq : q ≤ 2000) (h2 : S.1 59 2 = nI q) : zMi l Gr (zc n w) 168 M_H_draws (d + 1) [.ref 32, .long b, .int x3] S (fun v S' => (v = -1 ∧ S' = S ∧ ∀ m : Nat, x3 = nI m → m ≤ 64 → ¬ q + m ≤ 2000) ∨ ∃ m : Nat, x3 = nI m ∧ m ≤ 64 ∧ q + m ≤ 2000 ∧ v = nI (q + m) ∧ kI S S' b q m) := by
  refine e_H_draws (b_H_draws_0 (fun z => b_H_draws_25 ⟨_, rfl, Or.inl ⟨rfl, rfl, fun m e hm => ?_⟩⟩) (fun z => b_H_draws_4 (fun z2 => b_H_draws_25 ⟨_, rfl, Or.inl ⟨rfl, rfl, fun m e hm => ?_⟩⟩) (fun z2 => ?_)))
  · subst e
    exact absurd z (nI_pos (by omega))
  · subst e
    exact absurd z2 (nI_nlt (a := 64) (b := m) hm (by omega))
  · have h64 : x3 ≤ nI 64 := Int32.not_lt.mp z2
    obtain ⟨m, hm, rfl⟩ := nI_of2 (M := nI 64) (n := 64) (nI_toInt (by omega)) z h64
    refine b_H_draws_10 (fun z3 => ?_) (fun z3 => b_H_draws_25 ⟨_, rfl, Or.inl ⟨rfl, rfl, fun m' e hm' h5 => ?_⟩⟩)
    · rw [h2, nI_add] at z3
      have h5 : q + m ≤ 2000 := (nI_leI (a := q + m) (b := 2000) (by omega) (by omega)).mp z3
      exact b_H_draws_27 hg (e_Dealer_keep (b_Dealer_keep_0 (w_kl hm h5 m 0 S (by omega) ⟨fun _ _ _ => rfl, rfl, fun _ _ => rfl, h2, fun _ _ => rfl, fun k hk => absurd hk (Nat.not_lt_zero k)⟩))) (fun v S' h => b_H_draws_36 ⟨_, rfl, Or.inr ⟨m, rfl, hm, h5, h.1, h.2⟩⟩)
    · have : m = m' := (nI_eq (by omega) (by omega)).mp e
      subst this
      rw [h2, nI_add] at z3
      exact z3 (nI_le (a := q + m) (b := 2000) h5 (by omega))
end DR
