/-! sending, on both sides -/
/-- t's messages of round r to p, p + 1, .. (c parties) -/
def sndL (t r : Nat) : Nat → Nat → List (Nat × Nat × Nat)
  | 0, _ => []
  | c + 1, p => (if p = t then [] else [(t, p, r)]) ++ sndL t r c (p + 1)
def FLc (L : List (Nat × Nat × Nat)) (S : zS) : Prop := S.1 65 10 = nI L.length ∧ ∀ k m, L[k]? = some m → S.1 71 k = eMs m
def FLm (L : List (Nat × Nat × Nat)) (S : zS) : Prop := S.1 73 139 = nI L.length ∧ ∀ k m, L[k]? = some m → S.1 164 k = nI m.1 ∧ S.1 165 k = nI m.2.1 ∧ S.1 166 k = nI m.2.2
def FSc (S S' : zS) : Prop := (∀ c k, ¬ (c = 65 ∧ k = 10) → ¬ c = 71 → S'.1 c k = S.1 c k) ∧ ∀ c k, S'.2 c k = S.2 c k
def FSm (S S' : zS) : Prop := (∀ c k, ¬ (c = 73 ∧ (k = 131 ∨ k = 139)) → ¬ (164 ≤ c ∧ c ≤ 166) → S'.1 c k = S.1 c k) ∧ ∀ c k, S'.2 c k = S.2 c k
section SND
variable {l : Launch} {Gr : zG} {n w d t r y : Nat} {S S' S'' : zS} {x : Int32} {L : List (Nat × Nat × Nat)} {m : Nat × Nat × Nat} {Q : Option Value → zS → Prop}
theorem sndL_t {c p : Nat} (h : p = t) : sndL t r (c + 1) p = sndL t r c (p + 1) := by
  show (if p = t then [] else [(t, p, r)]) ++ sndL t r c (p + 1) = _
  rw [if_pos h]
  rfl
theorem sndL_n {c p : Nat} (h : ¬ p = t) : sndL t r (c + 1) p = [(t, p, r)] ++ sndL t r c (p + 1) := by
  show (if p = t then [] else [(t, p, r)]) ++ sndL t r c (p + 1) = _
  rw [if_neg h]
theorem ap_at {k : Nat} {m' : Nat × Nat × Nat} (h : (L ++ [m])[k]? = some m') : (k < L.length ∧ L[k]? = some m') ∨ (k = L.length ∧ m' = m) := by
  by_cases z : k < L.length
  · rw [List.getElem?_append_left z] at h
    exact Or.inl ⟨z, h⟩
  · rw [List.getElem?_append_right (by omega)] at h
    by_cases z2 : k = L.length
    · rw [z2, Nat.sub_self] at h
      exact Or.inr ⟨z2, (Option.some.inj h).symm⟩
    · obtain ⟨j, hj⟩ : ∃ j, k - L.length = j + 1 := ⟨k - L.length - 1, by omega⟩
      rw [hj] at h
      exact absurd h (by simp)
theorem FLc_add (h : FLc L S) : FLc (L ++ [m]) (zi (zi S 71 L.length (eMs m)) 65 10 (nI (L.length + 1))) := by
  refine ⟨by rw [zi_v, List.length_append]; rfl, fun k m' hk => ?_⟩
  rw [zi_c (by decide)]
  rcases ap_at hk with ⟨z, hk'⟩ | ⟨rfl, rfl⟩
  · rw [zi_k (by omega)]
    exact h.2 k m' hk'
  · exact zi_v
theorem FLm_add {s : Int32} (h : FLm L S) : FLm (L ++ [m]) (zi (zi (zi (zi (zi S 164 L.length (nI m.1)) 165 L.length (nI m.2.1)) 166 L.length (nI m.2.2)) 73 139 (nI (L.length + 1))) 73 131 s) := by
  refine ⟨by rw [zi_k (by decide), zi_v, List.length_append]; rfl, fun k m' hk => ?_⟩
  rcases ap_at hk with ⟨z, hk'⟩ | ⟨rfl, rfl⟩
  · obtain ⟨h1, h2, h3⟩ := h.2 k m' hk'
    exact ⟨by rw [zi_c (by decide), zi_c (by decide), zi_c (by decide), zi_c (by decide), zi_k (by omega)]; exact h1, by rw [zi_c (by decide), zi_c (by decide), zi_c (by decide), zi_k (by omega), zi_c (by decide)]; exact h2, by rw [zi_c (by decide), zi_c (by decide), zi_k (by omega), zi_c (by decide), zi_c (by decide)]; exact h3⟩
  · exact ⟨by rw [zi_c (by decide), zi_c (by decide), zi_c (by decide), zi_c (by decide), zi_v], by rw [zi_c (by decide), zi_c (by decide), zi_c (by decide), zi_v], by rw [zi_c (by decide), zi_c (by decide), zi_v]⟩
theorem rm_480 (hn : n ≤ 16) : 2 * n * (n - 1) ≤ 480 := by
  have h1 : 2 * n ≤ 32 := by omega
  have h2 : n - 1 ≤ 15 := by omega
  exact Nat.mul_le_mul h1 h2
theorem sd_4 (hn : n ≤ 16) (ht : t < n) (hr : r < 5000) : ∀ c q x L S, q + c = n → FLc L S → S.1 66 t = nI r → L.length + (sndL t r c q).length ≤ 2 * n * (n - 1) → (∀ S', FLc (L ++ sndL t r c q) S' → FSc S S' → Q (some (.int (x + nI (sndL t r c q).length))) S') → zW l Gr (zc n w) 168 M_Post_send d 4 [some (.ref 97), some (.int (nI t)), some (.int x), some (.int (nI q))] [] S Q
  | 0, q, x, L, S, h, hF, h66, hl, kk => by
    have e : q = n := by omega
    have k' := kk S (by show FLc (L ++ []) S; rw [List.append_nil]; exact hF) ⟨fun _ _ _ _ => rfl, fun _ _ => rfl⟩
    rw [show x + nI (sndL t r 0 q).length = x from Int32.add_zero x] at k'
    exact b_Post_send_4 (fun _ => b_Post_send_72 k') (fun y => absurd (nI_le (by omega) (by omega)) y)
  | c + 1, q, x, L, S, h, hF, h66, hl, kk => by
    have hM := rm_480 hn
    have ct : (nI t).toNatClampNeg = t := nI_clamp (by omega)
    refine b_Post_send_4 (fun y => absurd y (nI_ge (by omega) (by omega))) (fun _ => b_Post_send_12 (fun y => ?_) (fun y => b_Post_send_24 (fun z => b_Post_send_66 ?_) (fun z => b_Post_send_29 (vp_in_nI ht (by omega)) ?_ (b_Post_send_66 ?_))))
    · rw [hF.1] at y
      have y' : 2 * n * (n - 1) ≤ L.length := (nI_leI (by omega) (by omega)).mp y
      have e0 : (sndL t r (c + 1) q).length = 0 := by omega
      have e : sndL t r (c + 1) q = [] := List.length_eq_zero_iff.mp e0
      have k' := kk S (by rw [e, List.append_nil]; exact hF) ⟨fun _ _ _ _ => rfl, fun _ _ => rfl⟩
      rw [e0, show x + nI 0 = x from Int32.add_zero x] at k'
      exact b_Post_send_72 k'
    · have z' : q = t := (nI_eq (by omega) (by omega)).mp z
      rw [sndL_t z'] at hl kk
      rw [show nI q + Int32.ofInt 1 = nI (q + 1) from nI_add q 1]
      exact sd_4 hn ht hr c (q + 1) x L S (by omega) hF h66 hl kk
    · rw [hF.1] at y ⊢
      have y' : ¬ 2 * n * (n - 1) ≤ L.length := fun q => y ((nI_leI (by omega) (by omega)).mpr q)
      exact vp_in_nI (by omega) (by omega)
    · have z' : ¬ q = t := fun e => z (by rw [e])
      rw [sndL_n z'] at hl kk
      rw [List.length_append] at hl
      have hl1 : ([(t, q, r)] : List (Nat × Nat × Nat)).length = 1 := rfl
      rw [show nI q + Int32.ofInt 1 = nI (q + 1) from nI_add q 1, ct, h66, hF.1, nI_clamp (by omega), eMs_mk (by omega) (by omega) hr, show nI L.length + 1 = nI (L.length + 1) from nI_add _ 1]
      refine sd_4 hn ht hr c (q + 1) (x + Int32.ofInt 1) (L ++ [(t, q, r)]) _ (by omega) (FLc_add hF) (by rw [zi_c (by decide), zi_c (by decide)]; exact h66) (by rw [List.length_append]; omega) (fun S' a1 a2 => ?_)
      have k' := kk S' (by rw [← List.append_assoc]; exact a1) ⟨fun c' k' q1 q2 => by rw [a2.1 c' k' q1 q2, zi_get, if_neg q1, zi_get, if_neg (by omega)], fun c' k' => a2.2 c' k'⟩
      rw [List.length_append, hl1, ← nI_add, ← Int32.add_assoc] at k'
      exact k'
/-- send() of the class -/
theorem w_send (hn : n ≤ 16) (ht : t < n) (hr : r < 5000) (hF : FLc L S) (h66 : S.1 66 t = nI r) (hl : L.length + (sndL t r n 0).length ≤ 2 * n * (n - 1)) : zMi l Gr (zc n w) 168 M_Post_send d [.ref 97, .int (nI t)] S (fun v S' => v = nI (sndL t r n 0).length ∧ FLc (L ++ sndL t r n 0) S' ∧ FSc S S') :=
  e_Post_send (b_Post_send_0 (sd_4 hn ht hr n 0 0 L S (by omega) hF h66 hl (fun S' a1 a2 => ⟨_, rfl, Int32.zero_add _, a1, a2⟩)))
theorem sm_2 (hn : n ≤ 16) (ht : t < n) : ∀ c q y L S, q + c = n → FLm L S → S.1 157 t = nI r → S.1 73 131 = nI y → L.length + (sndL t r c q).length ≤ 1000 → (∀ S', FLm (L ++ sndL t r c q) S' → S'.1 73 131 = nI (y + (sndL t r c q).length) → FSm S S' → Q none S') → zW l Gr (zc n w) 168 M_Mo_sendRound d 2 [some (.ref 105), some (.int (nI t)), some (.int (nI q))] [] S Q
  | 0, q, y, L, S, h, hF, h157, h131, hl, kk => by
    have e : q = n := by omega
    exact b_Mo_sendRound_2 (fun _ => b_Mo_sendRound_76 (kk S (by show FLm (L ++ []) S; rw [List.append_nil]; exact hF) h131 ⟨fun _ _ _ _ => rfl, fun _ _ => rfl⟩)) (fun y => absurd (nI_le (by omega) (by omega)) y)
  | c + 1, q, y, L, S, h, hF, h157, h131, hl, kk => by
    have ct : (nI t).toNatClampNeg = t := nI_clamp (by omega)
    refine b_Mo_sendRound_2 (fun y => absurd y (nI_ge (by omega) (by omega))) (fun _ => b_Mo_sendRound_10 (fun z => b_Mo_sendRound_70 ?_) (fun z => ?_))
    · have z' : q = t := (nI_eq (by omega) (by omega)).mp z
      rw [sndL_t z'] at hl kk
      rw [show nI q + Int32.ofInt 1 = nI (q + 1) from nI_add q 1]
      exact sm_2 hn ht c (q + 1) y L S (by omega) hF h157 h131 hl kk
    · have z' : ¬ q = t := fun e => z (by rw [e])
      rw [sndL_n z'] at hl kk
      rw [List.length_append] at hl
      have hl1 : ([(t, q, r)] : List (Nat × Nat × Nat)).length = 1 := rfl
      refine b_Mo_sendRound_15 (by rw [hF.1]; exact vp_in_nI (by omega) (by omega)) (vp_in_nI (by omega) (by omega)) (b_Mo_sendRound_70 ?_)
      rw [show nI q + Int32.ofInt 1 = nI (q + 1) from nI_add q 1, ct, h157, hF.1, h131, nI_clamp (by omega), show nI L.length + 1 = nI (L.length + 1) from nI_add _ 1, show nI y + 1 = nI (y + 1) from nI_add _ 1]
      refine sm_2 hn ht c (q + 1) (y + 1) (L ++ [(t, q, r)]) _ (by omega) (FLm_add (m := (t, q, r)) hF) (by rw [zi_c (by decide), zi_c (by decide), zi_c (by decide), zi_c (by decide), zi_c (by decide)]; exact h157) zi_v (by rw [List.length_append]; omega) (fun S' a1 a2 a3 => ?_)
      refine kk S' (by rw [← List.append_assoc]; exact a1) (by rw [List.length_append, hl1, a2]; congr 1; omega) ⟨fun c' k' q1 q2 => ?_, fun c' k' => a3.2 c' k'⟩
      rw [a3.1 c' k' q1 q2, zi_get, if_neg (by omega), zi_get, if_neg (by omega), zi_get, if_neg (by omega), zi_get, if_neg (by omega), zi_get, if_neg (by omega)]
theorem wm_send (hn : n ≤ 16) (ht : t < n) (hF : FLm L S) (h157 : S.1 157 t = nI r) (h131 : S.1 73 131 = nI y) (hl : L.length + (sndL t r n 0).length ≤ 1000) : zMv l Gr (zc n w) 168 M_Mo_sendRound d [.ref 105, .int (nI t)] S (fun S' => FLm (L ++ sndL t r n 0) S' ∧ S'.1 73 131 = nI (y + (sndL t r n 0).length) ∧ FSm S S') :=
  e_Mo_sendRound (b_Mo_sendRound_0 (sm_2 hn ht n 0 y L S (by omega) hF h157 h131 hl (fun S' a1 a2 a3 => ⟨rfl, a1, a2, a3⟩)))
theorem sndL_mem {m : Nat × Nat × Nat} : ∀ {c p : Nat}, m ∈ sndL t r c p → m.1 = t ∧ m.2.2 = r ∧ p ≤ m.2.1 ∧ m.2.1 < p + c ∧ ¬ m.2.1 = t
  | 0, p, h => absurd h List.not_mem_nil
  | c + 1, p, h => by
    by_cases z : p = t
    · rw [sndL_t z] at h
      obtain ⟨h1, h2, h3, h4, h5⟩ := sndL_mem h
      exact ⟨h1, h2, by omega, by omega, h5⟩
    · rw [sndL_n z] at h
      rcases List.mem_append.mp h with h | h
      · rw [List.mem_singleton.mp h]
        exact ⟨rfl, rfl, Nat.le_refl _, by show p < p + (c + 1); omega, z⟩
      · obtain ⟨h1, h2, h3, h4, h5⟩ := sndL_mem h
        exact ⟨h1, h2, by omega, by omega, h5⟩
theorem sndL_nd : ∀ c p, (sndL t r c p).Nodup
  | 0, p => List.nodup_nil
  | c + 1, p => by
    by_cases z : p = t
    · rw [sndL_t z]
      exact sndL_nd c (p + 1)
    · rw [sndL_n z]
      refine List.nodup_cons.mpr ⟨fun h => ?_, sndL_nd c (p + 1)⟩
      have := (sndL_mem h).2.2.1
      have e : p + 1 ≤ p := this
      omega
theorem sndL_len : ∀ c p, (sndL t r c p).length = c - (if p ≤ t ∧ t < p + c then 1 else 0)
  | 0, p => by
    rw [if_neg (by omega)]
    rfl
  | c + 1, p => by
    by_cases z : p = t
    · rw [sndL_t z, sndL_len c (p + 1), if_neg (by omega), if_pos (by omega)]
      omega
    · rw [sndL_n z, List.length_append, sndL_len c (p + 1)]
      show 1 + _ = _
      by_cases z2 : p ≤ t ∧ t < p + (c + 1)
      · rw [if_pos z2, if_pos (by omega)]
        omega
      · rw [if_neg z2, if_neg (by omega)]
        omega
theorem sndL_all (ht : t < n) : (sndL t r n 0).length = n - 1 := by
  rw [sndL_len, if_pos (by omega)]
end SND
