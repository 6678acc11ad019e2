/-! taking a message and going on, on both sides -/
def PAc (n : Nat) (s : List (Nat × Nat × Nat) × (Nat → Nat × Nat × Nat)) (S : zS) : Prop := FLc s.1 S ∧ ∀ p, p < n → S.1 66 p = nI (s.2 p).1 ∧ S.1 69 p = nI (s.2 p).2.1 ∧ S.1 70 p = nI (s.2 p).2.2
def PAm (n : Nat) (s : List (Nat × Nat × Nat) × (Nat → Nat × Nat × Nat)) (S : zS) : Prop := FLm s.1 S ∧ ∀ p, p < n → S.1 157 p = nI (s.2 p).1 ∧ S.1 158 p = nI (s.2 p).2.1 ∧ S.1 159 p = nI (s.2 p).2.2
/-- parties that are done -/
def dnF (Dm : Nat) (s : List (Nat × Nat × Nat) × (Nat → Nat × Nat × Nat)) : Nat → Nat
  | 0 => 0
  | p + 1 => dnF Dm s p + (if (s.2 p).1 = Dm + 2 then 1 else 0)
def FGc (S S' : zS) : Prop := (∀ c k, ¬ (c = 65 ∧ (k = 10 ∨ k = 12)) → ¬ (c = 66 ∨ c = 69 ∨ c = 70 ∨ c = 71) → S'.1 c k = S.1 c k) ∧ ∀ c k, S'.2 c k = S.2 c k
def FGm (S S' : zS) : Prop := (∀ c k, ¬ (c = 73 ∧ (k = 131 ∨ k = 139)) → ¬ (157 ≤ c ∧ c ≤ 159) → ¬ (164 ≤ c ∧ c ≤ 166) → S'.1 c k = S.1 c k) ∧ ∀ c k, S'.2 c k = S.2 c k
section GON
variable {l : Launch} {Gr : zG} {n w d t f r k Dm a : Nat} {S S' S'' : zS} {x : Int32} {s s' : List (Nat × Nat × Nat) × (Nat → Nat × Nat × Nat)} {Q : Option Value → zS → Prop}
theorem er_mem {L : List (Nat × Nat × Nat)} {m : Nat × Nat × Nat} (h : m ∈ L.eraseIdx k) : m ∈ L := (List.eraseIdx_sublist L k).subset h
theorem er_no {L : List (Nat × Nat × Nat)} {m : Nat × Nat × Nat} (hd : L.Nodup) (h : L[k]? = some m) : ¬ m ∈ L.eraseIdx k := fun y => by
  obtain ⟨j, hj⟩ := List.getElem?_of_mem y
  rw [List.getElem?_eraseIdx] at hj
  have hk : k < L.length := (List.getElem?_eq_some_iff.mp h).1
  split at hj
  · next z =>
    have := (List.getElem?_inj hk hd).mp (show L[k]? = L[j]? by rw [h, hj])
    omega
  · next z =>
    have := (List.getElem?_inj hk hd).mp (show L[k]? = L[j + 1]? by rw [h, hj])
    omega
theorem PIv_msg (h : PIv n Dm s) (hk : s.1[k]? = some (f, t, r)) : f < n ∧ t < n ∧ ¬ f = t ∧ r ≤ Dm + 1 ∧ (s.2 t).1 ≤ Dm + 1 ∧ (r = (s.2 t).1 ∨ r = (s.2 t).1 + 1) := by
  obtain ⟨D, E, h1, h2, h3, -⟩ := h
  obtain ⟨a1, a2, a3, a4, a5, a6⟩ := h3 _ (List.mem_of_getElem? hk)
  have a7 := h2 f t a1 a2
  have b4 : r ≤ (s.2 f).1 := a4
  have b5 : r ≤ Dm + 1 := a5
  have b6 : (s.2 t).1 ≤ r := a6
  exact ⟨a1, a2, a3, b5, by omega, by omega⟩
theorem PIv_take (h : PIv n Dm s) (hk : s.1[k]? = some (f, t, r)) : PIv n Dm (pTake k f t r s) := by
  obtain ⟨m1, m2, m3, m4, m5, m6⟩ := PIv_msg h hk
  obtain ⟨D, E, h1, h2, h3, h4, h5, h6, h7⟩ := h
  have hm := List.mem_of_getElem? hk
  have at_n : ∀ q, ¬ q = t → (pTake k f t r s).2 q = s.2 q := fun q hq => if_neg hq
  have at_t : (pTake k f t r s).2 t = (if r = (s.2 t).1 then ((s.2 t).1, (s.2 t).2.1 + 1, (s.2 t).2.2) else ((s.2 t).1, (s.2 t).2.1, (s.2 t).2.2 + 1)) := if_pos rfl
  have at_a : ∀ q, ((pTake k f t r s).2 q).1 = (s.2 q).1 := fun q => by
    by_cases z : q = t
    · rw [z, at_t]
      split <;> rfl
    · rw [at_n q z]
  obtain ⟨c1, c2, c3, c4⟩ := h5 t m2
  have base : ∀ D' E' : Nat → Nat → Bool, (∀ p, p < n → ((pTake k f t r s).2 p).2.1 = cnt (D' p) n ∧ ((pTake k f t r s).2 p).2.2 = cnt (E' p) n ∧ D' p p = false ∧ E' p p = false) → (∀ p g, D' p g = true → D p g = true ∨ (p = t ∧ g = f ∧ r = (s.2 t).1)) → (∀ p g, E' p g = true → E p g = true ∨ (p = t ∧ g = f ∧ r = (s.2 t).1 + 1)) → PIv n Dm (pTake k f t r s) := fun D' E' b5 bD bE => by
    refine ⟨D', E', fun p hp => ?_, fun p q hp hq => ?_, fun m hm' => ?_, h4.eraseIdx k, b5, fun p g hp hq hd => ?_, fun p g hp hq he => ?_⟩
    · rw [at_a]
      exact h1 p hp
    · rw [at_a, at_a]
      exact h2 p q hp hq
    · rw [at_a, at_a]
      exact h3 m (er_mem hm')
    · rw [at_a, at_a]
      rcases bD p g hd with y | ⟨rfl, rfl, y⟩
      · exact ⟨(h6 p g hp hq y).1, fun q => (h6 p g hp hq y).2 (er_mem q)⟩
      · have b4 : r ≤ (s.2 g).1 := (h3 _ hm).2.2.2.1
        exact ⟨by omega, fun q => er_no h4 hk (by rw [y]; exact q)⟩
    · rw [at_a, at_a]
      rcases bE p g he with y | ⟨rfl, rfl, y⟩
      · exact ⟨(h7 p g hp hq y).1, (h7 p g hp hq y).2.1, fun q => (h7 p g hp hq y).2.2 (er_mem q)⟩
      · have b4 : r ≤ (s.2 g).1 := (h3 _ hm).2.2.2.1
        exact ⟨by omega, by omega, fun q => er_no h4 hk (by rw [y]; exact q)⟩
  by_cases z : r = (s.2 t).1
  · have df : D t f = false := by
      cases e : D t f with
      | false => rfl
      | true => exact absurd (by rw [← z]; exact hm) (h6 t f m2 m1 e).2
    refine base (fun p => if p = t then (fun q => if q = f then true else D t q) else D p) E (fun p hp => ?_) (fun p g hd => ?_) (fun p g he => Or.inl he)
    · by_cases zp : p = t
      · rw [zp, at_t, if_pos z]
        show (s.2 t).2.1 + 1 = cnt (if t = t then (fun q => if q = f then true else D t q) else D t) n ∧ (s.2 t).2.2 = cnt (E t) n ∧ (if t = t then (fun q => if q = f then true else D t q) else D t) t = false ∧ E t t = false
        rw [if_pos rfl]
        refine ⟨?_, c2, ?_, c4⟩
        · rw [cnt_set df n m1, c1]
        · show (if t = f then true else D t t) = false
          rw [if_neg (fun e => m3 e.symm)]
          exact c3
      · obtain ⟨d1, d2, d3, d4⟩ := h5 p hp
        rw [at_n p zp]
        show (s.2 p).2.1 = cnt (if p = t then (fun q => if q = f then true else D t q) else D p) n ∧ (s.2 p).2.2 = cnt (E p) n ∧ (if p = t then (fun q => if q = f then true else D t q) else D p) p = false ∧ E p p = false
        rw [if_neg zp]
        exact ⟨d1, d2, d3, d4⟩
    · have hd' : (if p = t then (fun q => if q = f then true else D t q) else D p) g = true := hd
      by_cases zp : p = t
      · rw [if_pos zp] at hd'
        by_cases zg : g = f
        · exact Or.inr ⟨zp, zg, z⟩
        · have hd2 : (if g = f then true else D t g) = true := hd'
          rw [if_neg zg] at hd2
          rw [zp]
          exact Or.inl hd2
      · rw [if_neg zp] at hd'
        exact Or.inl hd'
  · have z1 : r = (s.2 t).1 + 1 := by omega
    have df : E t f = false := by
      cases e : E t f with
      | false => rfl
      | true => exact absurd (by rw [← z1]; exact hm) (h7 t f m2 m1 e).2.2
    refine base D (fun p => if p = t then (fun q => if q = f then true else E t q) else E p) (fun p hp => ?_) (fun p g hd => Or.inl hd) (fun p g he => ?_)
    · by_cases zp : p = t
      · rw [zp, at_t, if_neg z]
        show (s.2 t).2.1 = cnt (D t) n ∧ (s.2 t).2.2 + 1 = cnt (if t = t then (fun q => if q = f then true else E t q) else E t) n ∧ D t t = false ∧ (if t = t then (fun q => if q = f then true else E t q) else E t) t = false
        rw [if_pos rfl]
        refine ⟨c1, ?_, c3, ?_⟩
        · rw [cnt_set df n m1, c2]
        · show (if t = f then true else E t t) = false
          rw [if_neg (fun e => m3 e.symm)]
          exact c4
      · obtain ⟨d1, d2, d3, d4⟩ := h5 p hp
        rw [at_n p zp]
        show (s.2 p).2.1 = cnt (D p) n ∧ (s.2 p).2.2 = cnt (if p = t then (fun q => if q = f then true else E t q) else E p) n ∧ D p p = false ∧ (if p = t then (fun q => if q = f then true else E t q) else E p) p = false
        rw [if_neg zp]
        exact ⟨d1, d2, d3, d4⟩
    · have hd' : (if p = t then (fun q => if q = f then true else E t q) else E p) g = true := he
      by_cases zp : p = t
      · rw [if_pos zp] at hd'
        by_cases zg : g = f
        · exact Or.inr ⟨zp, zg, z1⟩
        · have hd2 : (if g = f then true else E t g) = true := hd'
          rw [if_neg zg] at hd2
          rw [zp]
          exact Or.inl hd2
      · rw [if_neg zp] at hd'
        exact Or.inl hd'
/-- before t takes a message, less than (n - 1) (Dm + 2) have come -/
theorem PIv_arr (h : PIv n Dm s) (hk : s.1[k]? = some (f, t, r)) : (n - 1) * (s.2 t).1 + (s.2 t).2.1 + (s.2 t).2.2 < (n - 1) * (Dm + 2) := by
  obtain ⟨m1, m2, m3, m4, m5, m6⟩ := PIv_msg h hk
  obtain ⟨D, E, h1, h2, h3, h4, h5, h6, h7⟩ := h
  have hm := List.mem_of_getElem? hk
  obtain ⟨c1, c2, c3, c4⟩ := h5 t m2
  have l1 := cnt_1 c3 n m2
  have l2 := cnt_1 c4 n m2
  rw [← c1] at l1
  rw [← c2] at l2
  have e2 : (n - 1) * ((s.2 t).1 + 2) = (n - 1) * (s.2 t).1 + (n - 1) * 2 := Nat.mul_add _ _ _
  have e1 : (n - 1) * ((s.2 t).1 + 1) = (n - 1) * (s.2 t).1 + (n - 1) * 1 := Nat.mul_add _ _ _
  by_cases z : r = (s.2 t).1
  · have df : D t f = false := by
      cases e : D t f with
      | false => rfl
      | true => exact absurd (by rw [← z]; exact hm) (h6 t f m2 m1 e).2
    have l3 := cnt_2 c3 df (fun e => m3 e.symm) n m2 m1
    rw [← c1] at l3
    by_cases y : (s.2 t).1 + 1 ≤ Dm + 1
    · have le : (n - 1) * ((s.2 t).1 + 2) ≤ (n - 1) * (Dm + 2) := Nat.mul_le_mul_left _ (by omega)
      omega
    · have ez : (s.2 t).2.2 = 0 := by
        rw [c2]
        refine (cnt_cg (b' := fun _ => false) n (fun g hg => ?_)).trans (cnt_0 n)
        cases e : E t g with
        | false => rfl
        | true => exact absurd (h7 t g m2 hg e).2.1 y
      have le : (n - 1) * ((s.2 t).1 + 1) ≤ (n - 1) * (Dm + 2) := Nat.mul_le_mul_left _ (by omega)
      omega
  · have z1 : r = (s.2 t).1 + 1 := by omega
    have df : E t f = false := by
      cases e : E t f with
      | false => rfl
      | true => exact absurd (by rw [← z1]; exact hm) (h7 t f m2 m1 e).2.2
    have l3 := cnt_2 c4 df (fun e => m3 e.symm) n m2 m1
    rw [← c2] at l3
    have le : (n - 1) * ((s.2 t).1 + 2) ≤ (n - 1) * (Dm + 2) := Nat.mul_le_mul_left _ (by omega)
    omega
theorem dnF_cg : ∀ m, (∀ q, q < m → (s'.2 q).1 = (s.2 q).1) → dnF Dm s' m = dnF Dm s m
  | 0, _ => rfl
  | m + 1, h => by
    show dnF Dm s' m + (if (s'.2 m).1 = Dm + 2 then 1 else 0) = dnF Dm s m + (if (s.2 m).1 = Dm + 2 then 1 else 0)
    rw [dnF_cg m (fun q hq => h q (by omega)), h m (by omega)]
theorem dnF_st (ha : ¬ (s.2 t).1 = Dm + 2) (hq : ∀ q, ¬ q = t → (s'.2 q).1 = (s.2 q).1) : ∀ m, t < m → dnF Dm s' m = dnF Dm s m + (if (s'.2 t).1 = Dm + 2 then 1 else 0)
  | 0, h => absurd h (Nat.not_lt_zero _)
  | m + 1, h => by
    show dnF Dm s' m + (if (s'.2 m).1 = Dm + 2 then 1 else 0) = dnF Dm s m + (if (s.2 m).1 = Dm + 2 then 1 else 0) + _
    by_cases z : t = m
    · rw [← z, dnF_cg t (fun q hq' => hq q (by omega)), if_neg ha]
      rfl
    · rw [dnF_st ha hq m (by omega), hq m (fun e => z e.symm)]
      omega
theorem w_isDone (hn : n ≤ 16) (ht : t < n) (hD : Dm ≤ 2000) (h6 : S.1 24 6 = nI Dm) (h66 : S.1 66 t = nI a) (ha : a ≤ 5000) : zMi l Gr (zc n w) 168 M_Post_isDone d [.ref 97, .int (nI t)] S (fun v S' => v = (if a ≤ Dm + 1 then 0 else 1) ∧ S' = S) := by
  have ct : (nI t).toNatClampNeg = t := nI_clamp (by omega)
  have e : (S.1 66 t ≤ S.1 24 6 + 1) ↔ a ≤ Dm + 1 := by
    rw [h66, h6, show nI Dm + 1 = nI (Dm + 1) from nI_add _ 1]
    exact nI_leI (by omega) (by omega)
  refine e_Post_isDone (b_Post_isDone_0 (vp_in_nI ht (by omega)) (fun y => b_Post_isDone_22 (b_Post_isDone_23 ⟨_, rfl, Or.inl rfl, ?_, rfl⟩)) (fun y => b_Post_isDone_18 (b_Post_isDone_23 ⟨_, rfl, Or.inr rfl, ?_, rfl⟩)))
  · rw [ct] at y
    rw [if_pos (e.mp y)]
  · rw [ct] at y
    rw [if_neg (fun q => y (e.mpr q))]
theorem goF_no {fu : Nat} (h : ¬ ((s.2 t).2.1 = n - 1 ∧ (s.2 t).1 ≤ Dm + 1)) : goF n Dm t fu s = (s, 0) := by
  cases fu with
  | zero => rfl
  | succ fu => exact if_neg h
theorem goF_go {fu : Nat} (h : (s.2 t).2.1 = n - 1 ∧ (s.2 t).1 ≤ Dm + 1) : goF n Dm t (fu + 1) s = ((goF n Dm t fu (pStep n Dm t s)).1, (if (s.2 t).1 + 1 ≤ Dm + 1 then (sndL t ((s.2 t).1 + 1) n 0).length else 0) + (goF n Dm t fu (pStep n Dm t s)).2) := if_pos h
theorem PIv_le (h : PIv n Dm s) (ht : t < n) : (s.2 t).1 ≤ Dm + 2 ∧ (s.2 t).2.1 ≤ n ∧ (s.2 t).2.2 ≤ n := by
  obtain ⟨D, E, h1, -, -, -, h5, -⟩ := h
  obtain ⟨c1, c2, -⟩ := h5 t ht
  exact ⟨h1 t ht, by rw [c1]; exact cnt_le n, by rw [c2]; exact cnt_le n⟩
theorem go_4 (hg : ip_gk (lg_tbl, vwCl, Gr)) (hn : 2 ≤ n ∧ n ≤ 16) (ht : t < n) (hD : Dm ≤ 2000) : ∀ fu nn x s S, (s.2 t).1 + fu = Dm + 2 → nn + fu ≤ 2002 → PIv n Dm s → PAc n s S → S.1 65 12 = nI (dnF Dm s n) → S.1 24 6 = nI Dm → (∀ S', PAc n (goF n Dm t fu s).1 S' → S'.1 65 12 = nI (dnF Dm (goF n Dm t fu s).1 n) → FGc S S' → Q (some (.int (x + nI (goF n Dm t fu s).2))) S') → zW l Gr (zc n w) 168 M_Post_goOn (d + 1) 4 [some (.ref 97), some (.int (nI t)), some (.int x), some (.int (nI nn))] [] S Q
  | 0, nn, x, s, S, hfu, hnn, hP, hA, h12, h6, kk => by
    have ct : (nI t).toNatClampNeg = t := nI_clamp (by omega)
    have vt : vp_in (nI t) n := vp_in_nI ht (by omega)
    obtain ⟨p1, p2, p3⟩ := hA.2 t ht
    have fin : zW l Gr (zc n w) 168 M_Post_goOn (d + 1) 98 [none, none, some (.int x), none] [] S Q := b_Post_goOn_98 (by
      have k' := kk S hA h12 ⟨fun _ _ _ _ => rfl, fun _ _ => rfl⟩
      rw [show x + nI (goF n Dm t 0 s).2 = x from Int32.add_zero x] at k'
      exact k')
    refine b_Post_goOn_4 (fun y => absurd y (fun q => by have := (nI_ltI (a := 2002) (b := nn) (by omega) (by omega)).mp q; omega)) (fun _ => b_Post_goOn_11 vt (fun _ => fin) (fun _ => b_Post_goOn_26 hg (w_isDone hn.2 ht hD h6 p1 (by omega)) (fun v S1 e => ?_)))
    obtain ⟨rfl, rfl⟩ := e
    rw [if_neg (by omega)]
    exact b_Post_goOn_31 (fun _ => fin) (fun y => absurd y (by decide))
  | fu + 1, nn, x, s, S, hfu, hnn, hP, hA, h12, h6, kk => by
    have ct : (nI t).toNatClampNeg = t := nI_clamp (by omega)
    have vt : vp_in (nI t) n := vp_in_nI ht (by omega)
    obtain ⟨p1, p2, p3⟩ := hA.2 t ht
    obtain ⟨b1, b2, b3⟩ := PIv_le hP ht
    have en : nI n - 1 = nI (n - 1) := sub_nn (b := 1) (by omega)
    by_cases hc : (s.2 t).2.1 = n - 1 ∧ (s.2 t).1 ≤ Dm + 1
    · have hP' := PIv_step ht hP hc.1 hc.2
      have hR := PIv_room hP'
      have e1 : ((pStep n Dm t s).2 t) = ((s.2 t).1 + 1, (s.2 t).2.2, 0) := if_pos rfl
      have eq : ∀ q, ¬ q = t → (pStep n Dm t s).2 q = s.2 q := fun q hq => if_neg hq
      have hdn := dnF_st (s := s) (s' := pStep n Dm t s) (Dm := Dm) (t := t) (by omega) (fun q hq => by rw [eq q hq]) n ht
      rw [e1] at hdn
      rw [goF_go hc] at kk
      refine b_Post_goOn_4 (fun y => absurd y (fun q => by have := (nI_ltI (a := 2002) (b := nn) (by omega) (by omega)).mp q; omega)) (fun _ => b_Post_goOn_11 vt (fun y => absurd (by rw [ct, p2, en, hc.1]) y) (fun _ => b_Post_goOn_26 hg (w_isDone hn.2 ht hD h6 p1 (by omega)) (fun v S1 e => ?_)))
      obtain ⟨rfl, rfl⟩ := e
      rw [if_pos hc.2]
      refine b_Post_goOn_31 (fun y => absurd rfl y) (fun _ => b_Post_goOn_34 hg vt (w_isDone (a := (s.2 t).1 + 1) hn.2 ht hD (by rw [zi_c (by decide), zi_c (by decide), zi_c (by decide)]; exact h6) (by rw [ct, zi_c (by decide), zi_c (by decide), zi_v, p1]; exact nI_add _ 1) (by omega)) (fun v S2 e => ?_))
      obtain ⟨rfl, rfl⟩ := e
      rw [ct, p1, p3, show nI (s.2 t).1 + 1 = nI ((s.2 t).1 + 1) from nI_add _ 1]
      have hF0 : FLc s.1 (zi (zi (zi S1 66 t (nI ((s.2 t).1 + 1))) 69 t (nI (s.2 t).2.2)) 70 t 0) := ⟨by rw [zi_c (by decide), zi_c (by decide), zi_c (by decide)]; exact hA.1.1, fun k m hk => by rw [zi_c (by decide), zi_c (by decide), zi_c (by decide)]; exact hA.1.2 k m hk⟩
      have hA0 : ∀ p, p < n → (zi (zi (zi S1 66 t (nI ((s.2 t).1 + 1))) 69 t (nI (s.2 t).2.2)) 70 t 0).1 66 p = nI ((pStep n Dm t s).2 p).1 ∧ (zi (zi (zi S1 66 t (nI ((s.2 t).1 + 1))) 69 t (nI (s.2 t).2.2)) 70 t 0).1 69 p = nI ((pStep n Dm t s).2 p).2.1 ∧ (zi (zi (zi S1 66 t (nI ((s.2 t).1 + 1))) 69 t (nI (s.2 t).2.2)) 70 t 0).1 70 p = nI ((pStep n Dm t s).2 p).2.2 := fun p hp => by
        by_cases z : p = t
        · rw [z, e1]
          exact ⟨by rw [zi_c (by decide), zi_c (by decide), zi_v], by rw [zi_c (by decide), zi_v], zi_v⟩
        · rw [eq p z]
          exact ⟨by rw [zi_c (by decide), zi_c (by decide), zi_k z]; exact (hA.2 p hp).1, by rw [zi_c (by decide), zi_k z, zi_c (by decide)]; exact (hA.2 p hp).2.1, by rw [zi_k z, zi_c (by decide), zi_c (by decide)]; exact (hA.2 p hp).2.2⟩
      by_cases zs : (s.2 t).1 + 1 ≤ Dm + 1
      · have eL : (pStep n Dm t s).1 = s.1 ++ sndL t ((s.2 t).1 + 1) n 0 := if_pos zs
        rw [eL, List.length_append] at hR
        rw [if_pos zs] at kk ⊢
        refine b_Post_goOn_68 (fun _ => b_Post_goOn_84 hg (w_send (r := (s.2 t).1 + 1) hn.2 ht (by omega) hF0 (by rw [zi_c (by decide), zi_c (by decide), zi_v]) hR) (fun v S3 e => ?_)) (fun y => absurd rfl y)
        obtain ⟨rfl, f3, fr⟩ := e
        refine b_Post_goOn_90 (b_Post_goOn_92 ?_)
        rw [show nI nn + Int32.ofInt 1 = nI (nn + 1) from nI_add nn 1]
        refine go_4 hg hn ht hD fu (nn + 1) _ (pStep n Dm t s) S3 (by rw [e1]; show (s.2 t).1 + 1 + fu = Dm + 2; omega) (by omega) hP' ⟨by rw [eL]; exact f3, fun p hp => ?_⟩ ?_ ?_ (fun S' a1 a2 a3 => ?_)
        · rw [fr.1 66 p (by omega) (by omega), fr.1 69 p (by omega) (by omega), fr.1 70 p (by omega) (by omega)]
          exact hA0 p hp
        · rw [fr.1 65 12 (by omega) (by omega), zi_c (by decide), zi_c (by decide), zi_c (by decide), h12, hdn, if_neg (by show ¬ (s.2 t).1 + 1 = Dm + 2; omega)]
          rfl
        · rw [fr.1 24 6 (by omega) (by omega), zi_c (by decide), zi_c (by decide), zi_c (by decide)]
          exact h6
        · have k' := kk S' a1 a2 ⟨fun c i q1 q2 => by rw [a3.1 c i q1 q2, fr.1 c i (by omega) (by omega), zi_get, if_neg (by omega), zi_get, if_neg (by omega), zi_get, if_neg (by omega)], fun c i => (a3.2 c i).trans (fr.2 c i)⟩
          rw [← nI_add, ← Int32.add_assoc] at k'
          exact k'
      · have eL : (pStep n Dm t s).1 = s.1 := if_neg zs
        rw [if_neg zs] at kk ⊢
        refine b_Post_goOn_68 (fun y => absurd y (by decide)) (fun _ => b_Post_goOn_71 (b_Post_goOn_92 ?_))
        rw [show nI nn + Int32.ofInt 1 = nI (nn + 1) from nI_add nn 1]
        refine go_4 hg hn ht hD fu (nn + 1) _ (pStep n Dm t s) _ (by rw [e1]; show (s.2 t).1 + 1 + fu = Dm + 2; omega) (by omega) hP' ⟨by rw [eL]; exact ⟨by rw [zi_k (by decide)]; exact hF0.1, fun k m hk => by rw [zi_c (by decide)]; exact hF0.2 k m hk⟩, fun p hp => ?_⟩ ?_ ?_ (fun S' a1 a2 a3 => ?_)
        · rw [zi_c (by decide), zi_c (by decide), zi_c (c := 65) (c' := 70) (by decide)]
          exact hA0 p hp
        · rw [zi_v, zi_c (by decide), zi_c (by decide), zi_c (by decide), h12, hdn, if_pos (by show (s.2 t).1 + 1 = Dm + 2; omega)]
          exact nI_add _ 1
        · rw [zi_c (by decide), zi_c (by decide), zi_c (by decide), zi_c (by decide)]
          exact h6
        · have k' := kk S' a1 a2 ⟨fun c i q1 q2 => by rw [a3.1 c i q1 q2, zi_get, if_neg (by omega), zi_get, if_neg (by omega), zi_get, if_neg (by omega), zi_get, if_neg (by omega)], fun c i => a3.2 c i⟩
          rw [Nat.zero_add] at k'
          exact k'
    · have e := goF_no (fu := fu + 1) hc
      rw [e] at kk
      have fin : zW l Gr (zc n w) 168 M_Post_goOn (d + 1) 98 [none, none, some (.int x), none] [] S Q := b_Post_goOn_98 (by
        have k' := kk S hA h12 ⟨fun _ _ _ _ => rfl, fun _ _ => rfl⟩
        rw [show x + nI 0 = x from Int32.add_zero x] at k'
        exact k')
      refine b_Post_goOn_4 (fun y => absurd y (fun q => by have := (nI_ltI (a := 2002) (b := nn) (by omega) (by omega)).mp q; omega)) (fun _ => b_Post_goOn_11 vt (fun _ => fin) (fun y => absurd ?_ hc))
      rw [ct, p2, en] at y
      exact ⟨(nI_eq (by omega) (by omega)).mp y, by omega⟩
/-- goOn() of the class -/
theorem w_goOn (hg : ip_gk (lg_tbl, vwCl, Gr)) (hn : 2 ≤ n ∧ n ≤ 16) (ht : t < n) (hD : Dm ≤ 2000) (hP : PIv n Dm s) (hA : PAc n s S) (h12 : S.1 65 12 = nI (dnF Dm s n)) (h6 : S.1 24 6 = nI Dm) : zMi l Gr (zc n w) 168 M_Post_goOn (d + 1) [.ref 97, .int (nI t)] S (fun v S' => v = nI (goF n Dm t (Dm + 2 - (s.2 t).1) s).2 ∧ PAc n (goF n Dm t (Dm + 2 - (s.2 t).1) s).1 S' ∧ S'.1 65 12 = nI (dnF Dm (goF n Dm t (Dm + 2 - (s.2 t).1) s).1 n) ∧ FGc S S') :=
  e_Post_goOn (b_Post_goOn_0 (go_4 hg hn ht hD (Dm + 2 - (s.2 t).1) 0 0 s S (by have := (PIv_le hP ht).1; omega) (by omega) hP hA h12 h6 (fun S' a1 a2 a3 => ⟨_, rfl, Int32.zero_add _, a1, a2, a3⟩)))
theorem tm_226 (hg : ip_gk (lg_tbl, vwCl, Gr)) (hn : 2 ≤ n ∧ n ≤ 16) (ht : t < n) (hD : Dm ≤ 2000) : ∀ fu y s S, (s.2 t).1 + fu = Dm + 2 → PIv n Dm s → PAm n s S → S.1 73 131 = nI y → S.1 73 68 = nI Dm → (∀ S', PAm n (goF n Dm t fu s).1 S' → FGm S S' → Q (some (.int (nI (y + (goF n Dm t fu s).2)))) S') → zW l Gr (zc n w) 168 M_Mo_takeMessage (d + 1) 226 [some (.ref 105), none, none, some (.int (nI t)), none, none] [] S Q
  | 0, y, s, S, hfu, hP, hA, h131, h68, kk => by
    have ct : (nI t).toNatClampNeg = t := nI_clamp (by omega)
    have vt : vp_in (nI t) 16 := vp_in_nI (by omega) (by omega)
    obtain ⟨p1, p2, p3⟩ := hA.2 t ht
    refine b_Mo_takeMessage_226 vt (fun _ => b_Mo_takeMessage_308 ?_) (fun y => absurd ?_ y)
    · rw [h131]
      exact kk S hA ⟨fun _ _ _ _ _ => rfl, fun _ _ => rfl⟩
    · rw [ct, p1, h68, show nI Dm + 1 = nI (Dm + 1) from nI_add _ 1]
      exact (nI_ltI (by omega) (by omega)).mpr (by omega)
  | fu + 1, y, s, S, hfu, hP, hA, h131, h68, kk => by
    have ct : (nI t).toNatClampNeg = t := nI_clamp (by omega)
    have vt : vp_in (nI t) 16 := vp_in_nI (by omega) (by omega)
    obtain ⟨p1, p2, p3⟩ := hA.2 t ht
    obtain ⟨b1, b2, b3⟩ := PIv_le hP ht
    have en : nI n - 1 = nI (n - 1) := sub_nn (b := 1) (by omega)
    have e68 : S.1 73 68 + 1 = nI (Dm + 1) := by
      rw [h68]
      exact nI_add _ 1
    have n226 : ¬ (S.1 73 68 + 1) < S.1 157 t := by
      rw [e68, p1]
      exact fun q => by have := (nI_ltI (by omega) (by omega)).mp q; omega
    by_cases hc : (s.2 t).2.1 = n - 1 ∧ (s.2 t).1 ≤ Dm + 1
    · have hP' := PIv_step ht hP hc.1 hc.2
      have hR := Nat.le_trans (PIv_room hP') (rm_480 hn.2)
      have e1 : ((pStep n Dm t s).2 t) = ((s.2 t).1 + 1, (s.2 t).2.2, 0) := if_pos rfl
      have eq : ∀ q, ¬ q = t → (pStep n Dm t s).2 q = s.2 q := fun q hq => if_neg hq
      rw [goF_go hc] at kk
      have hF0 : FLm s.1 (zi (zi (zi S 157 t (nI ((s.2 t).1 + 1))) 158 t (nI (s.2 t).2.2)) 159 t 0) := ⟨by rw [zi_c (by decide), zi_c (by decide), zi_c (by decide)]; exact hA.1.1, fun k m hk => by rw [zi_c (by decide), zi_c (by decide), zi_c (by decide), zi_c (by decide), zi_c (by decide), zi_c (by decide), zi_c (by decide), zi_c (by decide), zi_c (by decide)]; exact hA.1.2 k m hk⟩
      have hA0 : ∀ p, p < n → (zi (zi (zi S 157 t (nI ((s.2 t).1 + 1))) 158 t (nI (s.2 t).2.2)) 159 t 0).1 157 p = nI ((pStep n Dm t s).2 p).1 ∧ (zi (zi (zi S 157 t (nI ((s.2 t).1 + 1))) 158 t (nI (s.2 t).2.2)) 159 t 0).1 158 p = nI ((pStep n Dm t s).2 p).2.1 ∧ (zi (zi (zi S 157 t (nI ((s.2 t).1 + 1))) 158 t (nI (s.2 t).2.2)) 159 t 0).1 159 p = nI ((pStep n Dm t s).2 p).2.2 := fun p hp => by
        by_cases z : p = t
        · rw [z, e1]
          exact ⟨by rw [zi_c (by decide), zi_c (by decide), zi_v], by rw [zi_c (by decide), zi_v], zi_v⟩
        · rw [eq p z]
          exact ⟨by rw [zi_c (by decide), zi_c (by decide), zi_k z]; exact (hA.2 p hp).1, by rw [zi_c (by decide), zi_k z, zi_c (by decide)]; exact (hA.2 p hp).2.1, by rw [zi_k z, zi_c (by decide), zi_c (by decide)]; exact (hA.2 p hp).2.2⟩
      refine b_Mo_takeMessage_226 vt (fun q => absurd (by rw [ct] at q; exact q) n226) (fun _ => b_Mo_takeMessage_241 vt (fun q => absurd (by rw [ct, p2, en, hc.1]) q) (fun _ => b_Mo_takeMessage_256 vt (fun q => ?_) (fun q => ?_)))
      · rw [ct, zi_v, p1, e68, show nI (s.2 t).1 + 1 = nI ((s.2 t).1 + 1) from nI_add _ 1] at q
        have zs : ¬ (s.2 t).1 + 1 ≤ Dm + 1 := by have := (nI_ltI (by omega) (by omega)).mp q; omega
        have eL : (pStep n Dm t s).1 = s.1 := if_neg zs
        rw [if_neg zs] at kk
        rw [ct, p1, p3, show nI (s.2 t).1 + 1 = nI ((s.2 t).1 + 1) from nI_add _ 1]
        refine tm_226 hg hn ht hD fu y (pStep n Dm t s) _ (by rw [e1]; show (s.2 t).1 + 1 + fu = Dm + 2; omega) hP' ⟨by rw [eL]; exact hF0, hA0⟩ (by rw [zi_c (by decide), zi_c (by decide), zi_c (by decide)]; exact h131) (by rw [zi_c (by decide), zi_c (by decide), zi_c (by decide)]; exact h68) (fun S' a1 a2 => ?_)
        have k' := kk S' a1 ⟨fun c i q1 q2 q3 => by rw [a2.1 c i q1 q2 q3, zi_get, if_neg (by omega), zi_get, if_neg (by omega), zi_get, if_neg (by omega)], fun c i => a2.2 c i⟩
        rw [Nat.zero_add] at k'
        exact k'
      · rw [ct, zi_v, p1, e68, show nI (s.2 t).1 + 1 = nI ((s.2 t).1 + 1) from nI_add _ 1] at q
        have zs : (s.2 t).1 + 1 ≤ Dm + 1 := by
          by_cases y : (s.2 t).1 + 1 ≤ Dm + 1
          · exact y
          · exact absurd ((nI_ltI (by omega) (by omega)).mpr (by omega)) q
        have eL : (pStep n Dm t s).1 = s.1 ++ sndL t ((s.2 t).1 + 1) n 0 := if_pos zs
        rw [eL, List.length_append] at hR
        rw [if_pos zs] at kk
        rw [ct, p1, p3, show nI (s.2 t).1 + 1 = nI ((s.2 t).1 + 1) from nI_add _ 1]
        refine b_Mo_takeMessage_300 hg (wm_send (r := (s.2 t).1 + 1) (y := y) hn.2 ht hF0 (by rw [zi_c (by decide), zi_c (by decide), zi_v]) (by rw [zi_c (by decide), zi_c (by decide), zi_c (by decide)]; exact h131) (by omega)) (fun S3 e => ?_)
        obtain ⟨f3, f4, fr⟩ := e
        refine b_Mo_takeMessage_305 ?_
        refine tm_226 hg hn ht hD fu _ (pStep n Dm t s) S3 (by rw [e1]; show (s.2 t).1 + 1 + fu = Dm + 2; omega) hP' ⟨by rw [eL]; exact f3, fun p hp => ?_⟩ f4 ?_ (fun S' a1 a2 => ?_)
        · rw [fr.1 157 p (by omega) (by omega), fr.1 158 p (by omega) (by omega), fr.1 159 p (by omega) (by omega)]
          exact hA0 p hp
        · rw [fr.1 73 68 (by omega) (by omega), zi_c (by decide), zi_c (by decide), zi_c (by decide)]
          exact h68
        · have k' := kk S' a1 ⟨fun c i q1 q2 q3 => by rw [a2.1 c i q1 q2 q3, fr.1 c i q1 q3, zi_get, if_neg (by omega), zi_get, if_neg (by omega), zi_get, if_neg (by omega)], fun c i => (a2.2 c i).trans (fr.2 c i)⟩
          rw [← Nat.add_assoc] at k'
          exact k'
    · have e := goF_no (fu := fu + 1) hc
      rw [e] at kk
      refine b_Mo_takeMessage_226 vt (fun q => absurd (by rw [ct] at q; exact q) n226) (fun _ => b_Mo_takeMessage_241 vt (fun _ => b_Mo_takeMessage_308 ?_) (fun q => absurd ?_ hc))
      · rw [h131]
        exact kk S hA ⟨fun _ _ _ _ _ => rfl, fun _ _ => rfl⟩
      · rw [ct, p2, en] at q
        exact ⟨(nI_eq (by omega) (by omega)).mp q, by omega⟩
end GON
