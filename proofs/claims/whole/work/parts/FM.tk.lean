/-! how long a message is; taking one, on both sides -/
/-- the bits of a message from f of round r -/
def lnF (own av : Nat → Nat) (Dm ob f r : Nat) : Nat := if r = 0 then own f else if r ≤ Dm then 2 * av r else ob
def lnS (own av : Nat → Nat) (Dm ob : Nat) : List (Nat × Nat × Nat) → Nat
  | [] => 0
  | m :: L => lnF own av Dm ob m.1 m.2.2 + lnS own av Dm ob L
def LNc (n Dm : Nat) (own av : Nat → Nat) (ob : Nat) (S : zS) : Prop := S.1 24 6 = nI Dm ∧ (∀ q, q < n → S.1 23 q = nI (own q)) ∧ (∀ r, 1 ≤ r → r ≤ Dm → S.1 30 (r + 1) - S.1 30 r = nI (av r)) ∧ ∃ no, no < 445 ∧ S.1 24 11 = nI no ∧ S.1 31 no = nI ob
def LNm (n Dm : Nat) (own av : Nat → Nat) (ob : Nat) (S : zS) : Prop := S.1 73 68 = nI Dm ∧ (∀ q, q < n → S.1 167 q = nI (own q)) ∧ (∀ r, 1 ≤ r → r ≤ Dm → S.1 155 (r + 1) - S.1 155 r = nI (av r)) ∧ S.1 73 145 = nI ob
/-- the messages that have come -/
def LGc (n Dm : Nat) (own av : Nat → Nat) (ob : Nat) (lg : Nat → List (Nat × Nat × Nat)) (S : zS) : Prop := ∀ p, p < n → S.1 67 p = nI (lg p).length ∧ S.1 68 p = nI (lnS own av Dm ob (lg p)) ∧ ∀ j m, (lg p)[j]? = some m → S.1 72 (p * ((n - 1) * 2002) + j) = eMs m
def LGm (n Dm : Nat) (own av : Nat → Nat) (ob : Nat) (lg : Nat → List (Nat × Nat × Nat)) (S : zS) : Prop := ∀ p, p < n → S.1 160 p = nI (lg p).length ∧ S.1 161 p = nI (lnS own av Dm ob (lg p)) ∧ ∀ j m, (lg p)[j]? = some m → S.1 162 (30060 * p + j) = nI m.1 ∧ S.1 163 (30060 * p + j) = nI m.2.2
def LGp (n Dm : Nat) (s : List (Nat × Nat × Nat) × (Nat → Nat × Nat × Nat)) (lg : Nat → List (Nat × Nat × Nat)) : Prop := ∀ p, p < n → (lg p).length = (n - 1) * (s.2 p).1 + (s.2 p).2.1 + (s.2 p).2.2 ∧ (lg p).length ≤ (n - 1) * (Dm + 2) ∧ ∀ m, m ∈ lg p → m.1 < n ∧ ¬ m.1 = p ∧ m.2.1 = p ∧ m.2.2 ≤ Dm + 1
def lgA (lg : Nat → List (Nat × Nat × Nat)) (t : Nat) (m : Nat × Nat × Nat) : Nat → List (Nat × Nat × Nat) := fun p => if p = t then lg t ++ [m] else lg p
section TKE
variable {l : Launch} {Gr : zG} {n w d t f r k Dm ob : Nat} {own av : Nat → Nat} {S S' S'' S0 : zS} {x : Int32} {s s' : List (Nat × Nat × Nat) × (Nat → Nat × Nat × Nat)} {lg : Nat → List (Nat × Nat × Nat)} {L : List (Nat × Nat × Nat)} {m : Nat × Nat × Nat} {Q : Option Value → zS → Prop}
theorem lnS_ap : ∀ L : List (Nat × Nat × Nat), lnS own av Dm ob (L ++ [m]) = lnS own av Dm ob L + lnF own av Dm ob m.1 m.2.2
  | [] => by
    show _ + 0 = 0 + _
    omega
  | a :: L => by
    show lnF own av Dm ob a.1 a.2.2 + lnS own av Dm ob (L ++ [m]) = lnF own av Dm ob a.1 a.2.2 + lnS own av Dm ob L + _
    rw [lnS_ap L]
    omega
theorem w_msgBits (hg : ip_gk (lg_tbl, vwCl, Gr)) (hn : n ≤ 16) (hD : Dm ≤ 2000) (h : LNc n Dm own av ob S) (hf : f < n) (ht : t < 16) (hr : r ≤ Dm + 1) : zMi l Gr (zc n w) 168 M_Post_bitsOf (d + 1) [.ref 97, .int (eMs (f, t, r))] S (fun v S' => v = nI (lnF own av Dm ob f r) ∧ S' = S) := by
  obtain ⟨h6, h23, h30, no, hno, h11, h31⟩ := h
  refine e_Post_bitsOf (b_Post_bitsOf_0 hg (w_round (by omega) ht (by omega)) (fun v S1 e => ?_))
  obtain ⟨rfl, rfl⟩ := e
  refine b_Post_bitsOf_4 (fun z => ?_) (fun z => ?_)
  · have z' : ¬ r = 0 := fun e => z (by rw [e]; rfl)
    refine b_Post_bitsOf_22 (fun y => ?_) (fun y => ?_)
    · rw [h6] at y
      have y' : r ≤ Dm := (nI_leI (by omega) (by omega)).mp y
      refine b_Post_bitsOf_43 hg (R := fun v S' => v = nI (av r) ∧ S' = S1) (e_Circuit_andsOfLevel (b_Circuit_andsOfLevel_0 (fun q => absurd q (nI_pos (by omega))) (fun _ => b_Circuit_andsOfLevel_4 (fun _ => b_Circuit_andsOfLevel_15 (by rw [show nI r + 1 = nI (r + 1) from nI_add _ 1]; exact vp_in_nI (by omega) (by omega)) (vp_in_nI (by omega) (by omega)) (b_Circuit_andsOfLevel_30 ⟨_, rfl, ?_, rfl⟩)) (fun q => absurd ((nI_leI (b := 2000) (by omega) (by omega)).mpr (by omega)) q)))) (fun v S2 e => ?_)
      · rw [show nI r + 1 = nI (r + 1) from nI_add _ 1, nI_clamp (by omega), nI_clamp (by omega)]
        exact h30 r (by omega) y'
      · obtain ⟨rfl, rfl⟩ := e
        refine b_Post_bitsOf_52 (b_Post_bitsOf_53 ⟨_, rfl, ?_, rfl⟩)
        unfold lnF
        rw [if_neg z', if_pos y']
        exact nI_mul2 _
    · rw [h6] at y
      have y' : ¬ r ≤ Dm := fun q => y ((nI_leI (by omega) (by omega)).mpr q)
      refine b_Post_bitsOf_33 hg (R := fun v S' => v = nI ob ∧ S' = S1) (e_Circuit_allOutputBits (b_Circuit_allOutputBits_0 (by rw [h11]; exact vp_in_nI hno (by omega)) ⟨_, rfl, ?_, rfl⟩)) (fun v S2 e => ?_)
      · rw [h11, nI_clamp (by omega)]
        exact h31
      · obtain ⟨rfl, rfl⟩ := e
        refine b_Post_bitsOf_40 (b_Post_bitsOf_53 ⟨_, rfl, ?_, rfl⟩)
        unfold lnF
        rw [if_neg z', if_neg y']
  · have z' : r = 0 := (nI_eq (b := 0) (by omega) (by omega)).mp z
    refine b_Post_bitsOf_9 hg (w_from (by omega)) (fun v S2 e => ?_)
    obtain ⟨rfl, rfl⟩ := e
    refine b_Post_bitsOf_20 (vp_in_nI hf (by omega)) ⟨_, rfl, ?_, rfl⟩
    rw [nI_clamp (by omega), h23 f hf]
    unfold lnF
    rw [if_pos z']
theorem wm_len (hn : n ≤ 16) (hD : Dm ≤ 2000) (h : LNm n Dm own av ob S) (hf : f < n) (hr : r ≤ Dm + 1) : zMi l Gr (zc n w) 168 M_Mo_lengthOf d [.ref 105, .int (nI f), .int (nI r)] S (fun v S' => v = nI (lnF own av Dm ob f r) ∧ S' = S) := by
  obtain ⟨h68, h167, h155, h145⟩ := h
  refine e_Mo_lengthOf (b_Mo_lengthOf_0 (fun z => ?_) (fun z => ?_))
  · have z' : ¬ r = 0 := fun e => z (by rw [e]; rfl)
    refine b_Mo_lengthOf_13 (fun y => ?_) (fun y => ?_)
    · rw [h68] at y
      have y' : ¬ r ≤ Dm := by have := (nI_ltI (by omega) (by omega)).mp y; omega
      refine b_Mo_lengthOf_41 (b_Mo_lengthOf_45 ⟨_, rfl, ?_, rfl⟩)
      unfold lnF
      rw [if_neg z', if_neg y']
      exact h145
    · rw [h68] at y
      have y' : r ≤ Dm := by
        by_cases q : r ≤ Dm
        · exact q
        · exact absurd ((nI_ltI (by omega) (by omega)).mpr (by omega)) y
      refine b_Mo_lengthOf_21 (by rw [show nI r + 1 = nI (r + 1) from nI_add _ 1]; exact vp_in_nI (by omega) (by omega)) (vp_in_nI (by omega) (by omega)) (b_Mo_lengthOf_45 ⟨_, rfl, ?_, rfl⟩)
      rw [show nI r + 1 = nI (r + 1) from nI_add _ 1, nI_clamp (by omega), nI_clamp (by omega), h155 r (by omega) y']
      unfold lnF
      rw [if_neg z', if_pos y']
      exact nI_mul2 _
  · have z' : r = 0 := (nI_eq (b := 0) (by omega) (by omega)).mp z
    refine b_Mo_lengthOf_4 (vp_in_nI (by omega) (by omega)) (b_Mo_lengthOf_45 ⟨_, rfl, ?_, rfl⟩)
    rw [nI_clamp (by omega), h167 f hf]
    unfold lnF
    rw [if_pos z']
theorem seg_ne {p N j j' : Nat} (hj : j < N) (hj' : j' < N) (h : ¬ p = t) : ¬ p * N + j = t * N + j' := fun e => by
  rcases Nat.lt_or_gt_of_ne h with q | q
  · have := Nat.mul_le_mul_right N (show p + 1 ≤ t by omega)
    rw [Nat.succ_mul] at this
    omega
  · have := Nat.mul_le_mul_right N (show t + 1 ≤ p by omega)
    rw [Nat.succ_mul] at this
    omega
theorem LGp_take (h : LGp n Dm s lg) (hP : PIv n Dm s) (hk : s.1[k]? = some (f, t, r)) : LGp n Dm (pTake k f t r s) (lgA lg t (f, t, r)) := fun p hp => by
  obtain ⟨m1, m2, m3, m4, m5, m6⟩ := PIv_msg hP hk
  have hAr := PIv_arr hP hk
  obtain ⟨h1, h3, h2⟩ := h p hp
  unfold lgA
  by_cases z : p = t
  · have e : (pTake k f t r s).2 t = (if r = (s.2 t).1 then ((s.2 t).1, (s.2 t).2.1 + 1, (s.2 t).2.2) else ((s.2 t).1, (s.2 t).2.1, (s.2 t).2.2 + 1)) := if_pos rfl
    rw [if_pos z, z, e]
    rw [z] at h1 h2 h3
    refine ⟨?_, by rw [List.length_append, h1]; exact hAr, fun m hm => ?_⟩
    · rw [List.length_append, h1]
      show _ + 1 = _
      split
      · show _ = (n - 1) * (s.2 t).1 + ((s.2 t).2.1 + 1) + (s.2 t).2.2
        omega
      · show _ = (n - 1) * (s.2 t).1 + (s.2 t).2.1 + ((s.2 t).2.2 + 1)
        omega
    · rcases List.mem_append.mp hm with y | y
      · exact h2 m y
      · rw [List.mem_singleton.mp y]
        exact ⟨m1, m3, rfl, m4⟩
  · have e : (pTake k f t r s).2 p = s.2 p := if_neg z
    rw [if_neg z, e]
    exact ⟨h1, h3, h2⟩
theorem LGp_go (ht : t < n) : ∀ fu s, LGp n Dm s lg → LGp n Dm (goF n Dm t fu s).1 lg
  | 0, s, h => h
  | fu + 1, s, h => by
    by_cases z : (s.2 t).2.1 = n - 1 ∧ (s.2 t).1 ≤ Dm + 1
    · rw [goF_go z]
      refine LGp_go ht fu _ (fun p hp => ?_)
      obtain ⟨h1, h3, h2⟩ := h p hp
      refine ⟨?_, h3, h2⟩
      by_cases zp : p = t
      · have e : (pStep n Dm t s).2 p = ((s.2 t).1 + 1, (s.2 t).2.2, 0) := if_pos zp
        rw [zp] at h1
        rw [e, zp, h1, z.1]
        show _ = (n - 1) * ((s.2 t).1 + 1) + (s.2 t).2.2 + 0
        rw [Nat.mul_add]
        omega
      · have e : (pStep n Dm t s).2 p = s.2 p := if_neg zp
        rw [e]
        exact h1
    · rw [goF_no z]
      exact h
theorem FLc_er (hF : FLc L S) (hk : k < L.length) (h10 : S'.1 65 10 = nI (L.length - 1)) (h71 : ∀ j, S'.1 71 j = if k ≤ j ∧ j < L.length - 1 then S.1 71 (j + 1) else S.1 71 j) : FLc (L.eraseIdx k) S' := by
  refine ⟨by rw [List.length_eraseIdx_of_lt hk]; exact h10, fun j m hj => ?_⟩
  rw [List.getElem?_eraseIdx] at hj
  rw [h71 j]
  split at hj
  · next z =>
    rw [if_neg (by omega)]
    exact hF.2 j m hj
  · next z =>
    have := (List.getElem?_eq_some_iff.mp hj).1
    rw [if_pos (by omega)]
    exact hF.2 (j + 1) m hj
theorem FLm_er (hF : FLm L S) (hk : k < L.length) (h10 : S'.1 73 139 = nI (L.length - 1)) (h71 : ∀ c j, 164 ≤ c → c ≤ 166 → S'.1 c j = if k ≤ j ∧ j < L.length - 1 then S.1 c (j + 1) else S.1 c j) : FLm (L.eraseIdx k) S' := by
  refine ⟨by rw [List.length_eraseIdx_of_lt hk]; exact h10, fun j m hj => ?_⟩
  rw [List.getElem?_eraseIdx] at hj
  rw [h71 164 j (by omega) (by omega), h71 165 j (by omega) (by omega), h71 166 j (by omega) (by omega)]
  split at hj
  · next z =>
    rw [if_neg (by omega), if_neg (by omega), if_neg (by omega)]
    exact hF.2 j m hj
  · next z =>
    have := (List.getElem?_eq_some_iff.mp hj).1
    rw [if_pos (by omega), if_pos (by omega), if_pos (by omega)]
    exact hF.2 (j + 1) m hj
def FBc (S S' : zS) : Prop := (∀ c k, ¬ (c = 65 ∧ (10 ≤ k ∧ k ≤ 12)) → ¬ (66 ≤ c ∧ c ≤ 72) → S'.1 c k = S.1 c k) ∧ ∀ c k, S'.2 c k = S.2 c k
def FBm (S S' : zS) : Prop := (∀ c k, ¬ (c = 73 ∧ (k = 131 ∨ k = 139 ∨ k = 140)) → ¬ (157 ≤ c ∧ c ≤ 166) → S'.1 c k = S.1 c k) ∧ ∀ c k, S'.2 c k = S.2 c k
theorem LNc_fr (h : LNc n Dm own av ob S) (hf : ∀ c k, ¬ (65 ≤ c ∧ c ≤ 72) → S'.1 c k = S.1 c k) : LNc n Dm own av ob S' := by
  obtain ⟨h6, h23, h30, no, hno, h11, h31⟩ := h
  exact ⟨by rw [hf 24 6 (by omega)]; exact h6, fun q hq => by rw [hf 23 q (by omega)]; exact h23 q hq, fun r q1 q2 => by rw [hf 30 _ (by omega), hf 30 _ (by omega)]; exact h30 r q1 q2, no, hno, by rw [hf 24 11 (by omega)]; exact h11, by rw [hf 31 no (by omega)]; exact h31⟩
theorem LNm_fr (h : LNm n Dm own av ob S) (hf : ∀ c k, ¬ (c = 73 ∧ (k = 131 ∨ k = 139 ∨ k = 140)) → ¬ (157 ≤ c ∧ c ≤ 166) → S'.1 c k = S.1 c k) : LNm n Dm own av ob S' := by
  obtain ⟨h68, h167, h155, h145⟩ := h
  exact ⟨by rw [hf 73 68 (by omega) (by omega)]; exact h68, fun q hq => by rw [hf 167 q (by omega) (by omega)]; exact h167 q hq, fun r q1 q2 => by rw [hf 155 _ (by omega) (by omega), hf 155 _ (by omega) (by omega)]; exact h155 r q1 q2, by rw [hf 73 145 (by omega) (by omega)]; exact h145⟩
/-- bring() of the class -/
theorem w_bring (hg : ip_gk (lg_tbl, vwCl, Gr)) (hn : 2 ≤ n ∧ n ≤ 16) (hD : Dm ≤ 2000) (hN : LNc n Dm own av ob S) (hP : PIv n Dm s) (hA : PAc n s S) (hG : LGp n Dm s lg) (hL : LGc n Dm own av ob lg S) (h12 : S.1 65 12 = nI (dnF Dm s n)) (hk : s.1[k]? = some (f, t, r)) : zMi l Gr (zc n w) 168 M_Post_bring (d + 2) [.ref 97, .int (nI k)] S (fun v S' => v = nI (goF n Dm t (Dm + 2 - (s.2 t).1) (pTake k f t r s)).2 ∧ PAc n (goF n Dm t (Dm + 2 - (s.2 t).1) (pTake k f t r s)).1 S' ∧ LGc n Dm own av ob (lgA lg t (f, t, r)) S' ∧ S'.1 65 12 = nI (dnF Dm (goF n Dm t (Dm + 2 - (s.2 t).1) (pTake k f t r s)).1 n) ∧ S'.1 65 11 = S.1 65 11 + 1 ∧ FBc S S') := by
  obtain ⟨m1, m2, m3, m4, m5, m6⟩ := PIv_msg hP hk
  have hkl : k < s.1.length := (List.getElem?_eq_some_iff.mp hk).1
  have hR := PIv_room hP
  have hM := rm_480 hn.2
  have hAr := PIv_arr hP hk
  have hT := PIv_take hP hk
  have hGt := LGp_take hG hP hk
  have ck : (nI k).toNatClampNeg = k := nI_clamp (by omega)
  have ct : (nI t).toNatClampNeg = t := nI_clamp (by omega)
  have vt : vp_in (nI t) n := vp_in_nI m2 (by omega)
  have e71 : S.1 71 (nI k).toNatClampNeg = eMs (f, t, r) := by rw [ck]; exact hA.1.2 k _ hk
  have e10 : S.1 65 10 - 1 = nI (s.1.length - 1) := by rw [hA.1.1]; exact sub_nn (b := 1) (by omega)
  have e10k : S.1 65 10 - 1 - nI k = nI (s.1.length - 1 - k) := by rw [e10]; exact sub_nn (by omega)
  have ek1 : nI k + 1 = nI (k + 1) := nI_add k 1
  have en : nI n - 1 = nI (n - 1) := sub_nn (b := 1) (by omega)
  have eN : (nI n - 1) * 2002 = nI ((n - 1) * 2002) := by rw [en]; exact nI_mul _ 2002
  have hN15 : (n - 1) * 2002 ≤ 30030 := Nat.mul_le_mul_right 2002 (show n - 1 ≤ 15 by omega)
  have hlen : (lg t).length < (n - 1) * 2002 := by
    rw [(hG t m2).1]
    exact Nat.lt_of_lt_of_le hAr (Nat.mul_le_mul_left _ (by omega))
  have h0 : ∀ X, zMi l Gr (zc n w) 168 M_Post_to (d + 1) [.int (S.1 71 (nI k).toNatClampNeg)] X (fun v S' => v = nI t ∧ S' = X) := fun X => by
    rw [e71]
    exact w_to (by omega) (by omega) (by omega)
  refine e_Post_bring (b_Post_bring_0 hg (vp_in_nI (by omega) (by omega)) (by rw [ek1]; exact nI_pos (by omega)) (nI_pos (by omega)) (by rw [e10k]; exact nI_pos (by omega)) (by rw [e10k, ek1, nI_clamp (by omega), nI_clamp (by omega)]; omega) (by rw [e10k, nI_clamp (by omega), nI_clamp (by omega)]; omega) (h0 _) (fun v S1 e => ?_))
  obtain ⟨rfl, e1⟩ := e
  rw [e10k, ek1, ck, nI_clamp (show k + 1 < 2 ^ 31 by omega), nI_clamp (show s.1.length - 1 - k < 2 ^ 31 by omega), e10] at e1
  have fr1 : ∀ c i, ¬ (c = 65 ∧ (i = 10 ∨ i = 11)) → ¬ c = 71 → S1.1 c i = S.1 c i := fun c i q1 q2 => by
    rw [e1, zi_get, if_neg (by omega), zI_c q2, zi_get, if_neg (by omega)]
  have s71 : ∀ j, S1.1 71 j = if k ≤ j ∧ j < s.1.length - 1 then S.1 71 (j + 1) else S.1 71 j := fun j => by
    rw [e1, zi_c (by decide), zI_get, if_pos rfl]
    unfold va_cpy
    by_cases z : k ≤ j ∧ j < s.1.length - 1
    · rw [if_pos z, if_pos (by omega), zi_c (by decide), show k + 1 + (j - k) = j + 1 by omega]
    · rw [if_neg z, if_neg (by omega), zi_c (by decide)]
  have hF1 : FLc (s.1.eraseIdx k) S1 := FLc_er hA.1 hkl (by rw [e1, zi_k (by decide), zI_c (by decide), zi_v]) s71
  have d11 : S1.1 65 11 = S.1 65 11 + 1 := by rw [e1, zi_v]
  have f2 : ∀ c i, S1.2 c i = S.2 c i := fun c i => by rw [e1]; rfl
  clear e1
  rw [e71]
  obtain ⟨g1, g2, g3⟩ := hL t m2
  have r67 : S1.1 67 t = nI (lg t).length := by rw [fr1 67 t (by omega) (by omega)]; exact g1
  have r68 : S1.1 68 t = nI (lnS own av Dm ob (lg t)) := by rw [fr1 68 t (by omega) (by omega)]; exact g2
  have r66 : S1.1 66 t = nI (s.2 t).1 := by rw [fr1 66 t (by omega) (by omega)]; exact (hA.2 t m2).1
  have eI : nI t * ((nI n - 1) * 2002) + S1.1 67 t = nI (t * ((n - 1) * 2002) + (lg t).length) := by rw [eN, nI_mul, r67, nI_add]
  have hI1 : t * ((n - 1) * 2002) + (lg t).length < n * ((n - 1) * 2002) := by
    have := Nat.mul_le_mul_right ((n - 1) * 2002) (show t + 1 ≤ n by omega)
    rw [Nat.succ_mul] at this
    omega
  have hI2 : n * ((n - 1) * 2002) ≤ 480480 := Nat.mul_le_mul hn.2 hN15
  refine b_Post_bring_52 vt (fun y => absurd y (by rw [ct, eN, r67]; exact nI_ge (by omega) (by omega))) (fun _ => ?_)
  have hB : ∀ X, (∀ c i, ¬ (65 ≤ c ∧ c ≤ 72) → X.1 c i = S.1 c i) → zMi l Gr (zc n w) 168 M_Post_bitsOf (d + 1) [.ref 97, .int (eMs (f, t, r))] X (fun v S' => v = nI (lnF own av Dm ob f r) ∧ S' = X) := fun X hX => w_msgBits hg hn.2 hD (LNc_fr hN hX) m1 (by omega) m4
  refine b_Post_bring_66 hg vt (by rw [ct, eI]; exact vp_in_nI hI1 (by omega)) (hB _ (fun c i q => by rw [zi_get, if_neg (by omega), zi_get, if_neg (by omega), fr1 c i (by omega) (by omega)])) (fun v S2 e => ?_)
  obtain ⟨rfl, e2⟩ := e
  rw [ct, eI, nI_clamp (by omega), r67, show nI (lg t).length + 1 = nI ((lg t).length + 1) from nI_add _ 1] at e2
  rw [ct, r68]
  refine b_Post_bring_107 vt (b_Post_bring_109 hg (w_round (by omega) (by omega) (by omega)) (fun v S3 e => ?_))
  obtain ⟨rfl, e3⟩ := e
  rw [ct, nI_add] at e3
  have fr3 : ∀ c i, ¬ (c = 65 ∧ (i = 10 ∨ i = 11)) → ¬ (c = 67 ∧ i = t) → ¬ (c = 68 ∧ i = t) → ¬ c = 71 → ¬ (c = 72 ∧ i = t * ((n - 1) * 2002) + (lg t).length) → S3.1 c i = S.1 c i := fun c i q1 q2 q3 q4 q5 => by
    rw [e3, zi_get, if_neg q3, e2, zi_get, if_neg q2, zi_get, if_neg q5, fr1 c i q1 q4]
  have f32 : ∀ c i, S3.2 c i = S.2 c i := fun c i => by
    rw [e3]
    show S2.2 c i = _
    rw [e2]
    exact f2 c i
  have hL3 : LGc n Dm own av ob (lgA lg t (f, t, r)) S3 := fun p hp => by
    obtain ⟨y1, y2, y3⟩ := hL p hp
    unfold lgA
    by_cases z : p = t
    · rw [if_pos z, z]
      refine ⟨?_, ?_, fun j m hj => ?_⟩
      · rw [e3, zi_c (by decide), e2, zi_v, List.length_append]
        rfl
      · rw [e3, zi_v, lnS_ap]
      · rw [e3, zi_c (by decide), e2, zi_c (by decide)]
        rcases ap_at hj with ⟨q, hj'⟩ | ⟨rfl, rfl⟩
        · rw [zi_k (by omega), fr1 72 _ (by omega) (by omega)]
          exact g3 j m hj'
        · exact zi_v
    · rw [if_neg z]
      refine ⟨?_, ?_, fun j m hj => ?_⟩
      · rw [fr3 67 p (by omega) (by omega) (by omega) (by omega) (by omega)]
        exact y1
      · rw [fr3 68 p (by omega) (by omega) (by omega) (by omega) (by omega)]
        exact y2
      · have hjl : j < (lg p).length := (List.getElem?_eq_some_iff.mp hj).1
        have hlp : (lg p).length ≤ (n - 1) * 2002 := Nat.le_trans (hG p hp).2.1 (Nat.mul_le_mul_left _ (by omega))
        rw [fr3 72 _ (by omega) (by omega) (by omega) (by omega) (fun q => seg_ne (by omega) hlen z q.2)]
        exact y3 j m hj
  have r66' : S3.1 66 t = nI (s.2 t).1 := by rw [fr3 66 t (by omega) (by omega) (by omega) (by omega) (by omega)]; exact (hA.2 t m2).1
  have b66 := PIv_le hP m2
  have eT : (pTake k f t r s).2 t = (if r = (s.2 t).1 then ((s.2 t).1, (s.2 t).2.1 + 1, (s.2 t).2.2) else ((s.2 t).1, (s.2 t).2.1, (s.2 t).2.2 + 1)) := if_pos rfl
  have eq : ∀ q, ¬ q = t → (pTake k f t r s).2 q = s.2 q := fun q hq => if_neg hq
  have eA : ((pTake k f t r s).2 t).1 = (s.2 t).1 := by
    rw [eT]
    split <;> rfl
  have hdn : dnF Dm (pTake k f t r s) n = dnF Dm s n := dnF_cg n (fun q _ => by
    by_cases z : q = t
    · rw [z, eA]
    · rw [eq q z])
  have last : ∀ S5, PAc n (pTake k f t r s) S5 → (∀ c i, ¬ (c = 69 ∨ c = 70) → S5.1 c i = S3.1 c i) → (∀ c i, S5.2 c i = S3.2 c i) → zW l Gr (zc n w) 168 M_Post_bring (d + 2) 145 [some (.ref 97), none, none, some (.int (nI t))] [] S5 (fun v S' => ∃ x, v = some (.int x) ∧ x = nI (goF n Dm t (Dm + 2 - (s.2 t).1) (pTake k f t r s)).2 ∧ PAc n (goF n Dm t (Dm + 2 - (s.2 t).1) (pTake k f t r s)).1 S' ∧ LGc n Dm own av ob (lgA lg t (f, t, r)) S' ∧ S'.1 65 12 = nI (dnF Dm (goF n Dm t (Dm + 2 - (s.2 t).1) (pTake k f t r s)).1 n) ∧ S'.1 65 11 = S.1 65 11 + 1 ∧ FBc S S') := fun S5 hA5 f5 f52 => by
    have wg := w_goOn (l := l) (Gr := Gr) (w := w) (d := d) hg hn m2 hD hT hA5 (by rw [f5 65 12 (by omega), fr3 65 12 (by omega) (by omega) (by omega) (by omega) (by omega), h12, hdn]) (by rw [f5 24 6 (by omega), fr3 24 6 (by omega) (by omega) (by omega) (by omega) (by omega)]; exact hN.1)
    rw [eA] at wg
    refine b_Post_bring_145 hg wg (fun v S6 e => ?_)
    obtain ⟨rfl, a1, a2, a3⟩ := e
    refine b_Post_bring_150 ⟨_, rfl, rfl, a1, fun p hp => ?_, a2, ?_, fun c i q1 q2 => ?_, fun c i => ?_⟩
    · obtain ⟨y1, y2, y3⟩ := hL3 p hp
      refine ⟨?_, ?_, fun j m hj => ?_⟩
      · rw [a3.1 67 p (by omega) (by omega), f5 67 p (by omega)]
        exact y1
      · rw [a3.1 68 p (by omega) (by omega), f5 68 p (by omega)]
        exact y2
      · rw [a3.1 72 _ (by omega) (by omega), f5 72 _ (by omega)]
        exact y3 j m hj
    · rw [a3.1 65 11 (by omega) (by omega), f5 65 11 (by omega), e3, zi_c (by decide), e2, zi_c (by decide), zi_c (by decide), d11]
    · rw [a3.1 c i (by omega) (by omega), f5 c i (by omega), fr3 c i (by omega) (by omega) (by omega) (by omega) (by omega)]
    · rw [a3.2 c i, f52 c i, f32 c i]
  have hF3 : FLc (s.1.eraseIdx k) S3 := ⟨by rw [e3, zi_c (by decide), e2, zi_c (by decide), zi_c (by decide)]; exact hF1.1, fun j m hj => by rw [e3, zi_c (by decide), e2, zi_c (by decide), zi_c (by decide)]; exact hF1.2 j m hj⟩
  have oth : ∀ p, p < n → S3.1 66 p = nI (s.2 p).1 ∧ S3.1 69 p = nI (s.2 p).2.1 ∧ S3.1 70 p = nI (s.2 p).2.2 := fun p hp => by
    rw [fr3 66 p (by omega) (by omega) (by omega) (by omega) (by omega), fr3 69 p (by omega) (by omega) (by omega) (by omega) (by omega), fr3 70 p (by omega) (by omega) (by omega) (by omega) (by omega)]
    exact hA.2 p hp
  clear e2 e3
  refine b_Post_bring_113 vt (fun y => b_Post_bring_135 vt ?_) (fun y => b_Post_bring_122 vt ?_)
  · rw [ct, r66'] at y
    have y' : ¬ r = (s.2 t).1 := fun q => y (by rw [q])
    rw [if_neg y'] at eT
    rw [ct, (oth t m2).2.2, show nI (s.2 t).2.2 + 1 = nI ((s.2 t).2.2 + 1) from nI_add _ 1]
    refine last _ ⟨⟨by rw [zi_c (by decide)]; exact hF3.1, fun j m hj => by rw [zi_c (by decide)]; exact hF3.2 j m hj⟩, fun p hp => ?_⟩ (fun c i q => by rw [zi_get, if_neg (by omega)]) (fun _ _ => rfl)
    by_cases z : p = t
    · rw [z, eT]
      exact ⟨by rw [zi_c (by decide)]; exact (oth t m2).1, by rw [zi_c (by decide)]; exact (oth t m2).2.1, zi_v⟩
    · rw [eq p z]
      exact ⟨by rw [zi_c (by decide)]; exact (oth p hp).1, by rw [zi_c (by decide)]; exact (oth p hp).2.1, by rw [zi_k z]; exact (oth p hp).2.2⟩
  · rw [ct, r66'] at y
    have y' : r = (s.2 t).1 := (nI_eq (by omega) (by omega)).mp y
    rw [if_pos y'] at eT
    rw [ct, (oth t m2).2.1, show nI (s.2 t).2.1 + 1 = nI ((s.2 t).2.1 + 1) from nI_add _ 1]
    refine last _ ⟨⟨by rw [zi_c (by decide)]; exact hF3.1, fun j m hj => by rw [zi_c (by decide)]; exact hF3.2 j m hj⟩, fun p hp => ?_⟩ (fun c i q => by rw [zi_get, if_neg (by omega)]) (fun _ _ => rfl)
    by_cases z : p = t
    · rw [z, eT]
      exact ⟨by rw [zi_c (by decide)]; exact (oth t m2).1, zi_v, by rw [zi_c (by decide)]; exact (oth t m2).2.2⟩
    · rw [eq p z]
      exact ⟨by rw [zi_c (by decide)]; exact (oth p hp).1, by rw [zi_k z]; exact (oth p hp).2.1, by rw [zi_c (by decide)]; exact (oth p hp).2.2⟩
end TKE
