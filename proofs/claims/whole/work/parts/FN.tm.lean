/-! the reference takes a message -/
section TKM
variable {l : Launch} {Gr : zG} {n w d t f r k Dm ob N : Nat} {own av : Nat → Nat} {S S' S'' S0 : zS} {x x2 x3 x4 : Int32} {s s' : List (Nat × Nat × Nat) × (Nat → Nat × Nat × Nat)} {lg : Nat → List (Nat × Nat × Nat)} {L : List (Nat × Nat × Nat)} {m : Nat × Nat × Nat} {Q : Option Value → zS → Prop}
theorem tm_35 (hN : N ≤ 900) (h139 : S0.1 73 139 = nI N) (kk : ∀ S', (∀ c j, 164 ≤ c → c ≤ 166 → S'.1 c j = if k ≤ j ∧ j < N then S0.1 c (j + 1) else S0.1 c j) → (∀ c j, ¬ (164 ≤ c ∧ c ≤ 166) → S'.1 c j = S0.1 c j) → (∀ c j, S'.2 c j = S0.2 c j) → zW l Gr (zc n w) 168 M_Mo_takeMessage (d + 1) 98 [some (.ref 105), none, some (.int x2), some (.int x3), some (.int x4), none] [] S' Q) : ∀ c i S, i + c = N → k ≤ i → (∀ c j, 164 ≤ c → c ≤ 166 → S.1 c j = if k ≤ j ∧ j < i then S0.1 c (j + 1) else S0.1 c j) → (∀ c j, ¬ (164 ≤ c ∧ c ≤ 166) → S.1 c j = S0.1 c j) → (∀ c j, S.2 c j = S0.2 c j) → zW l Gr (zc n w) 168 M_Mo_takeMessage (d + 1) 35 [some (.ref 105), none, some (.int x2), some (.int x3), some (.int x4), some (.int (nI i))] [] S Q
  | 0, i, S, h, hi, h1, h2, h3 => by
    have ei : i = N := by omega
    subst ei
    exact b_Mo_takeMessage_35 (fun _ => kk S h1 h2 h3) (fun y => absurd (by rw [h2 73 139 (by omega), h139]; exact nI_le (Nat.le_refl _) (by omega)) y)
  | c + 1, i, S, h, hi, h1, h2, h3 => by
    refine b_Mo_takeMessage_35 (fun y => absurd y (by rw [h2 73 139 (by omega), h139]; exact nI_ge (by omega) (by omega))) (fun _ => b_Mo_takeMessage_44 (by rw [show nI i + 1 = nI (i + 1) from nI_add i 1]; exact vp_in_nI (by omega) (by omega)) (vp_in_nI (by omega) (by omega)) ?_)
    rw [show nI i + Int32.ofInt 1 = nI (i + 1) from nI_add i 1, show nI i + 1 = nI (i + 1) from nI_add i 1, nI_clamp (by omega), nI_clamp (by omega)]
    refine tm_35 hN h139 kk c (i + 1) _ (by omega) (by omega) (fun c' j q1 q2 => ?_) (fun c' j q => ?_) (fun c' j => h3 c' j)
    · have hn : ∀ c'', 164 ≤ c'' → c'' ≤ 166 → S.1 c'' (i + 1) = S0.1 c'' (i + 1) := fun c'' y1 y2 => by rw [h1 c'' (i + 1) y1 y2, if_neg (by omega)]
      by_cases z : j = i
      · rw [if_pos (by omega), z]
        have : c' = 164 ∨ c' = 165 ∨ c' = 166 := by omega
        rcases this with rfl | rfl | rfl
        · rw [zi_c (by decide), zi_c (by decide), zi_v]
          exact hn 164 (by omega) (by omega)
        · rw [zi_c (by decide), zi_v]
          exact hn 165 (by omega) (by omega)
        · rw [zi_v]
          exact hn 166 (by omega) (by omega)
      · rw [zi_get, if_neg (by omega), zi_get, if_neg (by omega), zi_get, if_neg (by omega), h1 c' j q1 q2]
        by_cases z2 : k ≤ j ∧ j < i
        · rw [if_pos z2, if_pos (by omega)]
        · rw [if_neg z2, if_neg (by omega)]
    · rw [zi_get, if_neg (by omega), zi_get, if_neg (by omega), zi_get, if_neg (by omega)]
      exact h2 c' j q
/-- takeMessage() of the reference -/
theorem wm_take (hg : ip_gk (lg_tbl, vwCl, Gr)) (hn : 2 ≤ n ∧ n ≤ 16) (hD : Dm ≤ 2000) (hN : LNm n Dm own av ob S) (hP : PIv n Dm s) (hA : PAm n s S) (hG : LGp n Dm s lg) (hL : LGm n Dm own av ob lg S) (hk : s.1[k]? = some (f, t, r)) : zMi l Gr (zc n w) 168 M_Mo_takeMessage (d + 1) [.ref 105, .int (nI k)] S (fun v S' => v = nI (goF n Dm t (Dm + 2 - (s.2 t).1) (pTake k f t r s)).2 ∧ PAm n (goF n Dm t (Dm + 2 - (s.2 t).1) (pTake k f t r s)).1 S' ∧ LGm n Dm own av ob (lgA lg t (f, t, r)) S' ∧ S'.1 73 140 = S.1 73 140 + 1 ∧ FBm S S') := by
  obtain ⟨m1, m2, m3, m4, m5, m6⟩ := PIv_msg hP hk
  have hkl : k < s.1.length := (List.getElem?_eq_some_iff.mp hk).1
  have hR := Nat.le_trans (PIv_room hP) (rm_480 hn.2)
  have hAr := PIv_arr hP hk
  have hT := PIv_take hP hk
  have ck : (nI k).toNatClampNeg = k := nI_clamp (by omega)
  have ct : (nI t).toNatClampNeg = t := nI_clamp (by omega)
  have vt : vp_in (nI t) 16 := vp_in_nI (by omega) (by omega)
  obtain ⟨a1, a2, a3⟩ := hA.1.2 k _ hk
  have e10 : S.1 73 139 - 1 = nI (s.1.length - 1) := by rw [hA.1.1]; exact sub_nn (b := 1) (by omega)
  have hN15 : (n - 1) * 2002 ≤ 30030 := Nat.mul_le_mul_right 2002 (show n - 1 ≤ 15 by omega)
  have hlen : (lg t).length < (n - 1) * 2002 := by
    rw [(hG t m2).1]
    exact Nat.lt_of_lt_of_le hAr (Nat.mul_le_mul_left _ (by omega))
  refine e_Mo_takeMessage (b_Mo_takeMessage_0 (vp_in_nI (by omega) (by omega)) ?_)
  rw [ck, a1, a2, a3, e10]
  refine tm_35 (k := k) (N := s.1.length - 1) (S0 := zi S 73 139 (nI (s.1.length - 1))) (by omega) zi_v (fun S1 q1 q2 q3 => ?_) (s.1.length - 1 - k) k _ (by omega) (Nat.le_refl _) (fun c j _ _ => by rw [if_neg (by omega)]) (fun _ _ _ => rfl) (fun _ _ => rfl)
  have fr1 : ∀ c i, ¬ (c = 73 ∧ i = 139) → ¬ (164 ≤ c ∧ c ≤ 166) → S1.1 c i = S.1 c i := fun c i y1 y2 => by rw [q2 c i y2, zi_get, if_neg y1]
  have hF1 : FLm (s.1.eraseIdx k) S1 := FLm_er hA.1 hkl (by rw [q2 73 139 (by omega), zi_v]) (fun c j y1 y2 => by rw [q1 c j y1 y2, zi_c (by omega), zi_c (by omega)])
  have f12 : ∀ c i, S1.2 c i = S.2 c i := fun c i => q3 c i
  clear q1 q2 q3
  obtain ⟨g1, g2, g3⟩ := hL t m2
  have r160 : S1.1 160 t = nI (lg t).length := by rw [fr1 160 t (by omega) (by omega)]; exact g1
  have r161 : S1.1 161 t = nI (lnS own av Dm ob (lg t)) := by rw [fr1 161 t (by omega) (by omega)]; exact g2
  have eI : 30060 * nI t + S1.1 160 t = nI (30060 * t + (lg t).length) := by
    rw [r160, show 30060 * nI t = nI (30060 * t) from nI_mul 30060 t, nI_add]
  have hB : ∀ X, (∀ c i, ¬ (c = 73 ∧ (i = 131 ∨ i = 139 ∨ i = 140)) → ¬ (157 ≤ c ∧ c ≤ 166) → X.1 c i = S.1 c i) → zMi l Gr (zc n w) 168 M_Mo_lengthOf d [.ref 105, .int (nI f), .int (nI r)] X (fun v S' => v = nI (lnF own av Dm ob f r) ∧ S' = X) := fun X hX => wm_len hn.2 hD (LNm_fr hN hX) m1 m4
  refine b_Mo_takeMessage_98 hg vt (by rw [ct, eI]; exact vp_in_nI (by omega) (by omega)) (hB _ (fun c i y1 y2 => by rw [zi_get, if_neg (by omega), zi_get, if_neg (by omega), zi_get, if_neg (by omega), fr1 c i (by omega) (by omega)])) (fun v S2 e => ?_)
  obtain ⟨rfl, e2⟩ := e
  rw [ct, eI, nI_clamp (by omega), r160, show nI (lg t).length + 1 = nI ((lg t).length + 1) from nI_add _ 1] at e2
  rw [ct, r161]
  have fr2 : ∀ c i, ¬ (c = 73 ∧ i = 139) → ¬ (c = 160 ∧ i = t) → ¬ ((c = 162 ∨ c = 163) ∧ i = 30060 * t + (lg t).length) → ¬ (164 ≤ c ∧ c ≤ 166) → S2.1 c i = S.1 c i := fun c i y1 y2 y3 y4 => by
    rw [e2, zi_get, if_neg y2, zi_get, if_neg (by omega), zi_get, if_neg (by omega), fr1 c i y1 y4]
  have f22 : ∀ c i, S2.2 c i = S.2 c i := fun c i => by
    rw [e2]
    exact f12 c i
  have hF2 : FLm (s.1.eraseIdx k) S2 := ⟨by rw [e2, zi_c (by decide), zi_c (by decide), zi_c (by decide)]; exact hF1.1, fun j m hj => by rw [e2, zi_c (by decide), zi_c (by decide), zi_c (by decide), zi_c (by decide), zi_c (by decide), zi_c (by decide), zi_c (by decide), zi_c (by decide), zi_c (by decide)]; exact hF1.2 j m hj⟩
  have hL2 : ∀ p, p < n → S2.1 160 p = nI (lgA lg t (f, t, r) p).length ∧ ∀ j m, (lgA lg t (f, t, r) p)[j]? = some m → S2.1 162 (30060 * p + j) = nI m.1 ∧ S2.1 163 (30060 * p + j) = nI m.2.2 := fun p hp => by
    obtain ⟨y1, y2, y3⟩ := hL p hp
    unfold lgA
    by_cases z : p = t
    · rw [if_pos z, z]
      refine ⟨by rw [e2, zi_v, List.length_append]; rfl, fun j m hj => ?_⟩
      rw [e2]
      rcases ap_at hj with ⟨q, hj'⟩ | ⟨rfl, rfl⟩
      · exact ⟨by rw [zi_c (by decide), zi_c (by decide), zi_k (by omega), fr1 162 _ (by omega) (by omega)]; exact (g3 j m hj').1, by rw [zi_c (by decide), zi_k (by omega), zi_c (by decide), fr1 163 _ (by omega) (by omega)]; exact (g3 j m hj').2⟩
      · exact ⟨by rw [zi_c (by decide), zi_c (by decide), zi_v], by rw [zi_c (by decide), zi_v]⟩
    · rw [if_neg z]
      have hlp : (lg p).length ≤ (n - 1) * 2002 := Nat.le_trans (hG p hp).2.1 (Nat.mul_le_mul_left _ (by omega))
      refine ⟨by rw [fr2 160 p (by omega) (by omega) (by omega) (by omega)]; exact y1, fun j m hj => ?_⟩
      have hjl : j < (lg p).length := (List.getElem?_eq_some_iff.mp hj).1
      rw [fr2 162 _ (by omega) (by omega) (by omega) (by omega), fr2 163 _ (by omega) (by omega) (by omega) (by omega)]
      exact y3 j m hj
  clear e2
  have r157 : S2.1 157 t = nI (s.2 t).1 := by rw [fr2 157 t (by omega) (by omega) (by omega) (by omega)]; exact (hA.2 t m2).1
  have r158 : S2.1 158 t = nI (s.2 t).2.1 := by rw [fr2 158 t (by omega) (by omega) (by omega) (by omega)]; exact (hA.2 t m2).2.1
  have r159 : S2.1 159 t = nI (s.2 t).2.2 := by rw [fr2 159 t (by omega) (by omega) (by omega) (by omega)]; exact (hA.2 t m2).2.2
  have eT : (pTake k f t r s).2 t = (if r = (s.2 t).1 then ((s.2 t).1, (s.2 t).2.1 + 1, (s.2 t).2.2) else ((s.2 t).1, (s.2 t).2.1, (s.2 t).2.2 + 1)) := if_pos rfl
  have eq : ∀ q, ¬ q = t → (pTake k f t r s).2 q = s.2 q := fun q hq => if_neg hq
  have eA : ((pTake k f t r s).2 t).1 = (s.2 t).1 := by
    rw [eT]
    split <;> rfl
  have b66 := PIv_le hP m2
  have last : ∀ S5 (a b : Nat), a = ((pTake k f t r s).2 t).2.1 → b = ((pTake k f t r s).2 t).2.2 → S5 = zi (zi (zi (zi (zi S2 161 t (nI (lnS own av Dm ob (lg t)) + nI (lnF own av Dm ob f r))) 73 140 (S2.1 73 140 + 1)) 158 t (nI a)) 159 t (nI b)) 73 131 0 → zW l Gr (zc n w) 168 M_Mo_takeMessage (d + 1) 226 [some (.ref 105), none, none, some (.int (nI t)), none, none] [] S5 (fun v S' => ∃ x, v = some (.int x) ∧ x = nI (goF n Dm t (Dm + 2 - (s.2 t).1) (pTake k f t r s)).2 ∧ PAm n (goF n Dm t (Dm + 2 - (s.2 t).1) (pTake k f t r s)).1 S' ∧ LGm n Dm own av ob (lgA lg t (f, t, r)) S' ∧ S'.1 73 140 = S.1 73 140 + 1 ∧ FBm S S') := fun S5 a b ha hb e5 => by
    have f5 : ∀ c i, ¬ (c = 161 ∧ i = t) → ¬ (c = 73 ∧ (i = 140 ∨ i = 131)) → ¬ (c = 158 ∧ i = t) → ¬ (c = 159 ∧ i = t) → S5.1 c i = S2.1 c i := fun c i y1 y2 y3 y4 => by
      rw [e5, zi_get, if_neg (by omega), zi_get, if_neg y4, zi_get, if_neg y3, zi_get, if_neg (by omega), zi_get, if_neg y1]
    have r161' : S5.1 161 t = nI (lnS own av Dm ob (lg t ++ [(f, t, r)])) := by
      rw [e5, zi_c (by decide), zi_c (by decide), zi_c (by decide), zi_c (by decide), zi_v, lnS_ap, nI_add]
    have r140 : S5.1 73 140 = S.1 73 140 + 1 := by
      rw [e5, zi_k (by decide), zi_c (by decide), zi_c (by decide), zi_v, fr2 73 140 (by omega) (by omega) (by omega) (by omega)]
    have hF5 : FLm (s.1.eraseIdx k) S5 := ⟨by rw [f5 73 139 (by omega) (by omega) (by omega) (by omega)]; exact hF2.1, fun j m hj => by rw [f5 164 j (by omega) (by omega) (by omega) (by omega), f5 165 j (by omega) (by omega) (by omega) (by omega), f5 166 j (by omega) (by omega) (by omega) (by omega)]; exact hF2.2 j m hj⟩
    have hA5 : PAm n (pTake k f t r s) S5 := ⟨hF5, fun p hp => by
      by_cases z : p = t
      · rw [z, eA, ← ha, ← hb]
        exact ⟨by rw [f5 157 t (by omega) (by omega) (by omega) (by omega)]; exact r157, by rw [e5, zi_c (by decide), zi_c (by decide), zi_v], by rw [e5, zi_c (by decide), zi_v]⟩
      · rw [eq p z, f5 157 p (by omega) (by omega) (by omega) (by omega), f5 158 p (by omega) (by omega) (by omega) (by omega), f5 159 p (by omega) (by omega) (by omega) (by omega), fr2 157 p (by omega) (by omega) (by omega) (by omega), fr2 158 p (by omega) (by omega) (by omega) (by omega), fr2 159 p (by omega) (by omega) (by omega) (by omega)]
        exact hA.2 p hp⟩
    refine tm_226 hg hn m2 hD (Dm + 2 - (s.2 t).1) 0 (pTake k f t r s) S5 (by rw [eA]; omega) hT hA5 (by rw [e5, zi_v]; rfl) (by rw [f5 73 68 (by omega) (by omega) (by omega) (by omega), fr2 73 68 (by omega) (by omega) (by omega) (by omega)]; exact hN.1) (fun S' c1 c2 => ⟨_, rfl, by rw [Nat.zero_add], c1, fun p hp => ?_, ?_, fun c i y1 y2 => ?_, fun c i => ?_⟩)
    · obtain ⟨y1, y2⟩ := hL2 p hp
      refine ⟨by rw [c2.1 160 p (by omega) (by omega) (by omega), f5 160 p (by omega) (by omega) (by omega) (by omega)]; exact y1, ?_, fun j m hj => ?_⟩
      · rw [c2.1 161 p (by omega) (by omega) (by omega)]
        unfold lgA
        by_cases z : p = t
        · rw [if_pos z, z]
          exact r161'
        · rw [if_neg z, f5 161 p (by omega) (by omega) (by omega) (by omega), fr2 161 p (by omega) (by omega) (by omega) (by omega)]
          exact (hL p hp).2.1
      · rw [c2.1 162 _ (by omega) (by omega) (by omega), c2.1 163 _ (by omega) (by omega) (by omega), f5 162 _ (by omega) (by omega) (by omega) (by omega), f5 163 _ (by omega) (by omega) (by omega) (by omega)]
        exact y2 j m hj
    · rw [c2.1 73 140 (by omega) (by omega) (by omega)]
      exact r140
    · rw [c2.1 c i (by omega) (by omega) (by omega), f5 c i (by omega) (by omega) (by omega) (by omega), fr2 c i (by omega) (by omega) (by omega) (by omega)]
    · rw [c2.2 c i, e5]
      exact f22 c i
  refine b_Mo_takeMessage_159 vt vt (fun y => b_Mo_takeMessage_193 (b_Mo_takeMessage_194 vt vt (fun y2 => b_Mo_takeMessage_218 (b_Mo_takeMessage_219 vt ?_)) (fun y2 => absurd ?_ y))) (fun y => b_Mo_takeMessage_189 (b_Mo_takeMessage_194 vt vt (fun y2 => absurd ?_ y2) (fun y2 => b_Mo_takeMessage_214 (b_Mo_takeMessage_219 vt ?_))))
  · rw [ct, r157] at y
    have y' : ¬ r = (s.2 t).1 := fun q => y (by rw [q])
    rw [if_neg y'] at eT
    refine last _ (s.2 t).2.1 ((s.2 t).2.2 + 1) (by rw [eT]) (by rw [eT]) ?_
    rw [ct, zi_c (by decide), zi_c (by decide), r158, r159, show nI (s.2 t).2.1 + 0 = nI (s.2 t).2.1 from Int32.add_zero _, show nI (s.2 t).2.2 + 1 = nI ((s.2 t).2.2 + 1) from nI_add _ 1]
  · rw [ct, zi_c (by decide), zi_c (by decide)] at y2
    rw [ct]
    exact y2
  · rw [ct, zi_c (by decide), zi_c (by decide)]
    rw [ct] at y
    exact y
  · rw [ct, r157] at y
    have y' : r = (s.2 t).1 := (nI_eq (by omega) (by omega)).mp y
    rw [if_pos y'] at eT
    refine last _ ((s.2 t).2.1 + 1) (s.2 t).2.2 (by rw [eT]) (by rw [eT]) ?_
    rw [ct, zi_c (by decide), zi_c (by decide), r158, r159, show nI (s.2 t).2.2 + 0 = nI (s.2 t).2.2 from Int32.add_zero _, show nI (s.2 t).2.1 + 1 = nI ((s.2 t).2.1 + 1) from nI_add _ 1]
end TKM
