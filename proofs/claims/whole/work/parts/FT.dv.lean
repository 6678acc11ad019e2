/-! deliver() and rush() on both -/
/-- message k is delivered: rounds and messages behind it, how many were sent -/
def dlF (n Dm k : Nat) (z : (List (Nat × Nat × Nat) × (Nat → Nat × Nat × Nat)) × (Nat → List (Nat × Nat × Nat))) : ((List (Nat × Nat × Nat) × (Nat → Nat × Nat × Nat)) × (Nat → List (Nat × Nat × Nat))) × Nat := (((goF n Dm (z.1.1.getD k (0, 0, 0)).2.1 (Dm + 2 - (z.1.2 (z.1.1.getD k (0, 0, 0)).2.1).1) (pTake k (z.1.1.getD k (0, 0, 0)).1 (z.1.1.getD k (0, 0, 0)).2.1 (z.1.1.getD k (0, 0, 0)).2.2 z.1)).1, lgA z.2 (z.1.1.getD k (0, 0, 0)).2.1 (z.1.1.getD k (0, 0, 0))), (goF n Dm (z.1.1.getD k (0, 0, 0)).2.1 (Dm + 2 - (z.1.2 (z.1.1.getD k (0, 0, 0)).2.1).1) (pTake k (z.1.1.getD k (0, 0, 0)).1 (z.1.1.getD k (0, 0, 0)).2.1 (z.1.1.getD k (0, 0, 0)).2.2 z.1)).2)
def rsF (n Dm b : Nat) : Nat → (List (Nat × Nat × Nat) × (Nat → Nat × Nat × Nat)) × (Nat → List (Nat × Nat × Nat)) → ((List (Nat × Nat × Nat) × (Nat → Nat × Nat × Nat)) × (Nat → List (Nat × Nat × Nat))) × Nat
  | 0, z => (z, 0)
  | m + 1, z => if z.1.1.length = 0 then (z, 0) else ((rsF n Dm b m (dlF n Dm (b % z.1.1.length) z).1).1, (rsF n Dm b m (dlF n Dm (b % z.1.1.length) z).1).2 + 1)
def RZc (n Dm : Nat) (own av : Nat → Nat) (ob : Nat) (z : (List (Nat × Nat × Nat) × (Nat → Nat × Nat × Nat)) × (Nat → List (Nat × Nat × Nat))) (S : zS) : Prop := LNc n Dm own av ob S ∧ PAc n z.1 S ∧ LGc n Dm own av ob z.2 S ∧ S.1 65 12 = nI (dnF Dm z.1 n)
def RZm (n Dm : Nat) (own av : Nat → Nat) (ob : Nat) (z : (List (Nat × Nat × Nat) × (Nat → Nat × Nat × Nat)) × (Nat → List (Nat × Nat × Nat))) (S : zS) : Prop := LNm n Dm own av ob S ∧ PAm n z.1 S ∧ LGm n Dm own av ob z.2 S
/-- what deliver() and rush() leave -/
def FRs (S S' : zS) : Prop := (∀ c k, ¬ (c = 65 ∧ (10 ≤ k ∧ k ≤ 12)) → ¬ (66 ≤ c ∧ c ≤ 72) → ¬ (c = 73 ∧ (k = 131 ∨ k = 139 ∨ k = 140)) → ¬ (157 ≤ c ∧ c ≤ 166) → S'.1 c k = S.1 c k) ∧ ∀ c k, S'.2 c k = S.2 c k
section DLV
variable {l : Launch} {Gr : zG} {n w d k Dm ob b : Nat} {own av : Nat → Nat} {S S' S0 : zS} {x1 x2 : Int32} {z : (List (Nat × Nat × Nat) × (Nat → Nat × Nat × Nat)) × (Nat → List (Nat × Nat × Nat))} {Q : Option Value → zS → Prop}
theorem gd_at {L : List (Nat × Nat × Nat)} (h : k < L.length) : L[k]? = some ((L.getD k (0, 0, 0)).1, (L.getD k (0, 0, 0)).2.1, (L.getD k (0, 0, 0)).2.2) := by
  rw [List.getD_eq_getElem?_getD, List.getElem?_eq_getElem h]
  rfl
theorem dl_Z (hP : PIv n Dm z.1) (hG : LGp n Dm z.1 z.2) (hk : k < z.1.1.length) : PIv n Dm (dlF n Dm k z).1.1 ∧ LGp n Dm (dlF n Dm k z).1.1 (dlF n Dm k z).1.2 := by
  have hm := gd_at hk
  have ht := (PIv_msg hP hm).2.1
  exact ⟨PIv_go ht _ _ (PIv_take hP hm), LGp_go ht _ _ (LGp_take hG hP hm)⟩
theorem w_dl (hg : ip_gk (lg_tbl, vwCl, Gr)) (hn : 2 ≤ n ∧ n ≤ 16) (hD : Dm ≤ 2000) (hP : PIv n Dm z.1) (hG : LGp n Dm z.1 z.2) (hZ : RZc n Dm own av ob z S) (hk : k < z.1.1.length) : zMi l Gr (zc n w) 168 M_Post_bring (d + 2) [.ref 97, .int (nI k)] S (fun v S' => v = nI (dlF n Dm k z).2 ∧ RZc n Dm own av ob (dlF n Dm k z).1 S' ∧ S'.1 65 11 = S.1 65 11 + 1 ∧ FBc S S') := by
  obtain ⟨_, S1, ⟨v, rfl, rfl, a1, a2, a3, a4, a5⟩, e⟩ := w_bring (l := l) (Gr := Gr) (w := w) (d := d) hg hn hD hZ.1 hP hZ.2.1 hG hZ.2.2.1 hZ.2.2.2 (gd_at hk)
  exact ⟨_, S1, ⟨_, rfl, rfl, ⟨LNc_fr hZ.1 (fun c k q => a5.1 c k (by omega) (by omega)), a1, a2, a3⟩, a4, a5⟩, e⟩
theorem wm_dl (hg : ip_gk (lg_tbl, vwCl, Gr)) (hn : 2 ≤ n ∧ n ≤ 16) (hD : Dm ≤ 2000) (hP : PIv n Dm z.1) (hG : LGp n Dm z.1 z.2) (hZ : RZm n Dm own av ob z S) (hk : k < z.1.1.length) : zMi l Gr (zc n w) 168 M_Mo_takeMessage (d + 1) [.ref 105, .int (nI k)] S (fun v S' => v = nI (dlF n Dm k z).2 ∧ RZm n Dm own av ob (dlF n Dm k z).1 S' ∧ S'.1 73 140 = S.1 73 140 + 1 ∧ FBm S S') := by
  obtain ⟨_, S1, ⟨v, rfl, rfl, a1, a2, a4, a5⟩, e⟩ := wm_take (l := l) (Gr := Gr) (w := w) (d := d) hg hn hD hZ.1 hP hZ.2.1 hG hZ.2.2 (gd_at hk)
  exact ⟨_, S1, ⟨_, rfl, rfl, ⟨LNm_fr hZ.1 a5.1, a1, a2⟩, a4, a5⟩, e⟩
theorem LNm_fr' (h : LNm n Dm own av ob S) (hf : ∀ c k, ¬ c < 73 → S'.1 c k = S.1 c k) : LNm n Dm own av ob S' := by
  obtain ⟨h68, h167, h155, h145⟩ := h
  exact ⟨by rw [hf 73 68 (by omega)]; exact h68, fun q hq => by rw [hf 167 q (by omega)]; exact h167 q hq, fun r q1 q2 => by rw [hf 155 _ (by omega), hf 155 _ (by omega)]; exact h155 r q1 q2, by rw [hf 73 145 (by omega)]; exact h145⟩
theorem go_sent {t : Nat} (ht : t < n) : ∀ fu s, (goF n Dm t fu s).2 ≤ fu * n
  | 0, s => Nat.zero_le _
  | fu + 1, s => by
    by_cases y : (s.2 t).2.1 = n - 1 ∧ (s.2 t).1 ≤ Dm + 1
    · rw [goF_go y]
      have h1 := go_sent ht fu (pStep n Dm t s)
      have h2 : (if (s.2 t).1 + 1 ≤ Dm + 1 then (sndL t ((s.2 t).1 + 1) n 0).length else 0) ≤ n := by
        split
        · rw [sndL_all ht]
          omega
        · exact Nat.zero_le _
      rw [Nat.succ_mul]
      show (if (s.2 t).1 + 1 ≤ Dm + 1 then (sndL t ((s.2 t).1 + 1) n 0).length else 0) + (goF n Dm t fu (pStep n Dm t s)).2 ≤ fu * n + n
      omega
    · rw [goF_no y]
      exact Nat.zero_le _
theorem dl_sent (hn : 2 ≤ n ∧ n ≤ 16) (hD : Dm ≤ 2000) (hP : PIv n Dm z.1) (hk : k < z.1.1.length) : (dlF n Dm k z).2 < 2 ^ 31 := by
  have ht := (PIv_msg hP (gd_at hk)).2.1
  have h := go_sent (Dm := Dm) ht (Dm + 2 - (z.1.2 (z.1.1.getD k (0, 0, 0)).2.1).1) (pTake k (z.1.1.getD k (0, 0, 0)).1 (z.1.1.getD k (0, 0, 0)).2.1 (z.1.1.getD k (0, 0, 0)).2.2 z.1)
  have h2 : (Dm + 2 - (z.1.2 (z.1.1.getD k (0, 0, 0)).2.1).1) * n ≤ 2002 * 16 := Nat.mul_le_mul (by omega) hn.2
  exact Nat.lt_of_le_of_lt (Nat.le_trans h h2) (by decide)
theorem RZm_fr (h : RZm n Dm own av ob z S) (hf : ∀ c k, ¬ c < 73 → S'.1 c k = S.1 c k) : RZm n Dm own av ob z S' := by
  obtain ⟨h1, ⟨⟨h2, h3⟩, h4⟩, h5⟩ := h
  refine ⟨LNm_fr' h1 hf, ⟨⟨by rw [hf 73 139 (by omega)]; exact h2, fun k m hk => by rw [hf 164 k (by omega), hf 165 k (by omega), hf 166 k (by omega)]; exact h3 k m hk⟩, fun p hp => by rw [hf 157 p (by omega), hf 158 p (by omega), hf 159 p (by omega)]; exact h4 p hp⟩, fun p hp => ?_⟩
  obtain ⟨y1, y2, y3⟩ := h5 p hp
  exact ⟨by rw [hf 160 p (by omega)]; exact y1, by rw [hf 161 p (by omega)]; exact y2, fun j m hj => by rw [hf 162 _ (by omega), hf 163 _ (by omega)]; exact y3 j m hj⟩
theorem RZc_fr (h : RZc n Dm own av ob z S) (hf : ∀ c k, c < 73 → S'.1 c k = S.1 c k) : RZc n Dm own av ob z S' := by
  obtain ⟨⟨h6, h23, h30, no, hno, h11, h31⟩, ⟨⟨h2, h3⟩, h4⟩, h5, h12⟩ := h
  refine ⟨⟨by rw [hf 24 6 (by omega)]; exact h6, fun q hq => by rw [hf 23 q (by omega)]; exact h23 q hq, fun r q1 q2 => by rw [hf 30 _ (by omega), hf 30 _ (by omega)]; exact h30 r q1 q2, no, hno, by rw [hf 24 11 (by omega)]; exact h11, by rw [hf 31 no (by omega)]; exact h31⟩, ⟨⟨by rw [hf 65 10 (by omega)]; exact h2, fun k m hk => by rw [hf 71 k (by omega)]; exact h3 k m hk⟩, fun p hp => by rw [hf 66 p (by omega), hf 69 p (by omega), hf 70 p (by omega)]; exact h4 p hp⟩, fun p hp => ?_, by rw [hf 65 12 (by omega)]; exact h12⟩
  obtain ⟨y1, y2, y3⟩ := h5 p hp
  exact ⟨by rw [hf 67 p (by omega)]; exact y1, by rw [hf 68 p (by omega)]; exact y2, fun j m hj => by rw [hf 72 _ (by omega)]; exact y3 j m hj⟩
/-- iPo by its state -/
theorem iPo_z (hD : Dm ≤ 2000) (hB : LNb n Dm own av ob) (hP : PIv n Dm z.1) (hG : LGp n Dm z.1 z.2) (hc : RZc n Dm own av ob z S) (hm : RZm n Dm own av ob z S) (h11 : S.1 65 11 = S.1 73 140) : iPo n S := ⟨Dm, own, av, ob, z.1, z.2, ⟨hD, hB⟩, hc.1, hm.1, hP, hG, hc.2.1, hm.2.1, hc.2.2.1, hm.2.2, hc.2.2.2, h11⟩
theorem cl_fly0 (h : S.1 0 15 = 0 ∨ x1 < 0 ∨ S.1 65 10 ≤ x1) : zMi l Gr (zc n w) 168 M_H_isFlying d [.ref 32, .int x1] S (fun v S' => v = 0 ∧ S' = S) := by
  have fin : zW l Gr (zc n w) 168 M_H_isFlying d 26 [none, none] [] S (fun v S' => ∃ x, v = some (.int x) ∧ (x = 0 ∨ x = 1) ∧ x = 0 ∧ S' = S) := b_H_isFlying_26 (b_H_isFlying_27 ⟨0, rfl, Or.inl rfl, rfl, rfl⟩)
  exact e_H_isFlying (b_H_isFlying_0 (fun _ => fin) (fun q1 => b_H_isFlying_7 (fun _ => fin) (fun q2 => b_H_isFlying_11 (fun _ => fin) (fun q3 => by
    rcases h with z | z | z
    · exact absurd z q1
    · exact absurd z q2
    · exact absurd z q3))))
theorem cl_fly1 (h1 : ¬ S.1 0 15 = 0) (h2 : ¬ x1 < 0) (h3 : ¬ S.1 65 10 ≤ x1) : zMi l Gr (zc n w) 168 M_H_isFlying d [.ref 32, .int x1] S (fun v S' => v = 1 ∧ S' = S) :=
  e_H_isFlying (b_H_isFlying_0 (fun z => absurd z h1) (fun _ => b_H_isFlying_7 (fun z => absurd z h2) (fun _ => b_H_isFlying_11 (fun z => absurd z h3) (fun _ => b_H_isFlying_22 (b_H_isFlying_27 ⟨1, rfl, Or.inr rfl, rfl, rfl⟩)))))
theorem cl_del0 (hg : ip_gk (lg_tbl, vwCl, Gr)) (h : S.1 0 15 = 0 ∨ x1 < 0 ∨ S.1 65 10 ≤ x1) : zMi l Gr (zc n w) 168 M_H_deliver (d + 1) [.ref 32, .int x1] S (fun v S' => v = -1 ∧ S' = S) := by
  refine e_H_deliver (b_H_deliver_0 hg (cl_fly0 h) (fun v S1 e => ?_))
  obtain ⟨rfl, rfl⟩ := e
  exact b_H_deliver_5 (fun _ => b_H_deliver_19 (b_H_deliver_20 ⟨_, rfl, rfl, rfl⟩)) (fun y => absurd rfl y)
theorem mo_del0 (h : x1 < 0 ∨ ¬ x1 < S.1 73 139) : zMi l Gr (zc n w) 168 M_Mo_deliver (d + 1) [.ref 105, .int x1] S (fun v S' => v = -1 ∧ S' = S) := by
  have fin : zW l Gr (zc n w) 168 M_Mo_deliver (d + 1) 12 [none, none] [] S (fun v S' => ∃ x, v = some (.int x) ∧ x = -1 ∧ S' = S) := b_Mo_deliver_12 (b_Mo_deliver_21 ⟨_, rfl, rfl, rfl⟩)
  exact e_Mo_deliver (b_Mo_deliver_0 (fun _ => fin) (fun q1 => b_Mo_deliver_4 (fun q2 => by
    rcases h with z | z
    · exact absurd z q1
    · exact absurd q2 z) (fun _ => fin)))
theorem o_deliver (hg : ip_gk (lg_tbl, vwCl, Gr)) (hn : 2 ≤ n ∧ n ≤ 16) (h : (S.1 0 15 = 0 ∧ S.1 73 139 = 0) ∨ (S.1 0 15 = 1 ∧ iPo n S)) : oTw l Gr n w (d + 3) M_H_deliver M_Mo_deliver [.int x1] S (fun X => X = S ∨ (S.1 0 15 = 1 ∧ iPo n X ∧ FRs S X)) := by
  have none : (S.1 0 15 = 0 ∨ x1 < 0 ∨ S.1 65 10 ≤ x1) → (x1 < 0 ∨ ¬ x1 < S.1 73 139) → oTw l Gr n w (d + 3) M_H_deliver M_Mo_deliver [.int x1] S (fun X => X = S ∨ (S.1 0 15 = 1 ∧ iPo n X ∧ FRs S X)) := fun h1 h2 => by
    obtain ⟨_, S1, ⟨v, rfl, rfl, rfl⟩, e1⟩ := cl_del0 (l := l) (Gr := Gr) (n := n) (w := w) (d := d + 2) hg h1
    obtain ⟨_, S2, ⟨v, rfl, rfl, rfl⟩, e2⟩ := mo_del0 (l := l) (Gr := Gr) (n := n) (w := w) (d := d + 2) h2
    exact ⟨-1, _, e1, _, e2, Or.inl rfl⟩
  rcases h with ⟨h15, h139⟩ | ⟨h15, Dm, own, av, ob, s, lg, ⟨hD, hB⟩, n1, n2, hP, hG, p1, p2, g1, g2, h12, h11⟩
  · refine none (Or.inl h15) ?_
    by_cases z : x1 < 0
    · exact Or.inl z
    · rw [h139]
      exact Or.inr z
  · have hR := Nat.le_trans (PIv_room hP) (rm_480 hn.2)
    by_cases z1 : x1 < 0
    · exact none (Or.inr (Or.inl z1)) (Or.inl z1)
    · obtain ⟨k, hk, rfl⟩ := nI_of z1
      by_cases zk : k < s.1.length
      · have hc : RZc n Dm own av ob (s, lg) S := ⟨n1, p1, g1, h12⟩
        have hm : RZm n Dm own av ob (s, lg) S := ⟨n2, p2, g2⟩
        have hZ := dl_Z (z := (s, lg)) hP hG zk
        have cA : zMi l Gr (zc n w) 168 M_H_deliver (d + 3) [.ref 32, .int (nI k)] S (fun v S' => v = nI (dlF n Dm k (s, lg)).2 ∧ RZc n Dm own av ob (dlF n Dm k (s, lg)).1 S' ∧ S'.1 65 11 = S.1 65 11 + 1 ∧ FBc S S') := by
          refine e_H_deliver (b_H_deliver_0 hg (cl_fly1 (by rw [h15]; decide) z1 (by rw [p1.1.1]; exact nI_ge (by omega) (by omega))) (fun v S1 e => ?_))
          obtain ⟨rfl, rfl⟩ := e
          refine b_H_deliver_5 (fun y => absurd y (by decide)) (fun _ => b_H_deliver_8 hg (w_dl (z := (s, lg)) hg hn hD hP hG hc zk) (fun v S2 e => b_H_deliver_16 (b_H_deliver_20 ⟨_, rfl, e⟩)))
        obtain ⟨_, S1, ⟨v, rfl, rfl, a1, a2, a3⟩, e1⟩ := cA
        have hm1 : RZm n Dm own av ob (s, lg) S1 := RZm_fr hm (fun c i q => a3.1 c i (by omega) (by omega))
        have cB : zMi l Gr (zc n w) 168 M_Mo_deliver (d + 3) [.ref 105, .int (nI k)] S1 (fun v S' => v = nI (dlF n Dm k (s, lg)).2 ∧ RZm n Dm own av ob (dlF n Dm k (s, lg)).1 S' ∧ S'.1 73 140 = S1.1 73 140 + 1 ∧ FBm S1 S') := by
          refine e_Mo_deliver (b_Mo_deliver_0 (fun y => absurd y z1) (fun _ => b_Mo_deliver_4 (fun _ => b_Mo_deliver_16 hg (wm_dl (z := (s, lg)) hg hn hD hP hG hm1 zk) (fun v S2 e => b_Mo_deliver_21 ⟨_, rfl, e⟩)) (fun y => absurd (by rw [hm1.2.1.1.1]; show nI k < nI s.1.length; exact (nI_ltI (by omega) (by omega)).mpr zk) y)))
        obtain ⟨_, S2, ⟨v, rfl, rfl, b1, b2, b3⟩, e2⟩ := cB
        refine ⟨_, S1, e1, S2, e2, Or.inr ⟨h15, iPo_z hD hB hZ.1 hZ.2 (RZc_fr a1 (fun c i q => b3.1 c i (by omega) (by omega))) b1 ?_, fun c i q1 q2 q3 q4 => ?_, fun c i => (b3.2 c i).trans (a3.2 c i)⟩⟩
        · rw [b3.1 65 11 (by omega) (by omega), a2, b2, a3.1 73 140 (by omega) (by omega), h11]
        · rw [b3.1 c i q3 q4, a3.1 c i q1 q2]
      · exact none (Or.inr (Or.inr (by rw [p1.1.1]; exact nI_le (by omega) (by omega)))) (Or.inr (by rw [p2.1.1]; exact fun y => zk ((nI_ltI (by omega) (by omega)).mp y)))
theorem rs_19 (hg : ip_gk (lg_tbl, vwCl, Gr)) (hn : 2 ≤ n ∧ n ≤ 16) (hD : Dm ≤ 2000) (hb : b < 2 ^ 31) {M : Nat} (hM : M ≤ 100000) : ∀ m i z S, i + m = M → PIv n Dm z.1 → LGp n Dm z.1 z.2 → RZc n Dm own av ob z S → S.1 0 15 = 1 → (∀ S', RZc n Dm own av ob (rsF n Dm b m z).1 S' → S'.1 65 11 = S.1 65 11 + nI (rsF n Dm b m z).2 → FBc S S' → Q (some (.int (nI (i + (rsF n Dm b m z).2)))) S') → zW l Gr (zc n w) 168 M_H_rush (d + 3) 19 [some (.ref 32), some (.int (nI M)), some (.int (nI b)), some (.int (nI i))] [] S Q
  | 0, i, z, S, h, hP, hG, hZ, h15, kk => by
    refine b_H_rush_19 (fun _ => b_H_rush_64 (kk S hZ ?_ ⟨fun _ _ _ _ => rfl, fun _ _ => rfl⟩)) (fun y => absurd (nI_le (by omega) (by omega)) y)
    exact (Int32.add_zero _).symm
  | m + 1, i, z, S, h, hP, hG, hZ, h15, kk => by
    have hR := Nat.le_trans (PIv_room hP) (rm_480 hn.2)
    have e10 : S.1 65 10 = nI z.1.1.length := hZ.2.1.1.1
    refine b_H_rush_19 (fun y => absurd y (nI_ge (by omega) (by omega))) (fun _ => b_H_rush_24 (fun y => absurd y (by rw [h15]; decide)) (fun _ => b_H_rush_31 (fun y => b_H_rush_64 ?_) (fun y => ?_)))
    · rw [e10] at y
      have y' : z.1.1.length = 0 := by have := (nI_leI (b := 0) (by omega) (by omega)).mp y; omega
      have e : rsF n Dm b (m + 1) z = (z, 0) := if_pos y'
      rw [e] at kk
      exact kk S hZ (Int32.add_zero _).symm ⟨fun _ _ _ _ => rfl, fun _ _ => rfl⟩
    · rw [e10] at y
      have y' : ¬ z.1.1.length = 0 := fun q => y (by rw [q]; decide)
      have e : rsF n Dm b (m + 1) z = ((rsF n Dm b m (dlF n Dm (b % z.1.1.length) z).1).1, (rsF n Dm b m (dlF n Dm (b % z.1.1.length) z).1).2 + 1) := if_neg y'
      rw [e] at kk
      have hk : b % z.1.1.length < z.1.1.length := Nat.mod_lt _ (by omega)
      have er : nI b - nI b / S.1 65 10 * S.1 65 10 = nI (b % z.1.1.length) := by rw [e10]; exact pk_rem hb (by omega) (by omega)
      refine b_H_rush_41 hg (by rw [e10]; exact fun q => y' ((nI_eq (b := 0) (by omega) (by omega)).mp q)) (by rw [er]; exact w_dl hg hn hD hP hG hZ hk) (fun v S1 e1 => ?_)
      obtain ⟨rfl, a1, a2, a3⟩ := e1
      obtain ⟨q1, q2⟩ := dl_Z hP hG hk
      refine b_H_rush_57 ?_
      rw [show nI i + Int32.ofInt 1 = nI (i + 1) from nI_add i 1]
      refine rs_19 hg hn hD hb hM m (i + 1) _ S1 (by omega) q1 q2 a1 (by rw [a3.1 0 15 (by omega) (by omega)]; exact h15) (fun S' c1 c2 c3 => ?_)
      have k' := kk S' c1 (by rw [c2, a2, ← nI_add, Int32.add_assoc, Int32.add_comm 1]; rfl) ⟨fun c k q1 q2 => (c3.1 c k q1 q2).trans (a3.1 c k q1 q2), fun c k => (c3.2 c k).trans (a3.2 c k)⟩
      rw [show i + ((rsF n Dm b m (dlF n Dm (b % z.1.1.length) z).1).2 + 1) = i + 1 + (rsF n Dm b m (dlF n Dm (b % z.1.1.length) z).1).2 by omega] at k'
      exact k'
theorem rm_19 (hg : ip_gk (lg_tbl, vwCl, Gr)) (hn : 2 ≤ n ∧ n ≤ 16) (hD : Dm ≤ 2000) (hb : b < 2 ^ 31) {M : Nat} (hM : M ≤ 100000) : ∀ m i z S, i + m = M → PIv n Dm z.1 → LGp n Dm z.1 z.2 → RZm n Dm own av ob z S → (∀ S', RZm n Dm own av ob (rsF n Dm b m z).1 S' → S'.1 73 140 = S.1 73 140 + nI (rsF n Dm b m z).2 → FBm S S' → Q (some (.int (nI (i + (rsF n Dm b m z).2)))) S') → zW l Gr (zc n w) 168 M_Mo_rush (d + 3) 19 [some (.ref 105), some (.int (nI M)), some (.int (nI b)), some (.int (nI i)), none] [] S Q
  | 0, i, z, S, h, hP, hG, hZ, kk => by
    refine b_Mo_rush_19 (fun _ => b_Mo_rush_59 (kk S hZ ?_ ⟨fun _ _ _ _ => rfl, fun _ _ => rfl⟩)) (fun y => absurd (nI_le (by omega) (by omega)) y)
    exact (Int32.add_zero _).symm
  | m + 1, i, z, S, h, hP, hG, hZ, kk => by
    have hR := Nat.le_trans (PIv_room hP) (rm_480 hn.2)
    have e10 : S.1 73 139 = nI z.1.1.length := hZ.2.1.1.1
    refine b_Mo_rush_19 (fun y => absurd y (nI_ge (by omega) (by omega))) (fun _ => b_Mo_rush_24 (fun y => b_Mo_rush_59 ?_) (fun y => ?_))
    · rw [e10] at y
      have y' : z.1.1.length = 0 := by have := (nI_leI (b := 0) (by omega) (by omega)).mp y; omega
      have e : rsF n Dm b (m + 1) z = (z, 0) := if_pos y'
      rw [e] at kk
      exact kk S hZ (Int32.add_zero _).symm ⟨fun _ _ _ _ => rfl, fun _ _ => rfl⟩
    · rw [e10] at y
      have y' : ¬ z.1.1.length = 0 := fun q => y (by rw [q]; decide)
      have e : rsF n Dm b (m + 1) z = ((rsF n Dm b m (dlF n Dm (b % z.1.1.length) z).1).1, (rsF n Dm b m (dlF n Dm (b % z.1.1.length) z).1).2 + 1) := if_neg y'
      rw [e] at kk
      have hk : b % z.1.1.length < z.1.1.length := Nat.mod_lt _ (by omega)
      have er : nI b - nI b / S.1 73 139 * S.1 73 139 = nI (b % z.1.1.length) := by rw [e10]; exact pk_rem hb (by omega) (by omega)
      obtain ⟨q1, q2⟩ := dl_Z hP hG hk
      have hs : (dlF n Dm (b % z.1.1.length) z).2 < 2 ^ 31 := dl_sent hn hD hP hk
      refine b_Mo_rush_31 hg (by rw [e10]; exact fun q => y' ((nI_eq (b := 0) (by omega) (by omega)).mp q)) (by rw [er]; exact wm_dl hg hn hD hP hG hZ hk) (fun v S1 e1 => ?_)
      obtain ⟨rfl, a1, a2, a3⟩ := e1
      refine b_Mo_rush_41 (fun q => absurd q (nI_pos hs)) (fun _ => b_Mo_rush_49 (b_Mo_rush_54 ?_))
      rw [show nI i + 1 = nI (i + 1) from nI_add i 1]
      refine rm_19 hg hn hD hb hM m (i + 1) _ S1 (by omega) q1 q2 a1 (fun S' c1 c2 c3 => ?_)
      have k' := kk S' c1 (by rw [c2, a2, ← nI_add, Int32.add_assoc, Int32.add_comm 1]; rfl) ⟨fun c k q1 q2 => (c3.1 c k q1 q2).trans (a3.1 c k q1 q2), fun c k => (c3.2 c k).trans (a3.2 c k)⟩
      rw [show i + ((rsF n Dm b m (dlF n Dm (b % z.1.1.length) z).1).2 + 1) = i + 1 + (rsF n Dm b m (dlF n Dm (b % z.1.1.length) z).1).2 by omega] at k'
      exact k'
theorem rs_Z : ∀ m z, PIv n Dm z.1 → LGp n Dm z.1 z.2 → PIv n Dm (rsF n Dm b m z).1.1 ∧ LGp n Dm (rsF n Dm b m z).1.1 (rsF n Dm b m z).1.2
  | 0, z, h1, h2 => ⟨h1, h2⟩
  | m + 1, z, h1, h2 => by
    by_cases y : z.1.1.length = 0
    · have e : rsF n Dm b (m + 1) z = (z, 0) := if_pos y
      rw [e]
      exact ⟨h1, h2⟩
    · have e : rsF n Dm b (m + 1) z = ((rsF n Dm b m (dlF n Dm (b % z.1.1.length) z).1).1, (rsF n Dm b m (dlF n Dm (b % z.1.1.length) z).1).2 + 1) := if_neg y
      rw [e]
      obtain ⟨q1, q2⟩ := dl_Z h1 h2 (Nat.mod_lt b (show z.1.1.length > 0 by omega))
      exact rs_Z m _ q1 q2
theorem o_rush (hg : ip_gk (lg_tbl, vwCl, Gr)) (hn : 2 ≤ n ∧ n ≤ 16) (h : (S.1 0 15 = 0 ∧ S.1 73 139 = 0) ∨ (S.1 0 15 = 1 ∧ iPo n S)) : oTw l Gr n w (d + 3) M_H_rush M_Mo_rush [.int x1, .int x2] S (fun X => X = S ∨ (S.1 0 15 = 1 ∧ iPo n X ∧ FRs S X)) := by
  have same : ∀ v : Int32, zMi l Gr (zc n w) 168 M_H_rush (d + 3) [.ref 32, .int x1, .int x2] S (fun y S' => y = v ∧ S' = S) → zMi l Gr (zc n w) 168 M_Mo_rush (d + 3) [.ref 105, .int x1, .int x2] S (fun y S' => y = v ∧ S' = S) → oTw l Gr n w (d + 3) M_H_rush M_Mo_rush [.int x1, .int x2] S (fun X => X = S ∨ (S.1 0 15 = 1 ∧ iPo n X ∧ FRs S X)) := fun v h1 h2 => by
    obtain ⟨_, S1, ⟨y, rfl, rfl, rfl⟩, e1⟩ := h1
    obtain ⟨_, S2, ⟨y, rfl, rfl, rfl⟩, e2⟩ := h2
    exact ⟨_, _, e1, _, e2, Or.inl rfl⟩
  have c15 : zW l Gr (zc n w) 168 M_H_rush (d + 3) 15 [none, none, none, none] [] S (fun v S' => ∃ x, v = some (.int x) ∧ x = -1 ∧ S' = S) := b_H_rush_15 ⟨_, rfl, rfl, rfl⟩
  have m15 : zW l Gr (zc n w) 168 M_Mo_rush (d + 3) 15 [none, none, none, none, none] [] S (fun v S' => ∃ x, v = some (.int x) ∧ x = -1 ∧ S' = S) := b_Mo_rush_15 ⟨_, rfl, rfl, rfl⟩
  by_cases z1 : x1 < 0
  · exact same (-1) (e_H_rush (b_H_rush_0 (fun _ => c15) (fun y => absurd z1 y))) (e_Mo_rush (b_Mo_rush_0 (fun _ => m15) (fun y => absurd z1 y)))
  · by_cases z2 : x2 < 0
    · exact same (-1) (e_H_rush (b_H_rush_0 (fun y => absurd y z1) (fun _ => b_H_rush_4 (fun _ => c15) (fun y => absurd z2 y)))) (e_Mo_rush (b_Mo_rush_0 (fun y => absurd y z1) (fun _ => b_Mo_rush_4 (fun _ => m15) (fun y => absurd z2 y))))
    · by_cases z3 : x1 ≤ 100000
      · obtain ⟨M, hM, rfl⟩ := nI_of2 (M := nI 100000) (n := 100000) (nI_toInt (by omega)) z1 z3
        obtain ⟨b, hb, rfl⟩ := nI_of z2
        have cH : ∀ {P : Int32 → zS → Prop}, zW l Gr (zc n w) 168 M_H_rush (d + 3) 19 [some (.ref 32), some (.int (nI M)), some (.int (nI b)), some (.int (nI 0))] [] S (fun v S' => ∃ x, v = some (.int x) ∧ P x S') → zMi l Gr (zc n w) 168 M_H_rush (d + 3) [.ref 32, .int (nI M), .int (nI b)] S P := fun h => e_H_rush (b_H_rush_0 (fun y => absurd y z1) (fun _ => b_H_rush_4 (fun y => absurd y z2) (fun _ => b_H_rush_8 (fun _ => b_H_rush_17 h) (fun y => absurd z3 y))))
        have cM : ∀ {T : zS} {P : Int32 → zS → Prop}, zW l Gr (zc n w) 168 M_Mo_rush (d + 3) 19 [some (.ref 105), some (.int (nI M)), some (.int (nI b)), some (.int (nI 0)), none] [] T (fun v S' => ∃ x, v = some (.int x) ∧ P x S') → zMi l Gr (zc n w) 168 M_Mo_rush (d + 3) [.ref 105, .int (nI M), .int (nI b)] T P := fun h => e_Mo_rush (b_Mo_rush_0 (fun y => absurd y z1) (fun _ => b_Mo_rush_4 (fun y => absurd y z2) (fun _ => b_Mo_rush_8 (fun _ => b_Mo_rush_17 h) (fun y => absurd z3 y))))
        rcases h with ⟨h15, h139⟩ | ⟨h15, Dm, own, av, ob, s, lg, ⟨hD, hB⟩, n1, n2, hP, hG, p1, p2, g1, g2, h12, h11⟩
        · exact same 0 (cH (b_H_rush_19 (fun _ => b_H_rush_64 ⟨_, rfl, rfl, rfl⟩) (fun _ => b_H_rush_24 (fun _ => b_H_rush_64 ⟨_, rfl, rfl, rfl⟩) (fun y => absurd h15 y)))) (cM (b_Mo_rush_19 (fun _ => b_Mo_rush_59 ⟨_, rfl, rfl, rfl⟩) (fun _ => b_Mo_rush_24 (fun _ => b_Mo_rush_59 ⟨_, rfl, rfl, rfl⟩) (fun y => absurd (by rw [h139]; decide) y))))
        · have hc : RZc n Dm own av ob (s, lg) S := ⟨n1, p1, g1, h12⟩
          have hm : RZm n Dm own av ob (s, lg) S := ⟨n2, p2, g2⟩
          have hZ := rs_Z (b := b) M (s, lg) hP hG
          have cA : zMi l Gr (zc n w) 168 M_H_rush (d + 3) [.ref 32, .int (nI M), .int (nI b)] S (fun v S' => v = nI (rsF n Dm b M (s, lg)).2 ∧ RZc n Dm own av ob (rsF n Dm b M (s, lg)).1 S' ∧ S'.1 65 11 = S.1 65 11 + nI (rsF n Dm b M (s, lg)).2 ∧ FBc S S') := cH (rs_19 hg hn hD hb hM M 0 (s, lg) S (by omega) hP hG hc h15 (fun S' a1 a2 a3 => ⟨_, rfl, by rw [Nat.zero_add], a1, a2, a3⟩))
          obtain ⟨_, S1, ⟨v, rfl, rfl, a1, a2, a3⟩, e1⟩ := cA
          have hm1 : RZm n Dm own av ob (s, lg) S1 := RZm_fr hm (fun c i q => a3.1 c i (by omega) (by omega))
          have cB : zMi l Gr (zc n w) 168 M_Mo_rush (d + 3) [.ref 105, .int (nI M), .int (nI b)] S1 (fun v S' => v = nI (rsF n Dm b M (s, lg)).2 ∧ RZm n Dm own av ob (rsF n Dm b M (s, lg)).1 S' ∧ S'.1 73 140 = S1.1 73 140 + nI (rsF n Dm b M (s, lg)).2 ∧ FBm S1 S') := cM (rm_19 hg hn hD hb hM M 0 (s, lg) S1 (by omega) hP hG hm1 (fun S' a1 a2 a3 => ⟨_, rfl, by rw [Nat.zero_add], a1, a2, a3⟩))
          obtain ⟨_, S2, ⟨v, rfl, rfl, b1, b2, b3⟩, e2⟩ := cB
          refine ⟨_, S1, e1, S2, e2, Or.inr ⟨h15, iPo_z hD hB hZ.1 hZ.2 (RZc_fr a1 (fun c i q => b3.1 c i (by omega) (by omega))) b1 ?_, fun c i q1 q2 q3 q4 => ?_, fun c i => (b3.2 c i).trans (a3.2 c i)⟩⟩
          · rw [b3.1 65 11 (by omega) (by omega), a2, b2, a3.1 73 140 (by omega) (by omega), h11]
          · rw [b3.1 c i q3 q4, a3.1 c i q1 q2]
      · exact same (-1) (e_H_rush (b_H_rush_0 (fun y => absurd y z1) (fun _ => b_H_rush_4 (fun y => absurd y z2) (fun _ => b_H_rush_8 (fun y => absurd y z3) (fun _ => c15))))) (e_Mo_rush (b_Mo_rush_0 (fun y => absurd y z1) (fun _ => b_Mo_rush_4 (fun y => absurd y z2) (fun _ => b_Mo_rush_8 (fun y => absurd y z3) (fun _ => m15)))))
end DLV
