/-! message() on both -/
section MSS
variable {l : Launch} {Gr : zG} {n w d f t r i Dm ob : Nat} {own av : Nat → Nat} {S S' : zS} {x1 x2 : Int32} {Q : Option Value → zS → Prop}
theorem lnF_le (hB : LNb n Dm own av ob) (hf : f < n) (hr : r ≤ Dm + 1) : lnF own av Dm ob f r ≤ 80000 := by
  unfold lnF
  by_cases z : r = 0
  · rw [if_pos z]
    have := hB.1 f hf
    omega
  · rw [if_neg z]
    by_cases y : r ≤ Dm
    · rw [if_pos y]
      have := hB.2.1 r (by omega) y
      omega
    · rw [if_neg y]
      have := hB.2.2
      omega
theorem ro_message (hg : ip_gk (lg_tbl, vwCl, Gr)) (hn : 2 ≤ n ∧ n ≤ 16) (hw : 1 ≤ w ∧ w ≤ 32) (h : iDl n w S) : roI l Gr n w (d + 3) M_H_message M_Mo_message [.int x1, .int x2] S := by
  have c0 : (S.1 0 15 = 0 ∨ x1 < 0 ∨ S.1 65 10 ≤ x1) → zMi l Gr (zc n w) 168 M_H_message (d + 3) [.ref 32, .int x1, .int x2] S (fun v S' => v = -1 ∧ S' = S) := fun q => by
    refine e_H_message (b_H_message_0 hg (cl_fly0 q) (fun v S1 e => ?_))
    obtain ⟨rfl, rfl⟩ := e
    exact b_H_message_5 (fun y => absurd rfl y) (fun _ => b_H_message_8 ⟨_, rfl, rfl, rfl⟩)
  have m16 : zW l Gr (zc n w) 168 M_Mo_message (d + 3) 16 [none, none, none, none] [] S (fun v S' => ∃ x, v = some (.int x) ∧ x = -1 ∧ S' = S) := b_Mo_message_16 ⟨_, rfl, rfl, rfl⟩
  have m0 : (x1 < 0 ∨ S.1 73 139 ≤ x1) → zMi l Gr (zc n w) 168 M_Mo_message (d + 3) [.ref 105, .int x1, .int x2] S (fun v S' => v = -1 ∧ S' = S) := fun q => e_Mo_message (b_Mo_message_0 (fun _ => m16) (fun y => b_Mo_message_4 (fun _ => m16) (fun y2 => by
    rcases q with z | z
    · exact absurd z y
    · exact absurd z y2)))
  rcases h with ⟨h15, h124, h139, h140⟩ | ⟨h15, h124, h14, h83, hC, ⟨Dm, own, av, ob, s, lg, ⟨hD, hB⟩, n1, n2, hP, hG, p1, p2, g1, g2, h12, h11⟩, hS⟩
  · refine ro_i (x := -1) (c0 (Or.inl h15)) (m0 ?_)
    by_cases z : x1 < 0
    · exact Or.inl z
    · rw [h139]
      exact Or.inr (Int32.not_lt.mp z)
  · have hR := PIv_room hP
    have hM := rm_480 hn.2
    by_cases z1 : x1 < 0
    · exact ro_i (x := -1) (c0 (Or.inr (Or.inl z1))) (m0 (Or.inl z1))
    · obtain ⟨k, hk, rfl⟩ := nI_of z1
      by_cases zk : k < s.1.length
      · obtain ⟨⟨f, t, r⟩, hm⟩ : ∃ m, s.1[k]? = some m := ⟨_, gd_at zk⟩
        obtain ⟨q1, q2, q3, q4, q5, q6⟩ := PIv_msg hP hm
        have ck : (nI k).toNatClampNeg = k := nI_clamp (by omega)
        have e71 : S.1 71 (nI k).toNatClampNeg = eMs (f, t, r) := by rw [ck]; exact p1.1.2 k _ hm
        obtain ⟨r1, r2, r3⟩ := p2.1.2 k _ hm
        have vk : vp_in (nI k) (2 * n * (n - 1)) := vp_in_nI (by omega) (by omega)
        have vk2 : vp_in (nI k) 1000 := vp_in_nI (by omega) (by omega)
        have hl := lnF_le hB q1 q4
        have cA : ∀ {x : Int32}, zW l Gr (zc n w) 168 M_H_message (d + 3) 10 [some (.ref 32), some (.int (nI k)), some (.int x2), none] [] S (fun v S' => ∃ y, v = some (.int y) ∧ y = x ∧ S' = S) → zMi l Gr (zc n w) 168 M_H_message (d + 3) [.ref 32, .int (nI k), .int x2] S (fun v S' => v = x ∧ S' = S) := fun q => by
          refine e_H_message (b_H_message_0 hg (cl_fly1 (by rw [h15]; decide) z1 (by rw [p1.1.1]; exact nI_ge (by omega) (by omega))) (fun v S1 e => ?_))
          obtain ⟨rfl, rfl⟩ := e
          exact b_H_message_5 (fun _ => q) (fun y => absurd y (by decide))
        have cM : ∀ {x : Int32}, zW l Gr (zc n w) 168 M_Mo_message (d + 3) 12 [some (.ref 105), some (.int (nI k)), some (.int x2), none] [] S (fun v S' => ∃ y, v = some (.int y) ∧ y = x ∧ S' = S) → zMi l Gr (zc n w) 168 M_Mo_message (d + 3) [.ref 105, .int (nI k), .int x2] S (fun v S' => v = x ∧ S' = S) := fun q =>
          e_Mo_message (b_Mo_message_0 (fun y => absurd y z1) (fun _ => b_Mo_message_4 (fun y => absurd y (by rw [p2.1.1]; exact nI_ge (by omega) (by omega))) (fun _ => q)))
        have cM2 : ∀ {x : Int32}, 0 ≤ x2 → zW l Gr (zc n w) 168 M_Mo_message (d + 3) 34 [some (.ref 105), some (.int (nI k)), some (.int x2), none] [.int (nI (lnF own av Dm ob f r))] S (fun v S' => ∃ y, v = some (.int y) ∧ y = x ∧ S' = S) → zMi l Gr (zc n w) 168 M_Mo_message (d + 3) [.ref 105, .int (nI k), .int x2] S (fun v S' => v = x ∧ S' = S) := fun {x} h0 q => by
          refine cM (b_Mo_message_12 (fun _ => b_Mo_message_18 hg vk2 (by rw [ck, r1, r3]; exact wm_len hn.2 hD n2 q1 q4) (fun v S1 e => ?_)) (fun y => absurd h0 y))
          obtain ⟨rfl, rfl⟩ := e
          exact q
        by_cases e0 : x2 = 0
        · subst e0
          refine ro_i (x := nI f) (cA (b_H_message_10 vk (fun _ => b_H_message_52 hg (by rw [e71]; exact w_from (by omega)) (fun v S1 e => ?_)) (fun y => absurd y (by decide)) (fun y => absurd y (by decide)) (fun y => absurd y (by decide)) (fun y => absurd rfl y))) (cM2 (by decide) (b_Mo_message_34 (fun y => absurd y (by decide)) (fun _ => b_Mo_message_40 (fun y => absurd rfl y) (fun _ => b_Mo_message_44 vk2 (b_Mo_message_82 ⟨_, rfl, by rw [ck]; exact r1, rfl⟩)))))
          obtain ⟨rfl, rfl⟩ := e
          exact b_H_message_56 ⟨_, rfl, rfl, rfl⟩
        · by_cases e1 : x2 = 1
          · subst e1
            refine ro_i (x := nI t) (cA (b_H_message_10 vk (fun y => absurd y (by decide)) (fun _ => b_H_message_57 hg (by rw [e71]; exact w_to (by omega) (by omega) (by omega)) (fun v S1 e => ?_)) (fun y => absurd y (by decide)) (fun y => absurd y (by decide)) (fun _ y => absurd rfl y))) (cM2 (by decide) (b_Mo_message_34 (fun y => absurd y (by decide)) (fun _ => b_Mo_message_40 (fun _ => b_Mo_message_53 (fun y => absurd rfl y) (fun _ => b_Mo_message_58 vk2 (b_Mo_message_82 ⟨_, rfl, by rw [ck]; exact r2, rfl⟩))) (fun y => absurd y (by decide)))))
            obtain ⟨rfl, rfl⟩ := e
            exact b_H_message_61 ⟨_, rfl, rfl, rfl⟩
          · by_cases e2 : x2 = 2
            · subst e2
              refine ro_i (x := nI r) (cA (b_H_message_10 vk (fun y => absurd y (by decide)) (fun y => absurd y (by decide)) (fun _ => b_H_message_62 hg (by rw [e71]; exact w_round (by omega) (by omega) (by omega)) (fun v S1 e => ?_)) (fun y => absurd y (by decide)) (fun _ _ y => absurd rfl y))) (cM2 (by decide) (b_Mo_message_34 (fun y => absurd y (by decide)) (fun _ => b_Mo_message_40 (fun _ => b_Mo_message_53 (fun _ => b_Mo_message_67 (fun y => absurd rfl y) (fun _ => b_Mo_message_72 vk2 (b_Mo_message_82 ⟨_, rfl, by rw [ck]; exact r3, rfl⟩))) (fun y => absurd y (by decide))) (fun y => absurd y (by decide)))))
              obtain ⟨rfl, rfl⟩ := e
              exact b_H_message_66 ⟨_, rfl, rfl, rfl⟩
            · by_cases e3 : x2 = 3
              · subst e3
                refine ro_i (x := nI (lnF own av Dm ob f r)) (cA (b_H_message_10 vk (fun y => absurd y (by decide)) (fun y => absurd y (by decide)) (fun y => absurd y (by decide)) (fun _ => b_H_message_67 hg (by rw [e71]; exact w_msgBits hg hn.2 hD n1 q1 (by omega) q4) (fun v S1 e => ?_)) (fun _ _ _ y => absurd rfl y))) (cM2 (by decide) (b_Mo_message_34 (fun y => absurd y (by decide)) (fun _ => b_Mo_message_40 (fun _ => b_Mo_message_53 (fun _ => b_Mo_message_67 (fun _ => b_Mo_message_81 (b_Mo_message_82 ⟨_, rfl, rfl, rfl⟩)) (fun y => absurd y (by decide))) (fun y => absurd y (by decide))) (fun y => absurd y (by decide)))))
                obtain ⟨rfl, rfl⟩ := e
                exact b_H_message_75 ⟨_, rfl, rfl, rfl⟩
              · have cA2 : ∀ {x : Int32}, zW l Gr (zc n w) 168 M_H_message (d + 3) 76 [some (.ref 32), none, some (.int x2), some (.int (eMs (f, t, r)))] [] S (fun v S' => ∃ y, v = some (.int y) ∧ y = x ∧ S' = S) → zMi l Gr (zc n w) 168 M_H_message (d + 3) [.ref 32, .int (nI k), .int x2] S (fun v S' => v = x ∧ S' = S) := fun q => cA (b_H_message_10 vk (fun y => absurd y e0) (fun y => absurd y e1) (fun y => absurd y e2) (fun y => absurd y e3) (fun _ _ _ _ => by rw [e71]; exact q))
                have c95 : zW l Gr (zc n w) 168 M_H_message (d + 3) 95 [none, none, none, none] [] S (fun v S' => ∃ x, v = some (.int x) ∧ x = -1 ∧ S' = S) := b_H_message_95 (b_H_message_110 ⟨_, rfl, rfl, rfl⟩)
                by_cases z2 : x2 < 0
                · exact ro_i (x := -1) (cA2 (b_H_message_76 (fun _ => c95) (fun y => absurd (Int32.lt_trans z2 (by decide)) y))) (cM (b_Mo_message_12 (fun y => absurd z2 (Int32.not_lt.mpr y)) (fun _ => m16)))
                · obtain ⟨i, hi, rfl⟩ := nI_of z2
                  have h4 : 4 ≤ i := by
                    match i, e0, e1, e2, e3 with
                    | 0, e, _, _, _ => exact absurd rfl e
                    | 1, _, e, _, _ => exact absurd rfl e
                    | 2, _, _, e, _ => exact absurd rfl e
                    | 3, _, _, _, e => exact absurd rfl e
                    | i + 4, _, _, _, _ => omega
                  have e4 : nI i - 4 = nI (i - 4) := sub_nn (b := 4) h4
                  have cA3 : ∀ {x : Int32}, (nI (i - 4) < nI (lnF own av Dm ob f r) → zW l Gr (zc n w) 168 M_H_message (d + 3) 99 [some (.ref 32), none, some (.int (nI i)), some (.int (eMs (f, t, r)))] [] S (fun v S' => ∃ y, v = some (.int y) ∧ y = x ∧ S' = S)) → (¬ nI (i - 4) < nI (lnF own av Dm ob f r) → zW l Gr (zc n w) 168 M_H_message (d + 3) 95 [none, none, none, none] [] S (fun v S' => ∃ y, v = some (.int y) ∧ y = x ∧ S' = S)) → zMi l Gr (zc n w) 168 M_H_message (d + 3) [.ref 32, .int (nI k), .int (nI i)] S (fun v S' => v = x ∧ S' = S) := fun y1 y2 => by
                    refine cA2 (b_H_message_76 (fun y => absurd ((nI_ltI (b := 4) (by omega) (by omega)).mp y) (by omega)) (fun _ => b_H_message_81 hg (w_msgBits hg hn.2 hD n1 q1 (by omega) q4) (fun v S1 e => ?_)))
                    obtain ⟨rfl, rfl⟩ := e
                    rw [e4]
                    exact b_H_message_92 y1 y2
                  have cM3 : ∀ {x : Int32}, (nI (lnF own av Dm ob f r) ≤ nI (i - 4) → zW l Gr (zc n w) 168 M_Mo_message (d + 3) 118 [none, none, none, none] [] S (fun v S' => ∃ y, v = some (.int y) ∧ y = x ∧ S' = S)) → (¬ nI (lnF own av Dm ob f r) ≤ nI (i - 4) → zW l Gr (zc n w) 168 M_Mo_message (d + 3) 90 [some (.ref 105), some (.int (nI k)), some (.int (nI i)), none] [] S (fun v S' => ∃ y, v = some (.int y) ∧ y = x ∧ S' = S)) → zMi l Gr (zc n w) 168 M_Mo_message (d + 3) [.ref 105, .int (nI k), .int (nI i)] S (fun v S' => v = x ∧ S' = S) := fun y1 y2 => cM2 (nI_pos' hi) (b_Mo_message_34 (fun _ => b_Mo_message_83 (fun y => y1 (by rw [e4] at y; exact y)) (fun y => y2 (by rw [e4] at y; exact y))) (fun y => absurd ((nI_leI (a := 4) (by omega) (by omega)).mpr h4) y))
                  by_cases zi' : i - 4 < lnF own av Dm ob f r
                  · obtain ⟨v, v1, v2⟩ := bt_both (l := l) (Gr := Gr) (d := d) (d' := d) (t := t) hg hn hw hC hS hD hB n1 q1 q2 q4 zi'
                    refine ro_i (x := v) (cA3 (fun _ => b_H_message_99 hg (by rw [e4]; exact v1) (fun y S1 e => ?_)) (fun y => absurd ((nI_ltI (by omega) (by omega)).mpr zi') y)) (cM3 (fun y => absurd y (nI_ge (by omega) (by omega))) (fun _ => b_Mo_message_90 hg vk2 (by rw [ck, r1, r2, r3, e4]; exact v2) (fun y S1 e => ?_)))
                    · obtain ⟨rfl, rfl⟩ := e
                      exact b_H_message_110 ⟨_, rfl, rfl, rfl⟩
                    · obtain ⟨rfl, rfl⟩ := e
                      exact b_Mo_message_115 (b_Mo_message_119 ⟨_, rfl, rfl, rfl⟩)
                  · exact ro_i (x := -1) (cA3 (fun y => absurd ((nI_ltI (by omega) (by omega)).mp y) zi') (fun _ => c95)) (cM3 (fun _ => b_Mo_message_118 (b_Mo_message_119 ⟨_, rfl, rfl, rfl⟩)) (fun y => absurd (nI_le (by omega) (by omega)) y))
      · exact ro_i (x := -1) (c0 (Or.inr (Or.inr (by rw [p1.1.1]; exact nI_le (by omega) (by omega))))) (m0 (Or.inr (by rw [p2.1.1]; exact nI_le (by omega) (by omega))))
end MSS
