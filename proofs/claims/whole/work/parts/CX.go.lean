/-! BUILD on both sides: what one instruction is -/
section GOS
variable {l : Launch} {Gr : zG} {n w : Nat} {d : Nat} {M : ip_M} {As : List Value} {S A A1 A2 A' T B B1 B2 B' : zS} {R : zS → Prop} {Ri : Int32 → zS → Prop} {Q : Option Value → zS → Prop} {k k1 k2 i j j1 j2 j' N z e h : Nat}
theorem zMv_det (q : zMv l Gr (zc n w) 168 M d As A R) : ∃ A', R A' ∧ zMv l Gr (zc n w) 168 M d As A (fun X => X = A') := by
  obtain ⟨v, A', ⟨e, r⟩, q⟩ := q
  exact ⟨A', r, v, A', ⟨e, rfl⟩, q⟩
theorem zMi_det (q : zMi l Gr (zc n w) 168 M d As A Ri) : ∃ x A', Ri x A' ∧ zMi l Gr (zc n w) 168 M d As A (fun y X => y = x ∧ X = A') := by
  obtain ⟨v, A', ⟨x, e, r⟩, q⟩ := q
  exact ⟨x, A', r, v, A', ⟨x, e, rfl, rfl⟩, q⟩
/-- the class goes from A to A' by k instructions -/
def CGo (l : Launch) (Gr : zG) (n w d k : Nat) (A A' : zS) : Prop := ∀ (x : Nat) (Q : Option Value → zS → Prop), x + k < 100000000 → zW l Gr (zc n w) 168 M_Builder_build (d + 12) 36 [some (.ref 77), some (.int (nI (x + k))), none, none] [] A' Q → zW l Gr (zc n w) 168 M_Builder_build (d + 12) 36 [some (.ref 77), some (.int (nI x)), none, none] [] A Q
/-- the reference goes from B at j to B' at j' -/
def MGo (l : Launch) (Gr : zG) (n w d : Nat) (B : zS) (j : Nat) (B' : zS) (j' : Nat) : Prop := ∀ (Q : Option Value → zS → Prop), zW l Gr (zc n w) 168 M_Mo_build (d + 12) 56 [some (.ref 105), some (.int (nI j'))] [] B' Q → zW l Gr (zc n w) 168 M_Mo_build (d + 12) 56 [some (.ref 105), some (.int (nI j))] [] B Q
theorem CGo_rfl : CGo l Gr n w d 0 A A := fun _ _ _ h => h
theorem CGo_tr (h1 : CGo l Gr n w d k1 A A1) (h2 : CGo l Gr n w d k2 A1 A2) : CGo l Gr n w d (k1 + k2) A A2 := fun x Q hx h => h1 x Q (by omega) (h2 (x + k1) Q (by omega) (by rw [show x + k1 + k2 = x + (k1 + k2) by omega]; exact h))
theorem MGo_rfl : MGo l Gr n w d B j B j := fun _ h => h
theorem MGo_tr (h1 : MGo l Gr n w d B j B1 j1) (h2 : MGo l Gr n w d B1 j1 B2 j2) : MGo l Gr n w d B j B2 j2 := fun Q h => h1 Q (h2 Q h)
/-- behind an instruction: room and STEPS -/
def kEnd (A : zS) : zS := if A.1 24 7 = 0 ∧ A.1 45 18 ≤ 100000 then A else kT A 8 (A.1 45 17)
theorem ke_151 (hg : ip_gk (lg_tbl, vwCl, Gr)) (q : zW l Gr (zc n w) 168 M_Builder_build (d + 12) 36 [some (.ref 77), some (.int (nI (k + 1))), none, none] [] (kEnd A) Q) : zW l Gr (zc n w) 168 M_Builder_build (d + 12) 151 [some (.ref 77), some (.int (nI k)), none, none] [] A Q := by
  have go : zW l Gr (zc n w) 168 M_Builder_build (d + 12) 183 [some (.ref 77), some (.int (nI k)), none, none] [] (kEnd A) Q := by
    refine b_Builder_build_183 ?_
    rw [show nI k + Int32.ofInt 1 = nI (k + 1) from nI_add k 1]
    exact q
  have bad : kEnd A = kT A 8 (A.1 45 17) → zW l Gr (zc n w) 168 M_Builder_build (d + 12) 170 [some (.ref 77), some (.int (nI k)), none, none] [] A Q := fun e => b_Builder_build_170 hg w_tl (fun A' h => by rw [h, ← e]; exact go)
  refine b_Builder_build_151 (fun z => bad ?_) (fun z => b_Builder_build_161 (fun y => ?_) (fun y => bad ?_))
  · unfold kEnd
    rw [if_neg (fun q => z q.1)]
  · unfold kEnd at go
    rw [if_pos ⟨z, y⟩] at go
    exact go
  · unfold kEnd
    rw [if_neg (fun q => y q.2)]
theorem w_finds (ho : ip_old (lg_tbl, vwCl, Gr)) (hw : w ≤ 32) (hz : z < 56) (h8 : A.1 45 8 = nI (h * w)) (he : oRow2 z = nI e) (heh : e ≤ h) (hh : h + 1 ≤ 9682) : zMi l Gr (zc n w) 168 M_Builder_finds d [.ref 77, .int (nI z)] A (fun v A' => v = 1 ∧ A' = A) := by
  have m1 : h * w ≤ 9682 * 32 := Nat.mul_le_mul (by omega) hw
  have m2 : e * w ≤ h * w := Nat.mul_le_mul_right _ heh
  have m3 : h * w + w ≤ 9682 * w := by rw [← Nat.succ_mul]; exact Nat.mul_le_mul_right _ hh
  have m4 : 9682 * w ≤ 9682 * 32 := Nat.mul_le_mul_left _ hw
  refine e_Builder_finds (b_Builder_finds_0 (fun y => absurd y (nI_pos (by omega))) (fun _ => b_Builder_finds_4 ho (fun y => absurd y (nI_ge (a := z) (b := 56) hz (by omega))) (fun _ => b_Builder_finds_12 ho (vp_in_nI hz (by omega)) (fun y => absurd y ?_) (fun _ => b_Builder_finds_29 (fun y => absurd y ?_) (fun _ => b_Builder_finds_46 (b_Builder_finds_51 ⟨_, rfl, Or.inr rfl, rfl, rfl⟩))))))
  · rw [nI_clamp (by omega), he, h8, show nI e * nI w = nI (e * w) from (Int32.ofNat_mul e w).symm]
    exact nI_nlt m2 (by omega)
  · rw [h8, nI_add]
    exact nI_nlt m3 (by omega)
/-- one instruction of the class -/
theorem kg_1 (hg : ip_gk (lg_tbl, vwCl, Gr)) (ho : ip_old (lg_tbl, vwCl, Gr)) (hw : w ≤ 32) (h3 : A.1 3 4 = nI N) (hi : i < N) (hN : N ≤ 4000) (h5 : A.1 3 5 = 0) (h16 : A.1 45 16 = nI i) (h4 : A.1 4 i = nI z) (hz : z < 56) (h8 : A.1 45 8 = nI (h * w)) (he : oRow2 z = nI e) (heh : e ≤ h) (hh : h + 1 ≤ 9682) (run : ∀ (Q : Option Value → zS → Prop) (x : Int32), zW l Gr (zc n w) 168 M_Builder_build (d + 12) 151 [some (.ref 77), some (.int x), none, none] [] A1 Q → zW l Gr (zc n w) 168 M_Builder_build (d + 12) 100 [some (.ref 77), some (.int x), some (.int (nI i)), some (.int (nI z))] [] (zi A 45 16 (nI (i + 1))) Q) : CGo l Gr n w d 1 A (kEnd A1) := by
  intro x Q hx q
  refine b_Builder_build_36 (fun y => absurd y (nI_ge (a := x) (b := 100000000) (by omega) (by omega))) (fun _ => b_Builder_build_42 (fun y => absurd y ?_) (fun _ => b_Builder_build_56 (fun y => absurd h5 y) (fun _ => b_Builder_build_66 (R := fun v A' => v = 1 ∧ A' = zi A 45 16 (nI (i + 1))) hg ?_ ?_ (fun v A' k => ?_))))
  · rw [h3, h16]
    exact nI_ge (a := i) (b := N) hi (by omega)
  · rw [h16]
    exact vp_in_nI (by omega) (by omega)
  · rw [h16, nI_clamp (by omega), h4, nI_1]
    exact w_finds ho hw hz (by rw [zi_k (by decide)]; exact h8) he heh hh
  · obtain ⟨k1, k2⟩ := k
    subst k1
    subst k2
    refine b_Builder_build_96 (fun _ => ?_) (fun y => absurd y (by decide))
    rw [h16, nI_clamp (by omega), h4]
    exact run Q (nI x) (ke_151 hg q)
theorem kg_O (hg : ip_gk (lg_tbl, vwCl, Gr)) (hz : 38 ≤ z) (hz2 : z < 56) (q : zMv l Gr (zc n w) 168 M_Builder_buildOperator (d + 11) [.ref 77, .int (nI i), .int (nI z)] (zi A 45 16 (nI (i + 1))) (fun X => X = A1)) (Q : Option Value → zS → Prop) (x : Int32) (r : zW l Gr (zc n w) 168 M_Builder_build (d + 12) 151 [some (.ref 77), some (.int x), none, none] [] A1 Q) : zW l Gr (zc n w) 168 M_Builder_build (d + 12) 100 [some (.ref 77), some (.int x), some (.int (nI i)), some (.int (nI z))] [] (zi A 45 16 (nI (i + 1))) Q :=
  b_Builder_build_100 (fun _ => b_Builder_build_115 (fun _ => b_Builder_build_130 (fun _ => b_Builder_build_145 hg q (fun A' e => by rw [e]; exact r)) (fun y => absurd (nI_le (a := 38) hz (by omega)) y)) (fun y => absurd (nI_lt (a := 33) (b := z) (by omega) (by omega)) y)) (fun y => absurd (nI_lt (a := 20) (b := z) (by omega) (by omega)) y)
theorem kg_G (hg : ip_gk (lg_tbl, vwCl, Gr)) (hz : 34 ≤ z) (hz2 : z < 38) (q : zMv l Gr (zc n w) 168 M_Builder_buildSign (d + 11) [.ref 77, .int (nI i), .int (nI z)] (zi A 45 16 (nI (i + 1))) (fun X => X = A1)) (Q : Option Value → zS → Prop) (x : Int32) (r : zW l Gr (zc n w) 168 M_Builder_build (d + 12) 151 [some (.ref 77), some (.int x), none, none] [] A1 Q) : zW l Gr (zc n w) 168 M_Builder_build (d + 12) 100 [some (.ref 77), some (.int x), some (.int (nI i)), some (.int (nI z))] [] (zi A 45 16 (nI (i + 1))) Q :=
  b_Builder_build_100 (fun _ => b_Builder_build_115 (fun _ => b_Builder_build_130 (fun y => absurd y (nI_ge (a := z) (b := 38) hz2 (by omega))) (fun _ => b_Builder_build_136 hg q (fun A' e => by rw [e]; exact b_Builder_build_142 r))) (fun y => absurd (nI_lt (a := 33) (b := z) (by omega) (by omega)) y)) (fun y => absurd (nI_lt (a := 20) (b := z) (by omega) (by omega)) y)
theorem kg_F (hg : ip_gk (lg_tbl, vwCl, Gr)) (hz : 21 ≤ z) (hz2 : z < 34) (q : zMv l Gr (zc n w) 168 M_Builder_buildFactor (d + 11) [.ref 77, .int (nI i), .int (nI z)] (zi A 45 16 (nI (i + 1))) (fun X => X = A1)) (Q : Option Value → zS → Prop) (x : Int32) (r : zW l Gr (zc n w) 168 M_Builder_build (d + 12) 151 [some (.ref 77), some (.int x), none, none] [] A1 Q) : zW l Gr (zc n w) 168 M_Builder_build (d + 12) 100 [some (.ref 77), some (.int x), some (.int (nI i)), some (.int (nI z))] [] (zi A 45 16 (nI (i + 1))) Q :=
  b_Builder_build_100 (fun _ => b_Builder_build_115 (fun y => absurd y (nI_nlt (a := 33) (b := z) |> fun f => f (by omega) (by omega))) (fun _ => b_Builder_build_121 hg q (fun A' e => by rw [e]; exact b_Builder_build_127 r))) (fun y => absurd (nI_lt (a := 20) (b := z) (by omega) (by omega)) y)
theorem kg_S (hg : ip_gk (lg_tbl, vwCl, Gr)) (hz2 : z < 21) (q : zMv l Gr (zc n w) 168 M_Builder_buildStatement (d + 11) [.ref 77, .int (nI i), .int (nI z)] (zi A 45 16 (nI (i + 1))) (fun X => X = A1)) (Q : Option Value → zS → Prop) (x : Int32) (r : zW l Gr (zc n w) 168 M_Builder_build (d + 12) 151 [some (.ref 77), some (.int x), none, none] [] A1 Q) : zW l Gr (zc n w) 168 M_Builder_build (d + 12) 100 [some (.ref 77), some (.int x), some (.int (nI i)), some (.int (nI z))] [] (zi A 45 16 (nI (i + 1))) Q :=
  b_Builder_build_100 (fun y => absurd ((nI_ltI (a := 20) (b := z) (by omega) (by omega)).mp y) (by omega)) (fun _ => b_Builder_build_106 hg q (fun A' e => by rw [e]; exact b_Builder_build_112 r))
/-- one instruction of the reference -/
theorem mg_x (hj : j < N) (hN : N ≤ 12000) (h13 : B.1 73 13 = nI N) (h7 : B.1 73 7 = 0) (run : ∀ Q : Option Value → zS → Prop, zW l Gr (zc n w) 168 M_Mo_build (d + 12) 95 [some (.ref 105), none] [.int (nI j')] B' Q → zW l Gr (zc n w) 168 M_Mo_build (d + 12) 71 [some (.ref 105), some (.int (nI j))] [] B Q) : MGo l Gr n w d B j B' j' := fun Q q =>
  b_Mo_build_56 (fun y => absurd y (by rw [h13]; exact nI_ge (a := j) (b := N) hj (by omega))) (fun _ => b_Mo_build_64 (fun y => absurd h7 y) (fun _ => run Q (b_Mo_build_95 q)))
theorem mg_o (hg : ip_gk (lg_tbl, vwCl, Gr)) (hj : j < N) (hN : N ≤ 12000) (h13 : B.1 73 13 = nI N) (h7 : B.1 73 7 = 0) (h78 : B.1 78 j = nI z) (hz : z < 20) (q : zMi l Gr (zc n w) 168 M_Mo_operand (d + 11) [.ref 105, .int (nI j)] B (fun v X => v = nI j' ∧ X = B')) : MGo l Gr n w d B j B' j' := mg_x hj hN h13 h7 (fun Q r => b_Mo_build_71 (vp_in_nI (by omega) (by omega)) (fun y => absurd y (by rw [nI_clamp (by omega), h78]; exact nI_ge (a := z) (b := 20) hz (by omega))) (fun _ => b_Mo_build_82 hg q (fun v X k => by rw [k.1, k.2]; exact b_Mo_build_87 r)))
theorem mg_s (hg : ip_gk (lg_tbl, vwCl, Gr)) (hj : j < N) (hN : N ≤ 12000) (h13 : B.1 73 13 = nI N) (h7 : B.1 73 7 = 0) (h78 : B.1 78 j = nI z) (hz : 20 ≤ z) (hz2 : z < 100) (q : zMi l Gr (zc n w) 168 M_Mo_statement (d + 11) [.ref 105, .int (nI j)] B (fun v X => v = nI j' ∧ X = B')) : MGo l Gr n w d B j B' j' := mg_x hj hN h13 h7 (fun Q r => b_Mo_build_71 (vp_in_nI (by omega) (by omega)) (fun _ => b_Mo_build_90 hg q (fun v X k => by rw [k.1, k.2]; exact r)) (fun y => absurd (by rw [nI_clamp (by omega), h78]; exact nI_le (a := 20) hz (by omega)) y))
end GOS
