/-! party(), dealt(), share() on both -/
/-- dealt on both, or on none -/
def iDl (n w : Nat) (S : zS) : Prop := (S.1 0 15 = 0 ∧ S.1 73 124 = 0 ∧ S.1 73 139 = 0 ∧ S.1 73 140 = 0) ∨ (S.1 0 15 = 1 ∧ S.1 73 124 = 1 ∧ S.1 0 14 = 1 ∧ S.1 73 83 = 1 ∧ iCk n w S ∧ iPo n S ∧ iSh S)
section PTY
variable {l : Launch} {Gr : zG} {n w d k c : Nat} {S S' : zS} {x1 x2 x3 : Int32}
theorem cl_aw0 (h : S.1 0 15 = 0 ∨ x1 < 0 ∨ nI n ≤ x1) : zMi l Gr (zc n w) 168 M_H_isAtWork d [.ref 32, .int x1] S (fun v S' => v = 0 ∧ S' = S) := by
  have fin : zW l Gr (zc n w) 168 M_H_isAtWork d 23 [none, none] [] S (fun v S' => ∃ x, v = some (.int x) ∧ (x = 0 ∨ x = 1) ∧ x = 0 ∧ S' = S) := b_H_isAtWork_23 (b_H_isAtWork_24 ⟨0, rfl, Or.inl rfl, rfl, rfl⟩)
  exact e_H_isAtWork (b_H_isAtWork_0 (fun _ => fin) (fun q1 => b_H_isAtWork_7 (fun _ => fin) (fun q2 => b_H_isAtWork_11 (fun _ => fin) (fun q3 => by
    rcases h with z | z | z
    · exact absurd z q1
    · exact absurd z q2
    · exact absurd z q3))))
theorem cl_aw1 (h1 : ¬ S.1 0 15 = 0) (h2 : ¬ x1 < 0) (h3 : ¬ nI n ≤ x1) : zMi l Gr (zc n w) 168 M_H_isAtWork d [.ref 32, .int x1] S (fun v S' => v = 1 ∧ S' = S) :=
  e_H_isAtWork (b_H_isAtWork_0 (fun z => absurd z h1) (fun _ => b_H_isAtWork_7 (fun z => absurd z h2) (fun _ => b_H_isAtWork_11 (fun z => absurd z h3) (fun _ => b_H_isAtWork_19 (b_H_isAtWork_24 ⟨1, rfl, Or.inr rfl, rfl, rfl⟩)))))
/-- x1 names no party at work, or one -/
theorem aw_or (hn : n ≤ 16) (h : iDl n w S) (x1 : Int32) : ((S.1 0 15 = 0 ∧ S.1 73 124 = 0) ∨ (S.1 0 15 = 1 ∧ S.1 73 124 = 1 ∧ (x1 < 0 ∨ (¬ x1 < 0 ∧ nI n ≤ x1)))) ∨ ∃ p, p < n ∧ x1 = nI p ∧ S.1 0 15 = 1 ∧ S.1 73 124 = 1 ∧ S.1 0 14 = 1 ∧ S.1 73 83 = 1 ∧ iCk n w S ∧ iPo n S ∧ iSh S := by
  rcases h with ⟨h1, h2, -⟩ | ⟨h1, h2, h3⟩
  · exact Or.inl (Or.inl ⟨h1, h2⟩)
  · by_cases z : x1 < 0
    · exact Or.inl (Or.inr ⟨h1, h2, Or.inl z⟩)
    · obtain ⟨p, hp, rfl⟩ := nI_of z
      by_cases zp : p < n
      · exact Or.inr ⟨p, zp, rfl, h1, h2, h3⟩
      · exact Or.inl (Or.inr ⟨h1, h2, Or.inr ⟨z, nI_le (by omega) (by omega)⟩⟩)
theorem ro_party (hg : ip_gk (lg_tbl, vwCl, Gr)) (hn : 2 ≤ n ∧ n ≤ 16) (h : iDl n w S) : roI l Gr n w (d + 1) M_H_party M_Mo_party [.int x1, .int x2] S := by
  have c0 : (S.1 0 15 = 0 ∨ x1 < 0 ∨ nI n ≤ x1) → zMi l Gr (zc n w) 168 M_H_party (d + 1) [.ref 32, .int x1, .int x2] S (fun v S' => v = -1 ∧ S' = S) := fun q => by
    refine e_H_party (b_H_party_0 hg (cl_aw0 q) (fun v S1 e => ?_))
    obtain ⟨rfl, rfl⟩ := e
    exact b_H_party_5 (fun y => absurd rfl y) (fun _ => b_H_party_8 ⟨_, rfl, rfl, rfl⟩)
  have m28 : zW l Gr (zc n w) 168 M_Mo_party (d + 1) 28 [none, none, none] [] S (fun v S' => ∃ x, v = some (.int x) ∧ x = -1 ∧ S' = S) := b_Mo_party_28 ⟨_, rfl, rfl, rfl⟩
  rcases aw_or hn.2 h x1 with (⟨h15, h124⟩ | ⟨h15, h124, z | ⟨z, z2⟩⟩) | ⟨p, hp, rfl, h15, h124, h14, h83, hC, ⟨Dm, own, av, ob, s, lg, ⟨hD, hB⟩, n1, n2, hP, hG, p1, p2, g1, g2, h12, h11⟩, -⟩
  · exact ro_i (x := -1) (c0 (Or.inl h15)) (e_Mo_party (b_Mo_party_0 (fun _ => m28) (fun y => absurd h124 y)))
  · exact ro_i (x := -1) (c0 (Or.inr (Or.inl z))) (e_Mo_party (b_Mo_party_0 (fun _ => m28) (fun _ => b_Mo_party_7 (fun _ => m28) (fun y => absurd z y))))
  · exact ro_i (x := -1) (c0 (Or.inr (Or.inr z2))) (e_Mo_party (b_Mo_party_0 (fun _ => m28) (fun _ => b_Mo_party_7 (fun y => absurd y z) (fun _ => b_Mo_party_11 (fun _ => m28) (fun y => absurd z2 y)))))
  · have zp : ¬ nI p < 0 := nI_pos (by omega)
    have zn : ¬ nI n ≤ nI p := nI_ge (by omega) (by omega)
    have cp : (nI p).toNatClampNeg = p := nI_clamp (by omega)
    have vp : vp_in (nI p) n := vp_in_nI hp (by omega)
    have vp16 : vp_in (nI p) 16 := vp_in_nI (by omega) (by omega)
    have cA : ∀ {x : Int32}, zW l Gr (zc n w) 168 M_H_party (d + 1) 10 [some (.ref 32), some (.int (nI p)), some (.int x2)] [] S (fun v S' => ∃ y, v = some (.int y) ∧ y = x ∧ S' = S) → zMi l Gr (zc n w) 168 M_H_party (d + 1) [.ref 32, .int (nI p), .int x2] S (fun v S' => v = x ∧ S' = S) := fun q => by
      refine e_H_party (b_H_party_0 hg (cl_aw1 (by rw [h15]; decide) zp zn) (fun v S1 e => ?_))
      obtain ⟨rfl, rfl⟩ := e
      exact b_H_party_5 (fun _ => q) (fun y => absurd y (by decide))
    have cM : ∀ {x : Int32}, zW l Gr (zc n w) 168 M_Mo_party (d + 1) 19 [some (.ref 105), some (.int (nI p)), some (.int x2)] [] S (fun v S' => ∃ y, v = some (.int y) ∧ y = x ∧ S' = S) → zMi l Gr (zc n w) 168 M_Mo_party (d + 1) [.ref 105, .int (nI p), .int x2] S (fun v S' => v = x ∧ S' = S) := fun q =>
      e_Mo_party (b_Mo_party_0 (fun y => absurd y (by rw [h124]; decide)) (fun _ => b_Mo_party_7 (fun y => absurd y zp) (fun _ => b_Mo_party_11 (fun y => absurd y zn) (fun _ => q))))
    by_cases e0 : x2 = 0
    · subst e0
      exact ro_i (x := nI (s.2 p).1) (cA (b_H_party_10 (fun _ => b_H_party_36 vp ⟨_, rfl, by rw [cp]; exact (p1.2 p hp).1, rfl⟩) (fun y => absurd y (by decide)) (fun y => absurd y (by decide)) (fun y => absurd rfl y))) (cM (b_Mo_party_19 (fun y => absurd y (by decide)) (fun _ => b_Mo_party_23 (fun _ => b_Mo_party_30 (fun y => absurd rfl y) (fun _ => b_Mo_party_34 vp16 (b_Mo_party_62 ⟨_, rfl, by rw [cp]; exact (p2.2 p hp).1, rfl⟩))) (fun y => absurd (by decide) y))))
    · by_cases e1 : x2 = 1
      · subst e1
        exact ro_i (x := nI (lg p).length) (cA (b_H_party_10 (fun y => absurd y (by decide)) (fun _ => b_H_party_46 vp ⟨_, rfl, by rw [cp]; exact (g1 p hp).1, rfl⟩) (fun y => absurd y (by decide)) (fun _ y => absurd rfl y))) (cM (b_Mo_party_19 (fun y => absurd y (by decide)) (fun _ => b_Mo_party_23 (fun _ => b_Mo_party_30 (fun _ => b_Mo_party_43 (fun y => absurd rfl y) (fun _ => b_Mo_party_48 vp16 (b_Mo_party_62 ⟨_, rfl, by rw [cp]; exact (g2 p hp).1, rfl⟩))) (fun y => absurd y (by decide))) (fun y => absurd (by decide) y))))
      · by_cases e2 : x2 = 2
        · subst e2
          obtain ⟨g0, Dm0, iw, no, bo, ⟨gg, wb, hgg, hwb, q4, q66, q8, q65, q5, -⟩, -⟩ := hC
          refine ro_i (x := nI (own p) * nI n + 3 * S.1 73 67 + nI (lnS own av Dm ob (lg p))) (cA (b_H_party_10 (fun y => absurd y (by decide)) (fun y => absurd y (by decide)) (fun _ => b_H_party_56 hg (R := fun v S' => v = nI (own p) * nI n + 3 * S.1 73 67 + nI (lnS own av Dm ob (lg p)) ∧ S' = S) (e_Post_viewBits (b_Post_viewBits_0 vp ⟨_, rfl, ?_, rfl⟩)) (fun v S1 e => ?_)) (fun _ _ y => absurd rfl y))) (cM (b_Mo_party_19 (fun y => absurd y (by decide)) (fun _ => b_Mo_party_23 (fun _ => b_Mo_party_30 (fun _ => b_Mo_party_43 (fun _ => b_Mo_party_57 hg (R := fun v S' => v = nI (own p) * nI n + 3 * S.1 73 67 + nI (lnS own av Dm ob (lg p)) ∧ S' = S) (e_Mo_viewBits (b_Mo_viewBits_0 vp16 ⟨_, rfl, ?_, rfl⟩)) (fun v S1 e => ?_)) (fun y => absurd y (by decide))) (fun y => absurd y (by decide))) (fun y => absurd (by decide) y))))
          · rw [cp, n1.2.1 p hp, q5, (g1 p hp).2.1]
          · obtain ⟨rfl, rfl⟩ := e
            exact b_H_party_64 ⟨_, rfl, rfl, rfl⟩
          · rw [cp, n2.2.1 p hp, (g2 p hp).2.1]
          · obtain ⟨rfl, rfl⟩ := e
            exact b_Mo_party_62 ⟨_, rfl, rfl, rfl⟩
        · refine ro_i (x := -1) (cA (b_H_party_10 (fun y => absurd y e0) (fun y => absurd y e1) (fun y => absurd y e2) (fun _ _ _ => b_H_party_65 ⟨_, rfl, rfl, rfl⟩))) (cM (b_Mo_party_19 (fun _ => m28) (fun z => b_Mo_party_23 (fun y => ?_) (fun _ => m28))))
          obtain ⟨j, hj, rfl⟩ := nI_of2 (M := nI 2) (n := 2) (nI_toInt (by omega)) z y
          exfalso
          match j, hj with
          | 0, _ => exact e0 rfl
          | 1, _ => exact e1 rfl
          | 2, _ => exact e2 rfl
/-- the triple's row -/
def trW (x : Int32) : Nat := if x = 0 then 61 else if x = 1 then 62 else 63
theorem w_tri (hc : c < 40000) : zMi l Gr (zc n w) 168 M_Dealer_tripleBit d [.ref 91, .int (nI c), .int x2, .int x3] S (fun v S' => v = (S.1 (trW x2) c >>> (x3 &&& 31)) &&& 1 ∧ S' = S) := by
  have cc : (nI c).toNatClampNeg = c := nI_clamp (by omega)
  have vc : vp_in (nI c) 40000 := vp_in_nI hc (by omega)
  have z0 : ¬ nI c < 0 := nI_pos (by omega)
  have z4 : nI c < 40000 := (nI_ltI (b := 40000) (by omega) (by omega)).mpr hc
  refine e_Dealer_tripleBit (b_Dealer_tripleBit_0 (fun y0 => b_Dealer_tripleBit_11 (fun y1 => b_Dealer_tripleBit_23 (b_Dealer_tripleBit_27_1 (fun y => absurd y z0) (fun _ => b_Dealer_tripleBit_33_1 (fun _ => b_Dealer_tripleBit_43_1 vc (b_Dealer_tripleBit_51 ⟨_, rfl, ?_, rfl⟩)) (fun y => absurd z4 y)))) (fun y1 => b_Dealer_tripleBit_16 (b_Dealer_tripleBit_27_2 (fun y => absurd y z0) (fun _ => b_Dealer_tripleBit_33_2 (fun _ => b_Dealer_tripleBit_43_2 vc (b_Dealer_tripleBit_51 ⟨_, rfl, ?_, rfl⟩)) (fun y => absurd z4 y))))) (fun y0 => b_Dealer_tripleBit_4 (b_Dealer_tripleBit_27 (fun y => absurd y z0) (fun _ => b_Dealer_tripleBit_33 (fun _ => b_Dealer_tripleBit_43 vc (b_Dealer_tripleBit_51 ⟨_, rfl, ?_, rfl⟩)) (fun y => absurd z4 y)))))
  · rw [cc]
    unfold trW
    rw [if_neg y0, if_neg y1]
  · rw [cc]
    unfold trW
    rw [if_neg y0, if_pos y1]
  · rw [cc]
    unfold trW
    rw [if_pos y0]
theorem ro_dealt (hg : ip_gk (lg_tbl, vwCl, Gr)) (hn : 2 ≤ n ∧ n ≤ 16) (hw : 1 ≤ w ∧ w ≤ 32) (h : iDl n w S) : roI l Gr n w (d + 1) M_H_dealt M_Mo_dealt [.int x1, .int x2, .int x3] S := by
  have c45 : zW l Gr (zc n w) 168 M_H_dealt (d + 1) 45 [none, none, none, none] [] S (fun v S' => ∃ x, v = some (.int x) ∧ x = -1 ∧ S' = S) := b_H_dealt_45 ⟨_, rfl, rfl, rfl⟩
  have c0 : (S.1 0 15 = 0 ∨ x1 < 0 ∨ nI n ≤ x1) → zMi l Gr (zc n w) 168 M_H_dealt (d + 1) [.ref 32, .int x1, .int x2, .int x3] S (fun v S' => v = -1 ∧ S' = S) := fun q => by
    refine e_H_dealt (b_H_dealt_0 hg (cl_aw0 q) (fun v S1 e => ?_))
    obtain ⟨rfl, rfl⟩ := e
    exact b_H_dealt_5 (fun _ => c45) (fun y => absurd rfl y)
  have m40 : zW l Gr (zc n w) 168 M_Mo_dealt (d + 1) 40 [none, none, none, none] [] S (fun v S' => ∃ x, v = some (.int x) ∧ x = -1 ∧ S' = S) := b_Mo_dealt_40 ⟨_, rfl, rfl, rfl⟩
  rcases aw_or hn.2 h x1 with (⟨h15, h124⟩ | ⟨h15, h124, z | ⟨z, z2⟩⟩) | ⟨p, hp, rfl, h15, h124, h14, h83, hC, -, hS⟩
  · exact ro_i (x := -1) (c0 (Or.inl h15)) (e_Mo_dealt (b_Mo_dealt_0 (fun _ => m40) (fun y => absurd h124 y)))
  · exact ro_i (x := -1) (c0 (Or.inr (Or.inl z))) (e_Mo_dealt (b_Mo_dealt_0 (fun _ => m40) (fun _ => b_Mo_dealt_7 (fun _ => m40) (fun y => absurd z y))))
  · exact ro_i (x := -1) (c0 (Or.inr (Or.inr z2))) (e_Mo_dealt (b_Mo_dealt_0 (fun _ => m40) (fun _ => b_Mo_dealt_7 (fun y => absurd y z) (fun _ => b_Mo_dealt_11 (fun _ => m40) (fun y => absurd z2 y)))))
  · have zp : ¬ nI p < 0 := nI_pos (by omega)
    have zn : ¬ nI n ≤ nI p := nI_ge (by omega) (by omega)
    obtain ⟨G, wb, iw, f1, f2, f3, f4, f5, f6, f7, f8, f9, f10, f11, f12, f13, f14⟩ := dl_f hn.2 hw hC
    obtain ⟨G', wb', iw', vm, k1, k2, k3, k4, k5, k6, k7, k8, k9, k10⟩ := hS
    have eG : G' = G := (nI_eq (by omega) (by omega)).mp (k4.symm.trans f7)
    subst eG
    have cA : ∀ {x : Int32}, zW l Gr (zc n w) 168 M_H_dealt (d + 1) 8 [some (.ref 32), some (.int (nI p)), some (.int x2), some (.int x3)] [] S (fun v S' => ∃ y, v = some (.int y) ∧ y = x ∧ S' = S) → zMi l Gr (zc n w) 168 M_H_dealt (d + 1) [.ref 32, .int (nI p), .int x2, .int x3] S (fun v S' => v = x ∧ S' = S) := fun q => by
      refine e_H_dealt (b_H_dealt_0 hg (cl_aw1 (by rw [h15]; decide) zp zn) (fun v S1 e => ?_))
      obtain ⟨rfl, rfl⟩ := e
      exact b_H_dealt_5 (fun y => absurd y (by decide)) (fun _ => q)
    have cM : ∀ {x : Int32}, zW l Gr (zc n w) 168 M_Mo_dealt (d + 1) 19 [some (.ref 105), some (.int (nI p)), some (.int x2), some (.int x3)] [] S (fun v S' => ∃ y, v = some (.int y) ∧ y = x ∧ S' = S) → zMi l Gr (zc n w) 168 M_Mo_dealt (d + 1) [.ref 105, .int (nI p), .int x2, .int x3] S (fun v S' => v = x ∧ S' = S) := fun q =>
      e_Mo_dealt (b_Mo_dealt_0 (fun y => absurd y (by rw [h124]; decide)) (fun _ => b_Mo_dealt_7 (fun y => absurd y zp) (fun _ => b_Mo_dealt_11 (fun y => absurd y zn) (fun _ => q))))
    by_cases zx : x2 < 0
    · exact ro_i (x := -1) (cA (b_H_dealt_8 (fun _ => c45) (fun y => absurd zx y))) (cM (b_Mo_dealt_19 (fun _ => m40) (fun y => absurd zx y)))
    · obtain ⟨g, hgl, rfl⟩ := nI_of zx
      by_cases zg : g < G'
      · have cg : (nI g).toNatClampNeg = g := nI_clamp (by omega)
        have vg : vp_in (nI g) 40000 := vp_in_nI (by omega) (by omega)
        obtain ⟨-, -, e28, e0, e1⟩ := f14 g zg
        have cA2 : ∀ {x : Int32}, zW l Gr (zc n w) 168 M_H_dealt (d + 1) 23 [some (.ref 32), some (.int (nI p)), some (.int (nI g)), some (.int x3)] [] S (fun v S' => ∃ y, v = some (.int y) ∧ y = x ∧ S' = S) → zMi l Gr (zc n w) 168 M_H_dealt (d + 1) [.ref 32, .int (nI p), .int (nI g), .int x3] S (fun v S' => v = x ∧ S' = S) := fun q => cA (b_H_dealt_8 (fun y => absurd y zx) (fun _ => b_H_dealt_12 (fun y => absurd y (by rw [f7]; exact nI_ge (by omega) (by omega))) (fun _ => q)))
        have cM2 : ∀ {x : Int32}, zW l Gr (zc n w) 168 M_Mo_dealt (d + 1) 31 [some (.ref 105), some (.int (nI p)), some (.int (nI g)), some (.int x3)] [] S (fun v S' => ∃ y, v = some (.int y) ∧ y = x ∧ S' = S) → zMi l Gr (zc n w) 168 M_Mo_dealt (d + 1) [.ref 105, .int (nI p), .int (nI g), .int x3] S (fun v S' => v = x ∧ S' = S) := fun q => cM (b_Mo_dealt_19 (fun y => absurd y zx) (fun _ => b_Mo_dealt_23 (fun y => absurd y (by rw [f8]; exact nI_ge (by omega) (by omega))) (fun _ => q)))
        cases ea : gAn S g with
        | false =>
          rw [ea, if_neg Bool.false_ne_true] at e28
          have z111 : S.1 111 g = 0 := e0.mpr (by rw [ea]; decide)
          refine ro_i (x := -1) (cA2 (b_H_dealt_23 vg (fun _ => c45) (fun y => absurd (by rw [cg]; exact e28) y))) (cM2 (b_Mo_dealt_31 (fun _ => m40) (fun _ => b_Mo_dealt_35 (fun _ => b_Mo_dealt_42 vg (fun y => absurd (by rw [cg]; exact z111) y) (fun _ => b_Mo_dealt_51 ⟨_, rfl, rfl, rfl⟩)) (fun _ => m40))))
        | true =>
          rw [ea, if_pos rfl] at e28
          have o111 : S.1 111 g = 1 := e1.mpr ea
          have n111 : ¬ S.1 111 g = 0 := by rw [o111]; decide
          have hl := aNb_n (S := S) g
          obtain ⟨t1, t2, t3⟩ := k9 g zg o111
          have cA3 : ∀ {x : Int32}, zW l Gr (zc n w) 168 M_H_dealt (d + 1) 36 [some (.ref 32), some (.int (nI p)), some (.int (nI g)), some (.int x3)] [] S (fun v S' => ∃ y, v = some (.int y) ∧ y = x ∧ S' = S) → zMi l Gr (zc n w) 168 M_H_dealt (d + 1) [.ref 32, .int (nI p), .int (nI g), .int x3] S (fun v S' => v = x ∧ S' = S) := fun q => cA2 (b_H_dealt_23 vg (fun y => absurd y (by rw [cg, e28]; exact nI_no (by omega))) (fun _ => q))
          by_cases z3 : x3 < 0
          · exact ro_i (x := -1) (cA3 (b_H_dealt_36 (fun _ => c45) (fun y => absurd z3 y))) (cM2 (b_Mo_dealt_31 (fun _ => m40) (fun y => absurd z3 y)))
          · by_cases z4 : x3 ≤ 2
            · have cA4 : zMi l Gr (zc n w) 168 M_H_dealt (d + 1) [.ref 32, .int (nI p), .int (nI g), .int x3] S (fun v S' => v = (S.1 (trW x3) (aNb S g) >>> (nI p &&& 31)) &&& 1 ∧ S' = S) := cA3 (b_H_dealt_36 (fun y => absurd y z3) (fun _ => b_H_dealt_40 (fun _ => b_H_dealt_47 hg vg (by rw [cg, e28]; exact w_tri (by omega)) (fun v S1 e => by
                obtain ⟨rfl, rfl⟩ := e
                exact b_H_dealt_65 ⟨_, rfl, rfl, rfl⟩)) (fun y => absurd z4 y)))
              refine ro_i cA4 (cM2 (b_Mo_dealt_31 (fun y => absurd y z3) (fun _ => b_Mo_dealt_35 (fun _ => b_Mo_dealt_42 vg (fun _ => b_Mo_dealt_53 (fun y0 => b_Mo_dealt_66 (fun y1 => b_Mo_dealt_80 vg (b_Mo_dealt_86 ⟨_, rfl, ?_, rfl⟩)) (fun y1 => b_Mo_dealt_71 vg (b_Mo_dealt_86 ⟨_, rfl, ?_, rfl⟩))) (fun y0 => b_Mo_dealt_57 vg (b_Mo_dealt_86 ⟨_, rfl, ?_, rfl⟩))) (fun y => absurd (by rw [cg] at y; exact y) n111)) (fun y => absurd z4 y))))
              · unfold trW
                rw [cg, if_neg y0, if_neg y1, t3]
              · unfold trW
                rw [cg, if_neg y0, if_pos y1, t2]
              · unfold trW
                rw [cg, if_pos y0, t1]
            · exact ro_i (x := -1) (cA3 (b_H_dealt_36 (fun y => absurd y z3) (fun _ => b_H_dealt_40 (fun y => absurd y z4) (fun _ => c45)))) (cM2 (b_Mo_dealt_31 (fun y => absurd y z3) (fun _ => b_Mo_dealt_35 (fun y => absurd y z4) (fun _ => m40))))
      · exact ro_i (x := -1) (cA (b_H_dealt_8 (fun y => absurd y zx) (fun _ => b_H_dealt_12 (fun _ => c45) (fun y => absurd (by rw [f7]; exact nI_le (by omega) (by omega)) y)))) (cM (b_Mo_dealt_19 (fun y => absurd y zx) (fun _ => b_Mo_dealt_23 (fun _ => m40) (fun y => absurd (by rw [f8]; exact nI_le (by omega) (by omega)) y))))
end PTY
