/-! view() on both, whole -/
section VIX
variable {l : Launch} {Gr : zG} {n w d p : Nat} {S S' : zS} {x1 x2 : Int32} {Q : Option Value → zS → Prop}
theorem ro_view (hg : ip_gk (lg_tbl, vwCl, Gr)) (hn : 2 ≤ n ∧ n ≤ 16) (hw : 1 ≤ w ∧ w ≤ 32) (h : iDl n w S) : roI l Gr n w (d + 5) M_H_view M_Mo_view [.int x1, .int x2] S := by
  have c36 : zW l Gr (zc n w) 168 M_H_view (d + 5) 36 [none, none, none] [] S (fun v S' => ∃ x, v = some (.int x) ∧ x = -1 ∧ S' = S) := b_H_view_36 (b_H_view_37 ⟨_, rfl, rfl, rfl⟩)
  have c0 : (S.1 0 15 = 0 ∨ x1 < 0 ∨ nI n ≤ x1) → zMi l Gr (zc n w) 168 M_H_view (d + 5) [.ref 32, .int x1, .int x2] S (fun v S' => v = -1 ∧ S' = S) := fun q => by
    refine e_H_view (b_H_view_0 hg (cl_aw0 q) (fun v S1 e => ?_))
    obtain ⟨rfl, rfl⟩ := e
    exact b_H_view_5 (fun _ => c36) (fun y => absurd rfl y)
  have m48 : zW l Gr (zc n w) 168 M_Mo_view (d + 5) 48 [none, none, none, none, none, none, none, none, none] [] S (fun v S' => ∃ x, v = some (.int x) ∧ x = -1 ∧ S' = S) := b_Mo_view_48 ⟨_, rfl, rfl, rfl⟩
  rcases aw_or hn.2 h x1 with (⟨h15, h124⟩ | ⟨h15, h124, z | ⟨z, z2⟩⟩) | ⟨p, hp, rfl, h15, h124, h14, h83, hC, ⟨Dm, own, av, ob, s, lg, ⟨hD, hB⟩, n1, n2, hP, hG, p1, p2, g1, g2, h12, h11⟩, hS⟩
  · exact ro_i (x := -1) (c0 (Or.inl h15)) (e_Mo_view (b_Mo_view_0 (fun _ => m48) (fun y => absurd h124 y)))
  · exact ro_i (x := -1) (c0 (Or.inr (Or.inl z))) (e_Mo_view (b_Mo_view_0 (fun _ => m48) (fun _ => b_Mo_view_7 (fun _ => m48) (fun y => absurd z y))))
  · exact ro_i (x := -1) (c0 (Or.inr (Or.inr z2))) (e_Mo_view (b_Mo_view_0 (fun _ => m48) (fun _ => b_Mo_view_7 (fun y => absurd y z) (fun _ => b_Mo_view_11 (fun _ => m48) (fun y => absurd z2 y)))))
  · have zp : ¬ nI p < 0 := nI_pos (by omega)
    have zn : ¬ nI n ≤ nI p := nI_ge (by omega) (by omega)
    have cp : (nI p).toNatClampNeg = p := nI_clamp (by omega)
    have vp : vp_in (nI p) n := vp_in_nI hp (by omega)
    have vp16 : vp_in (nI p) 16 := vp_in_nI (by omega) (by omega)
    have hC' := hC
    have hS' := hS
    obtain ⟨G, wb, iw, f1, f2, f3, f4, f5, f6, f7, f8, f9, f10, f11, f12, f13, f14⟩ := dl_f hn.2 hw hC
    obtain ⟨G', wb', iw', vm, k1, k2, k3, k4, k5, k6, k7, k8, k9, k10⟩ := hS'
    have eG : G' = G := (nI_eq (by omega) (by omega)).mp (k4.symm.trans f7)
    have eW : wb' = wb := (nI_eq (by omega) (by omega)).mp (k5.symm.trans f9)
    have eIw : iw' = iw := (nI_eq (by omega) (by omega)).mp (k6.symm.trans f5)
    subst eG eW eIw
    have e67 : S.1 73 67 = nI (aNb S G') := by
      obtain ⟨g0, Dm0, iw0, no, bo, ⟨gg, wb0, hgg, hwb0, q4, q66, q8, q65, q5, -⟩, -⟩ := hC'
      rw [← q5]
      exact f11
    have eo : own p = iQ S p iw' := by
      obtain ⟨g0, Dm0, iw0, no, bo, ceq, hno, -, h145, ⟨j1, j2, j3, j4, j5, j6, j7⟩, -⟩ := hC'
      have e1 : iw0 = iw' := (nI_eq (by omega) (by omega)).mp (j2.symm.trans f5)
      rw [e1] at j7
      have a := (n1.2.1 p hp).symm.trans (j7 p hp).1
      have b := hB.1 p hp
      have c := iQ_le (S := S) (y := p) iw'
      rw [iW_Wb, ← f4] at c
      exact (nI_eq (by omega) (by omega)).mp a
    have hW8 : own p ≤ 8192 := hB.1 p hp
    have hT4 : aNb S G' ≤ 40000 := Nat.le_trans (aNb_n (S := S) G') f1
    have hA : own p * n ≤ 131072 := Nat.mul_le_mul hW8 hn.2
    have hAB : own p * n = own p * (n - 1) + own p := by
      have e : n = (n - 1) + 1 := by omega
      rw [e, Nat.mul_add, Nat.mul_one, ← e]
    have en : nI n - 1 = nI (n - 1) := sub_nn (b := 1) (by omega)
    have e3c : 3 * S.1 24 5 = nI (3 * aNb S G') := by rw [f11]; exact nI_mul 3 _
    have e3m : 3 * S.1 73 67 = nI (3 * aNb S G') := by rw [e67]; exact nI_mul 3 _
    have e167 : S.1 167 p = nI (own p) := n2.2.1 p hp
    have e23 : S.1 23 p = nI (own p) := n1.2.1 p hp
    have vb : zMi l Gr (zc n w) 168 M_Post_viewBits (d + 4) [.ref 97, .int (nI p)] S (fun v S' => v = nI (own p * n + 3 * aNb S G' + lnS own av Dm ob (lg p)) ∧ S' = S) := by
      refine e_Post_viewBits (b_Post_viewBits_0 vp ⟨_, rfl, ?_, rfl⟩)
      rw [cp, e23, e3c, (g1 p hp).2.1, nI_mul, nI_add, nI_add]
    have vbm : zMi l Gr (zc n w) 168 M_Mo_viewBits (d + 4) [.ref 105, .int (nI p)] S (fun v S' => v = nI (own p * n + 3 * aNb S G' + lnS own av Dm ob (lg p)) ∧ S' = S) := by
      refine e_Mo_viewBits (b_Mo_viewBits_0 vp16 ⟨_, rfl, ?_, rfl⟩)
      rw [cp, e167, e3m, (g2 p hp).2.1, nI_mul, nI_add, nI_add]
    have cA : ∀ {x : Int32}, zW l Gr (zc n w) 168 M_H_view (d + 5) 8 [some (.ref 32), some (.int (nI p)), some (.int x2)] [] S (fun v S' => ∃ y, v = some (.int y) ∧ y = x ∧ S' = S) → zMi l Gr (zc n w) 168 M_H_view (d + 5) [.ref 32, .int (nI p), .int x2] S (fun v S' => v = x ∧ S' = S) := fun q => by
      refine e_H_view (b_H_view_0 hg (cl_aw1 (by rw [h15]; decide) zp zn) (fun v S1 e => ?_))
      obtain ⟨rfl, rfl⟩ := e
      exact b_H_view_5 (fun y => absurd y (by decide)) (fun _ => q)
    have cM : ∀ {x : Int32}, zW l Gr (zc n w) 168 M_Mo_view (d + 5) 19 [some (.ref 105), some (.int (nI p)), some (.int x2), none, none, none, none, none, none] [] S (fun v S' => ∃ y, v = some (.int y) ∧ y = x ∧ S' = S) → zMi l Gr (zc n w) 168 M_Mo_view (d + 5) [.ref 105, .int (nI p), .int x2] S (fun v S' => v = x ∧ S' = S) := fun q =>
      e_Mo_view (b_Mo_view_0 (fun y => absurd y (by rw [h124]; decide)) (fun _ => b_Mo_view_7 (fun y => absurd y zp) (fun _ => b_Mo_view_11 (fun y => absurd y zn) (fun _ => q))))
    by_cases zx : x2 < 0
    · exact ro_i (x := -1) (cA (b_H_view_8 (fun _ => c36) (fun y => absurd zx y))) (cM (b_Mo_view_19 (fun _ => m48) (fun y => absurd zx y)))
    · obtain ⟨i, hi, rfl⟩ := nI_of zx
      have cA2 : ∀ {x : Int32}, (nI (own p * n + 3 * aNb S G' + lnS own av Dm ob (lg p)) ≤ nI i → zW l Gr (zc n w) 168 M_H_view (d + 5) 36 [none, none, none] [] S (fun v S' => ∃ y, v = some (.int y) ∧ y = x ∧ S' = S)) → (¬ nI (own p * n + 3 * aNb S G' + lnS own av Dm ob (lg p)) ≤ nI i → zMi l Gr (zc n w) 168 M_Post_viewBit (d + 4) [.ref 97, .int (nI p), .int (nI i)] S (fun v S' => v = x ∧ S' = S)) → zMi l Gr (zc n w) 168 M_H_view (d + 5) [.ref 32, .int (nI p), .int (nI i)] S (fun v S' => v = x ∧ S' = S) := fun q1 q2 => by
        refine cA (b_H_view_8 (fun y => absurd y zx) (fun _ => b_H_view_12 hg vb (fun v S1 e => ?_)))
        obtain ⟨rfl, rfl⟩ := e
        refine b_H_view_21 q1 (fun y => b_H_view_24 hg (q2 y) (fun v S2 e => ?_))
        obtain ⟨rfl, rfl⟩ := e
        exact b_H_view_33 (b_H_view_37 ⟨_, rfl, rfl, rfl⟩)
      have cM2 : ∀ {x : Int32}, (¬ nI i < nI (own p * n + 3 * aNb S G' + lnS own av Dm ob (lg p)) → zW l Gr (zc n w) 168 M_Mo_view (d + 5) 48 [none, none, none, none, none, none, none, none, none] [] S (fun v S' => ∃ y, v = some (.int y) ∧ y = x ∧ S' = S)) → (nI i < nI (own p * n + 3 * aNb S G' + lnS own av Dm ob (lg p)) → zW l Gr (zc n w) 168 M_Mo_view (d + 5) 50 [some (.ref 105), some (.int (nI p)), some (.int (nI i)), none, none, none, none, none, none] [] S (fun v S' => ∃ y, v = some (.int y) ∧ y = x ∧ S' = S)) → zMi l Gr (zc n w) 168 M_Mo_view (d + 5) [.ref 105, .int (nI p), .int (nI i)] S (fun v S' => v = x ∧ S' = S) := fun q1 q2 => by
        refine cM (b_Mo_view_19 (fun y => absurd y zx) (fun _ => b_Mo_view_23 (fun y => absurd y zp) (fun _ => b_Mo_view_29 (fun y => absurd y zn) (fun _ => b_Mo_view_37 (b_Mo_view_42 hg vbm (fun v S1 e => ?_))))))
        obtain ⟨rfl, rfl⟩ := e
        exact b_Mo_view_45 q2 q1
      by_cases zv : nI i < nI (own p * n + 3 * aNb S G' + lnS own av Dm ob (lg p))
      · have hlt := nI_ltB hi zv
        have nle : ¬ nI (own p * n + 3 * aNb S G' + lnS own av Dm ob (lg p)) ≤ nI i := Int32.not_le.mpr zv
        have fin : (∃ x : Int32, zMi l Gr (zc n w) 168 M_Post_viewBit (d + 4) [.ref 97, .int (nI p), .int (nI i)] S (fun v S' => v = x ∧ S' = S) ∧ zW l Gr (zc n w) 168 M_Mo_view (d + 5) 50 [some (.ref 105), some (.int (nI p)), some (.int (nI i)), none, none, none, none, none, none] [] S (fun v S' => ∃ y, v = some (.int y) ∧ y = x ∧ S' = S)) → roI l Gr n w (d + 5) M_H_view M_Mo_view [.int (nI p), .int (nI i)] S := fun ⟨x, q1, q2⟩ => ro_i (x := x) (cA2 (fun y => absurd y nle) (fun _ => q1)) (cM2 (fun y => absurd zv y) (fun _ => q2))
        apply fin
        have hq8 : iQ S p iw' ≤ 8192 := by rw [← eo]; exact hW8
        have hin : ∀ b, b < iw' → iO S b < 16 ∧ iB S b ≤ 32 ∧ S.1 18 b = nI (iO S b) ∧ S.1 19 b = nI (iB S b) ∧ S.1 20 b = nI (Wb (iB S) b) := fun b hb => by
          obtain ⟨i1, i2, -, i4, i5, i6, -⟩ := f12 b hb
          exact ⟨by omega, by omega, i4, i5, i6⟩
        have him : ∀ b, b < iw' → iO S b < 16 ∧ iB S b ≤ 32 ∧ S.1 115 b = nI (iO S b) ∧ S.1 116 b = nI (iB S b) := fun b hb => by
          obtain ⟨i1, i2, -, -, -, -, i7, i8, -⟩ := f12 b hb
          exact ⟨by omega, by omega, i7, i8⟩
        have wire : ∀ {dd a j : Nat}, a < iw' → iO S a = p → j < iB S a → zMi l Gr (zc n w) 168 M_Inputs_wireOf dd [.ref 49, .int (nI p), .int (nI (iQ S p a + j))] S (fun v S' => v = nI (Wb (iB S) a + j) ∧ S' = S) := fun {dd a j} a1 a2 a3 => e_Inputs_wireOf (b_Inputs_wireOf_0 (wo_5 f3 f5 hin hq8 (by omega) a1 a2 a3 ⟨_, rfl, rfl, rfl⟩ a 0 (by omega)))
        by_cases zA : i < own p * n
        · have m50 : ∀ {x : Int32}, zW l Gr (zc n w) 168 M_Mo_view (d + 5) 71 [some (.ref 105), some (.int (nI p)), none, some (.int (nI i)), some (.int (nI (own p))), none, none, none, none] [] S (fun v S' => ∃ y, v = some (.int y) ∧ y = x ∧ S' = S) → zW l Gr (zc n w) 168 M_Mo_view (d + 5) 50 [some (.ref 105), some (.int (nI p)), some (.int (nI i)), none, none, none, none, none, none] [] S (fun v S' => ∃ y, v = some (.int y) ∧ y = x ∧ S' = S) := fun q => b_Mo_view_50 vp16 (fun y => absurd y (by rw [cp, e167, nI_mul]; exact nI_ge (by omega) (by omega))) (fun _ => by rw [cp, e167]; exact q)
          by_cases zo : i < own p
          · obtain ⟨a, j, a1, a2, a3, rfl⟩ := iq_ex (S := S) (f := p) iw' i (by rw [← eo]; exact zo)
            obtain ⟨b1, b2, b3, b4⟩ := k10 a a1
            have hWa := Wb_le (bt := iB S) a1
            have ha32 := (hin a a1).2.1
            have ca : (nI a).toNatClampNeg = a := nI_clamp (by omega)
            refine ⟨nI (vm a / 2 ^ j % 2), e_Post_viewBit (b_Post_viewBit_0 vp (fun y => absurd y (by rw [cp, e23]; exact nI_ge (by omega) (by omega))) (fun _ => b_Post_viewBit_15 hg (wire a1 a2 a3) (fun v S1 e => ?_))), m50 (b_Mo_view_71 (fun _ => b_Mo_view_81 (b_Mo_view_82 (fun _ => b_Mo_view_103 (b_Mo_view_104 (vw_109 f3 him hq8 (by omega) a1 a2 a3 (b_Mo_view_165 (fun y => absurd rfl y) (fun _ => b_Mo_view_170 (vp_in_nI (by omega) (by omega)) ⟨_, rfl, ?_, rfl⟩)) a 0 (by omega)))) (fun y => absurd rfl y))) (fun y => absurd ((nI_ltI (by omega) (by omega)).mpr zo) y))⟩
            · obtain ⟨rfl, rfl⟩ := e
              refine b_Post_viewBit_29 hg (by rw [nI_mul2]; exact w_sho hw.2 (Or.inr ⟨2 * (Wb (iB S1) a + j), by omega, rfl⟩)) (fun v S2 e => ?_)
              obtain ⟨rfl, rfl⟩ := e
              refine b_Post_viewBit_33 hg (w_par hg) (fun v S3 e => ?_)
              obtain ⟨rfl, rfl⟩ := e
              refine b_Post_viewBit_36 ⟨_, rfl, ?_, rfl⟩
              rw [shK_2k (by omega)]
              exact b4 j a3
            · rw [ca, b3]
              exact bit_l (by omega) (pw_lt b1 (by omega))
          · have hlq : i - own p < own p * (n - 1) := by omega
            have hdq : (i - own p) / (n - 1) < own p := (Nat.div_lt_iff_lt_mul (by omega)).mpr hlq
            have hmq : (i - own p) % (n - 1) < n - 1 := Nat.mod_lt _ (by omega)
            obtain ⟨a, j, a1, a2, a3, a4⟩ := iq_ex (S := S) (f := p) iw' ((i - own p) / (n - 1)) (by rw [← eo]; exact hdq)
            have hWa := Wb_le (bt := iB S) a1
            have ha32 := (hin a a1).2.1
            have ca : (nI a).toNatClampNeg = a := nI_clamp (by omega)
            have eL : nI i - nI (own p) = nI (i - own p) := sub_nn (by omega)
            have eDv : nI (i - own p) / nI (n - 1) = nI ((i - own p) / (n - 1)) := pk_div (by omega) (by omega) (by omega)
            have eRm : nI (i - own p) - nI (i - own p) / nI (n - 1) * nI (n - 1) = nI ((i - own p) % (n - 1)) := pk_rem (by omega) (by omega) (by omega)
            have nz : ¬ nI (n - 1) = 0 := fun y => by
              have := (nI_eq (b := 0) (by omega) (by omega)).mp y
              omega
            have e117 := (f12 a a1).2.2.2.2.2.2.2.2.1
            have hv : ∀ (o : Nat), (zW l Gr (zc n w) 168 M_Mo_view (d + 5) 210 [some (.ref 105), none, none, none, none, none, some (.int (nI j)), some (.int (nI a)), none] [.int (if (i - own p) % (n - 1) < p then 0 else 1), .int (nI ((i - own p) % (n - 1)))] S (fun v S' => ∃ y, v = some (.int y) ∧ y = (S.1 151 (Wb (iB S) a + j) >>> (nI (if (i - own p) % (n - 1) < p then (i - own p) % (n - 1) else (i - own p) % (n - 1) + 1) &&& 31)) &&& 1 ∧ S' = S)) := fun _ => by
              refine b_Mo_view_210 (vp_in_nI (by omega) (by omega)) (by rw [ca, e117, nI_add]; exact vp_in_nI (by omega) (by omega)) ⟨_, rfl, ?_, rfl⟩
              rw [ca, e117, nI_add, nI_clamp (by omega)]
              by_cases zq : (i - own p) % (n - 1) < p
              · rw [if_pos zq, if_pos zq, show nI ((i - own p) % (n - 1)) + 0 = nI ((i - own p) % (n - 1)) from Int32.add_zero _]
              · rw [if_neg zq, if_neg zq, show nI ((i - own p) % (n - 1)) + 1 = nI ((i - own p) % (n - 1) + 1) from nI_add _ 1]
            refine ⟨(S.1 151 (Wb (iB S) a + j) >>> (nI (if (i - own p) % (n - 1) < p then (i - own p) % (n - 1) else (i - own p) % (n - 1) + 1) &&& 31)) &&& 1, e_Post_viewBit (b_Post_viewBit_0 vp (fun _ => ?_) (fun y => absurd (by rw [cp, e23]; exact nI_le (by omega) (by omega)) y)), m50 (b_Mo_view_71 (fun y => absurd ((nI_ltI (by omega) (by omega)).mp y) zo) (fun _ => b_Mo_view_77 (b_Mo_view_82 (fun y => absurd y (by decide)) (fun _ => b_Mo_view_89 (by rw [en]; exact nz) (b_Mo_view_104 ?_)))))⟩
            · rw [cp, e23]
              refine b_Post_viewBit_37 (fun y => absurd y (by rw [en]; exact nI_ge (a := 0) (by omega) (by omega))) (fun _ => ?_)
              rw [en, eL]
              refine b_Post_viewBit_55 (fun y => absurd y (by rw [nI_mul]; exact nI_ge (by omega) (by omega))) (fun _ => b_Post_viewBit_64 hg nz (by rw [eDv, a4]; exact wire a1 a2 a3) (fun v S1 e => ?_))
              obtain ⟨rfl, rfl⟩ := e
              rw [eRm]
              refine b_Post_viewBit_89 hg (by rw [nI_mul2]; exact w_sho hw.2 (Or.inr ⟨2 * (Wb (iB S1) a + j), by omega, rfl⟩)) (fun v S2 e => ?_)
              obtain ⟨rfl, rfl⟩ := e
              rw [shK_2k (by omega), k8 _ (by omega)]
              by_cases zq : (i - own p) % (n - 1) < p
              · rw [if_pos zq]
                exact b_Post_viewBit_93 (fun y => absurd y (nI_ge (by omega) (by omega))) (fun _ => b_Post_viewBit_99 (b_Post_viewBit_108 ⟨_, rfl, rfl, rfl⟩))
              · rw [if_neg zq]
                refine b_Post_viewBit_93 (fun _ => b_Post_viewBit_104 (b_Post_viewBit_108 ⟨_, rfl, ?_, rfl⟩)) (fun y => absurd (nI_le (by omega) (by omega)) y)
                rw [show nI ((i - own p) % (n - 1)) + 1 = nI ((i - own p) % (n - 1) + 1) from nI_add _ 1]
            · rw [en, eL, eDv, a4]
              refine vw_109 f3 him hq8 (by omega) a1 a2 a3 (b_Mo_view_165 (fun _ => b_Mo_view_184 (by rw [en]; exact nz) (fun y => b_Mo_view_209 ?_) (fun y => b_Mo_view_205 ?_)) (fun y => absurd y (by decide))) a 0 (by omega)
              · rw [en, eL, eRm] at y ⊢
                have y' := (nI_ltI (by omega) (by omega)).mp y
                have q := hv 0
                rw [if_pos y'] at q
                exact q
              · rw [en, eL, eRm] at y ⊢
                have y' : ¬ (i - own p) % (n - 1) < p := fun q => y ((nI_ltI (by omega) (by omega)).mpr q)
                have q := hv 0
                rw [if_neg y'] at q
                exact q
        · have m50 : ∀ {x : Int32}, (nI (3 * aNb S G') ≤ nI (i - own p * n) → zW l Gr (zc n w) 168 M_Mo_view (d + 5) 341 [some (.ref 105), some (.int (nI p)), none, some (.int (nI (i - own p * n))), none, none, none, none, none] [] S (fun v S' => ∃ y, v = some (.int y) ∧ y = x ∧ S' = S)) → (¬ nI (3 * aNb S G') ≤ nI (i - own p * n) → zW l Gr (zc n w) 168 M_Mo_view (d + 5) 254 [some (.ref 105), some (.int (nI p)), none, some (.int (nI (i - own p * n))), none, none, none, none, none] [] S (fun v S' => ∃ y, v = some (.int y) ∧ y = x ∧ S' = S)) → zW l Gr (zc n w) 168 M_Mo_view (d + 5) 50 [some (.ref 105), some (.int (nI p)), some (.int (nI i)), none, none, none, none, none, none] [] S (fun v S' => ∃ y, v = some (.int y) ∧ y = x ∧ S' = S) := fun q1 q2 => by
            have eL : nI i - nI (own p) * nI n = nI (i - own p * n) := by rw [nI_mul]; exact sub_nn (by omega)
            refine b_Mo_view_50 vp16 (fun _ => ?_) (fun y => absurd (by rw [cp, e167, nI_mul]; exact nI_le (by omega) (by omega)) y)
            rw [cp, e167]
            refine b_Mo_view_234 (fun y => ?_) (fun y => ?_)
            · rw [e3m, eL] at y
              rw [eL]
              exact q1 y
            · rw [e3m, eL] at y
              rw [eL]
              exact q2 y
          have cB : ∀ {x : Int32}, (nI (3 * aNb S G') ≤ nI (i - own p * n) → zW l Gr (zc n w) 168 M_Post_viewBit (d + 4) 152 [some (.ref 97), some (.int (nI p)), none, none, some (.int (nI (i - own p * n))), none, none] [] S (fun v S' => ∃ y, v = some (.int y) ∧ y = x ∧ S' = S)) → (¬ nI (3 * aNb S G') ≤ nI (i - own p * n) → zW l Gr (zc n w) 168 M_Post_viewBit (d + 4) 135 [some (.ref 97), some (.int (nI p)), none, none, some (.int (nI (i - own p * n))), none, none] [] S (fun v S' => ∃ y, v = some (.int y) ∧ y = x ∧ S' = S)) → zMi l Gr (zc n w) 168 M_Post_viewBit (d + 4) [.ref 97, .int (nI p), .int (nI i)] S (fun v S' => v = x ∧ S' = S) := fun {x} q1 q2 => by
            have eL : nI i - nI (own p) = nI (i - own p) := sub_nn (by omega)
            have eL2 : nI (i - own p) - nI (own p) * nI (n - 1) = nI (i - own p * n) := by
              rw [nI_mul, sub_nn (by omega)]
              congr 1
              omega
            have k112 : zW l Gr (zc n w) 168 M_Post_viewBit (d + 4) 112 [some (.ref 97), some (.int (nI p)), none, some (.int (nI (own p))), some (.int (nI (i - own p))), some (.int (nI (n - 1))), none] [] S (fun v S' => ∃ y, v = some (.int y) ∧ y = x ∧ S' = S) := by
              refine b_Post_viewBit_112 (fun y => ?_) (fun y => ?_)
              · rw [e3c, eL2] at y
                rw [eL2]
                exact q1 y
              · rw [e3c, eL2] at y
                rw [eL2]
                exact q2 y
            refine e_Post_viewBit (b_Post_viewBit_0 vp (fun _ => ?_) (fun y => absurd (by rw [cp, e23]; exact nI_le (by omega) (by omega)) y))
            rw [cp, e23]
            refine b_Post_viewBit_37 (fun _ => ?_) (fun _ => ?_)
            · rw [en, eL]
              exact k112
            · rw [en, eL]
              exact b_Post_viewBit_55 (fun _ => k112) (fun y => absurd (by rw [nI_mul]; exact nI_le (by omega) (by omega)) y)
          by_cases zB : i - own p * n < 3 * aNb S G'
          · have h3 : (i - own p * n) / 3 < aNb S G' := by omega
            obtain ⟨g, a1, a2, a3⟩ := aN_ex (S := S) G' ((i - own p * n) / 3) h3
            have hgl := aNb_n (S := S) g
            obtain ⟨t1, t2, t3⟩ := k9 g a1 a2
            have cg : (nI g).toNatClampNeg = g := nI_clamp (by omega)
            have vg : vp_in (nI g) 40000 := vp_in_nI (by omega) (by omega)
            have eD3 : nI (i - own p * n) / 3 = nI ((i - own p * n) / 3) := pk_div (d := 3) (by omega) (by omega) (by omega)
            have eR3 : nI (i - own p * n) - nI (i - own p * n) / 3 * 3 = nI ((i - own p * n) % 3) := pk_rem (d := 3) (by omega) (by omega) (by omega)
            have h01 : ∀ b, b < G' → S.1 111 b = 0 ∨ S.1 111 b = 1 := fun b hb => by
              by_cases z : gAn S b = true
              · exact Or.inr ((f14 b hb).2.2.2.2.mpr z)
              · exact Or.inl ((f14 b hb).2.2.2.1.mpr z)
            refine ⟨(S.1 (trW (nI ((i - own p * n) % 3))) (aNb S g) >>> (nI p &&& 31)) &&& 1, cB (fun y => absurd y (nI_ge (by omega) (by omega))) (fun _ => b_Post_viewBit_135 hg (by rw [eD3, ← a3]; exact w_tri (by omega)) (fun v S1 e => ?_)), m50 (fun y => absurd y (nI_ge (by omega) (by omega))) (fun _ => b_Mo_view_254 (vw_260 f1 h01 a1 a2 (by rw [eD3, a3]) (b_Mo_view_296 (fun y => b_Mo_view_312 (fun y2 => b_Mo_view_329 vg (b_Mo_view_336 ⟨_, rfl, ?_, rfl⟩)) (fun y2 => b_Mo_view_319 vg (b_Mo_view_336 ⟨_, rfl, ?_, rfl⟩))) (fun y => b_Mo_view_302 vg (b_Mo_view_336 ⟨_, rfl, ?_, rfl⟩))) g 0 (by omega)))⟩
            · obtain ⟨rfl, rfl⟩ := e
              have eR3' := eR3
              rw [eD3] at eR3'
              refine b_Post_viewBit_151 ⟨_, rfl, ?_, rfl⟩
              rw [a3, eR3']
            · rw [eR3] at y y2
              unfold trW
              rw [cg, if_neg y, if_neg y2, t3]
            · rw [eR3] at y y2
              unfold trW
              rw [cg, if_neg y, if_pos y2, t2]
            · rw [eR3] at y
              unfold trW
              rw [cg, if_pos y, t1]
          · have eL : nI (i - own p * n) - nI (3 * aNb S G') = nI (i - own p * n - 3 * aNb S G') := sub_nn (by omega)
            have hlp : (lg p).length ≤ (n - 1) * 2002 := Nat.le_trans (hG p hp).2.1 (Nat.mul_le_mul_left _ (by omega))
            obtain ⟨v, v1, v2⟩ := ab_both (l := l) (Gr := Gr) (d := d) (d' := d + 2) hg hn hw hC hS hD hB n1 n2 g1 g2 hp hlp (hG p hp).2.2 (lg p) 0 (i - own p * n - 3 * aNb S G') (fun j m hj => by rw [Nat.zero_add]; exact hj) (by omega) (by omega)
            refine ⟨v, cB (fun _ => b_Post_viewBit_152 hg (R := fun y S' => y = v ∧ S' = S) (by rw [e3c, eL]; exact e_Post_arrivedBit (b_Post_arrivedBit_0 v1)) (fun y S1 e => ?_)) (fun y => absurd (nI_le (by omega) (by omega)) y), m50 (fun _ => b_Mo_view_341 ?_) (fun y => absurd (nI_le (by omega) (by omega)) y)⟩
            · obtain ⟨rfl, rfl⟩ := e
              exact b_Post_viewBit_169 ⟨_, rfl, rfl, rfl⟩
            · rw [e3m, eL, show 30060 * nI p = nI (30060 * p + 0) from nI_mul 30060 p]
              exact v2
      · exact ro_i (x := -1) (cA2 (fun _ => c36) (fun y => absurd (Int32.not_le.mp y) zv)) (cM2 (fun _ => m48) (fun y => absurd y zv))
end VIX
