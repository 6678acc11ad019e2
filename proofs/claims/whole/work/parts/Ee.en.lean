/-! the reference's inputs: inputsOfAll() -/
theorem wo_all : ((List.range 16).all fun o => (List.range 65).all fun z => decide (((lN (256 * o + z)) >>> ((8 : Int32).toInt64 &&& 63)).toInt32 = nI o)) = true := by decide +kernel
theorem wo8 {o z : Nat} (ho : o < 16) (hz : z ≤ 64) : ((lN (256 * o + z)) >>> ((8 : Int32).toInt64 &&& 63)).toInt32 = nI o := by
  have a := List.all_eq_true.mp wo_all o (List.mem_range.mpr (by omega))
  exact of_decide_eq_true (List.all_eq_true.mp a z (List.mem_range.mpr (by omega)))
section IOA
variable {l : Launch} {Gr : zG} {n w d D M : Nat} {S T B B0 : zS} {Av Av' : Nat → Nat → Prop} {i i' j j' k iw iw' vw vw' p x o r z : Nat} {H : Nat → Nat → Nat → Nat → Prop} {Q : Option Value → zS → Prop}
theorem io_w (hg : ip_gk (lg_tbl, vwCl, Gr)) (hw : w ≤ 32) (hw1 : 1 ≤ w) (ho : o < 16) (hz : z ≤ 64) (hr : r ≤ 1) (hj : j < 12000) (t80 : B0.1 80 j = nI r) (t82 : B0.2 82 j = lN (256 * o + z)) (hiw : iw + max 1 z ≤ 256) (h18 : ∀ a, iw ≤ a → a < iw + max 1 z → S.1 18 a = nI o ∧ S.1 19 a = nI (if r = 1 then 1 else w)) (kk : ∀ B', INs S B0 B' (iw + max 1 z) → zW l Gr (zc n w) 168 M_Mo_inputsOfAll (d + 1) 12 [some (.ref 105), some (.int (nI (j + 1))), none, none] [] B' Q) : ∀ c y B, y + c = max 1 z → INs S B0 B (iw + y) → zW l Gr (zc n w) 168 M_Mo_inputsOfAll (d + 1) 45 [some (.ref 105), some (.int (nI j)), some (.int (nI z)), some (.int (nI y))] [] B Q := by
  have cj : ((nI j : Int32)).toNatClampNeg = j := nI_clamp (by omega)
  have go : ∀ (y : Nat) (B : zS), zW l Gr (zc n w) 168 M_Mo_inputsOfAll (d + 1) 55 [some (.ref 105), some (.int (nI j)), some (.int (nI z)), some (.int (nI y))] [.int (nI (max 1 z)), .int (nI y)] B Q → zW l Gr (zc n w) 168 M_Mo_inputsOfAll (d + 1) 45 [some (.ref 105), some (.int (nI j)), some (.int (nI z)), some (.int (nI y))] [] B Q := fun y B q => by
    refine b_Mo_inputsOfAll_45 (fun q0 => b_Mo_inputsOfAll_54 ?_) (fun q0 => b_Mo_inputsOfAll_50 ?_)
    · have : ¬ z = 0 := fun e => q0 (by rw [e]; rfl)
      rw [show max 1 z = z by omega] at q
      exact q
    · have : z = 0 := (nI_eq (a := z) (b := 0) (by omega) (by omega)).mp q0
      rw [show max 1 z = 1 by omega] at q
      exact q
  intro c
  induction c with
  | zero =>
    intro y B h hI
    refine go y B (b_Mo_inputsOfAll_55 (fun _ => b_Mo_inputsOfAll_153 ?_) (fun q => absurd (nI_le (a := max 1 z) (b := y) (by omega) (by omega)) q))
    rw [show nI j + Int32.ofInt 1 = nI (j + 1) from nI_add j 1]
    rw [show y = max 1 z by omega] at hI
    exact kk B hI
  | succ c ih =>
    intro y B h hI
    obtain ⟨I1, I2, I3, I4, I5⟩ := hI
    have c75 : ((B.1 73 75 : Int32)).toNatClampNeg = iw + y := by rw [I3]; exact nI_clamp (by omega)
    obtain ⟨s18, s19⟩ := h18 (iw + y) (by omega) (by omega)
    obtain ⟨bt, ebt⟩ : ∃ bt, bt = if r = 1 then 1 else w := ⟨_, rfl⟩
    have hbt : bt ≤ 32 := by rw [ebt]; split <;> omega
    rw [← ebt] at s19
    refine go y B (b_Mo_inputsOfAll_55 (fun q => absurd q (nI_ge (a := y) (b := max 1 z) (by omega) (by omega))) (fun _ => b_Mo_inputsOfAll_58 hg (R := fun v X => v = nI bt ∧ X = zi B 115 (iw + y) (nI o)) (vp_in_nI (by omega) (by omega)) (by rw [I3]; exact vp_in_nI (by omega) (by omega)) ?_ (fun v X k => ?_)))
    · rw [cj, c75, I1 80 j (by omega) (by omega), t80, I2 82 j (by omega), t82, wo8 ho hz]
      refine zMi_imp wm_width (fun v X k => ⟨?_, k.2⟩)
      rw [k.1, ebt]
      by_cases q : r = 1
      · rw [if_pos q, if_neg (by rw [q]; decide)]
        rfl
      · rw [if_neg q, if_pos (by rw [show r = 0 by omega]; rfl)]
    · obtain ⟨ev, eX⟩ := k
      subst ev eX
      have x75 : (zi B 115 (iw + y) (nI o)).1 73 75 = nI (iw + y) := by rw [zi_c (by decide)]; exact I3
      have x65 : (zi B 115 (iw + y) (nI o)).1 73 65 = nI (iW S (iw + y)) := by rw [zi_c (by decide)]; exact I4
      rw [I3]
      refine b_Mo_inputsOfAll_95 (vp_in_nI (by omega) (by omega)) (by rw [x75]; exact vp_in_nI (by omega) (by omega)) ?_
      rw [x75, x65, nI_clamp (by omega), show nI y + Int32.ofInt 1 = nI (y + 1) from nI_add y 1, zi_v, nI_add, nI_1]
      have eW : iW S (iw + y + 1) = iW S (iw + y) + bt := by
        show iW S (iw + y) + iB S (iw + y) = _
        unfold iB
        rw [s19, nI_clamp (by omega)]
      refine ih (y + 1) _ (by omega) ⟨fun c i q1 q2 => ?_, fun c i q => ?_, ?_, ?_, fun a ha => ?_⟩
      · rw [zi_get, if_neg (by omega), zi_get, if_neg (by omega), zj_1, zi_get, if_neg (by omega), zi_get, if_neg (by omega), zi_get, if_neg (by omega)]
        exact I1 c i q1 q2
      · show (zj _ 118 (iw + y) 0).2 c i = _
        rw [zj_c (fun e => q e)]
        exact I2 c i q
      · rw [show iw + (y + 1) = iw + y + 1 by omega]
        exact zi_v
      · rw [zi_k (by decide), show iw + (y + 1) = iw + y + 1 by omega, eW]
        exact zi_v
      · by_cases q : a = iw + y
        · subst q
          refine ⟨?_, ?_, ?_, ?_⟩
          · rw [zi_c (by decide), zi_c (by decide), zj_1, zi_c (by decide), zi_c (by decide), zi_v, s18]
          · rw [zi_c (by decide), zi_c (by decide), zj_1, zi_c (by decide), zi_v, s19]
          · rw [zi_c (by decide), zi_c (by decide), zj_1, zi_v]
          · show (zj _ 118 (iw + y) 0).2 118 (iw + y) = 0
            exact zj_v
        · obtain ⟨g1, g2, g3, g4⟩ := I5 a (by omega)
          refine ⟨?_, ?_, ?_, ?_⟩
          · rw [zi_c (by decide), zi_c (by decide), zj_1, zi_c (by decide), zi_c (by decide), zi_k q]
            exact g1
          · rw [zi_c (by decide), zi_c (by decide), zj_1, zi_c (by decide), zi_k q, zi_c (by decide)]
            exact g2
          · rw [zi_c (by decide), zi_c (by decide), zj_1, zi_k q, zi_c (by decide), zi_c (by decide)]
            exact g3
          · show (zj _ 118 (iw + y) 0).2 118 a = 0
            rw [zj_k q]
            exact g4
theorem io_all (hg : ip_gk (lg_tbl, vwCl, Gr)) (hw : w ≤ 32) (hw1 : 1 ≤ w) (hn : n ≤ 16) (hM : M ≤ 12000) (h13 : B0.1 73 13 = nI M) (hT : ∀ c x, (78 ≤ c ∧ c ≤ 81) → B0.1 c x = T.1 c x) (hT2 : ∀ x, B0.2 82 x = T.2 82 x) : ∀ k Av vw iw i j p, aP n w D S T H k Av vw iw i j p → j ≤ M → (∀ B, INs S B0 B iw → zW l Gr (zc n w) 168 M_Mo_inputsOfAll (d + 1) 12 [some (.ref 105), some (.int (nI j)), none, none] [] B Q) → ∀ B, INs S B0 B 0 → zW l Gr (zc n w) 168 M_Mo_inputsOfAll (d + 1) 12 [some (.ref 105), some (.int (nI 0)), none, none] [] B Q
  | 0, Av, vw, iw, i, j, p, h, _, kk, B, hB => by
    obtain ⟨e1, e2, e3, e4, e5⟩ := h
    subst e2 e3
    exact kk B hB
  | k + 1, Av, vw, iw, i, j, p, h, hj, kk, B, hB => by
    obtain ⟨i0, j0, iw0, vw0, A0, p0, h0, h1, hpp, hH⟩ := h
    have bd := aJ_bnd h1
    refine io_all hg hw hw1 hn hM h13 hT hT2 k A0 vw0 iw0 i0 j0 p0 h0 (by omega) (fun B hB => ?_) B hB
    have b13 : B.1 73 13 = nI M := (hB.1 73 13 (by omega) (by omega)).trans h13
    have b78 : ∀ x, B.1 78 x = T.1 78 x := fun x => (hB.1 78 x (by omega) (by omega)).trans (hT 78 x (by omega))
    have skp : N23 T j0 j → iw0 = iw → zW l Gr (zc n w) 168 M_Mo_inputsOfAll (d + 1) 12 [some (.ref 105), some (.int (nI j0)), none, none] [] B Q := fun hn e => io_skip hM b13 b78 hj (j - j0) j0 (by omega) hn (kk B (by rw [← e]; exact hB))
    rcases h1 with ⟨h1, ei⟩ | ⟨h1, ev⟩ | ⟨h1, ei, ev⟩ | ⟨h1, eA, ei, ev⟩
    · obtain ⟨nn, h1⟩ := h1
      exact skp (aS_n _ _ _ _ _ _ _ _ _ _ _ _ h1) ei.symm
    · obtain ⟨e, r, z, o, q1, q2, q3, q4, q5, q6, q7, q8, q9, q10, q11, q12, e1, e2, f1, t1, t2, t3, t4, q13⟩ := h1
      refine io_skip hM b13 b78 (j' := j0 + 1) (by omega) 1 j0 (by omega) (N_1 t1) ?_
      refine b_Mo_inputsOfAll_12 (fun y => absurd y (by rw [b13]; exact nI_ge (a := j0 + 1) (b := M) (by omega) (by omega))) (fun _ => b_Mo_inputsOfAll_20 (vp_in_nI (by omega) (by omega)) (fun y => absurd (by rw [nI_clamp (by omega), b78]; exact t2) y) (fun _ => b_Mo_inputsOfAll_31 (vp_in_nI (by omega) (by omega)) ?_))
      rw [nI_clamp (by omega), hB.2.1 82 _ (by omega), hT2, t4, wi (by omega) q7]
      refine io_w hg hw hw1 (by omega) q7 q6 (by omega) ((hT 80 _ (by omega)).trans t3) ((hT2 _).trans t4) (by omega) (fun a z1 z2 => q13 a z1 (by omega)) (fun B' hB' => ?_) (max 1 z) 0 B (by omega) hB
      rw [← q9] at hB'
      rw [show j0 + 1 + 1 = j by omega]
      exact kk B' hB'
    · obtain ⟨e, r, k', i1, j1, q1, q2, q3, q4, q5, q6, q7, q8, hxx, q9, q10, e1, e2, f1, f2, f3, t1, t2, t3, t4, t5⟩ := h1
      refine skp ?_ ei.symm
      rw [e2]
      refine N_app (N_app (N_app (N_app (N_1 t1) (par_n k' (fun a ha => (q8 a ha).2.2.2.2.2))) (N_1 t4)) ?_) (N_1 t5)
      rw [show j0 + 1 + k' + 1 = j0 + 2 + k' by omega]
      exact aX_n hxx
    · obtain ⟨r, i1, j1, hr, hxx, e1, e2, f1, f2, f3, f4, g1, g2, g3, g4, g5⟩ := h1
      refine skp ?_ ei.symm
      rw [e2]
      exact N_app (N_app (N_app (N_1 g1) (aX_n hxx)) (N_1 g3)) (N_1 g5)
end IOA
