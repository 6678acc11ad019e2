/-! mean()'s operands: choices, NAMEs -/
section MOQ
variable {l : Launch} {Gr : zG} {n w d i h a NX : Nat} {X : zS} {v : Int64}
theorem mo_sel (hi : i < 12000) (hh : h + 3 ≤ 4200) (h115 : X.1 73 115 = nI (h + 3)) (hk : X.1 78 i = 14) (hc : X.2 147 h = lN NX) (hN : NX ≤ 1) : zMi l Gr (zc n w) 168 M_Mo_meanOperand (d + 1) [.ref 105, .int (nI i)] X (fun z X' => z = nI (i + 1) ∧ X' = mPo X h (if NX = 1 then X.2 147 (h + 1) else X.2 147 (h + 2))) := by
  have ci : (nI i).toNatClampNeg = i := nI_clamp (by omega)
  have vi : vp_in (nI i) 12000 := vp_in_nI hi (by omega)
  have e2 : X.1 73 115 - 2 = nI (h + 1) := by rw [h115]; exact sub_nn (b := 2) (by omega)
  have e3 : X.1 73 115 - 2 - 1 = nI h := by rw [e2]; exact sub_nn (b := 1) (by omega)
  have e4 : nI (h + 1) + 1 = nI (h + 2) := nI_add (h + 1) 1
  have c0 : lg_cmp (lN NX) 1 = 0 ↔ NX = 1 := by rw [lg_cmp_eq, show (1 : Int64) = lN 1 from rfl, pk_lEQ (by omega) (by omega)]
  refine e_Mo_meanOperand (b_Mo_meanOperand_0 vi (fun q => ?_) (fun q => ?_) (fun q => ?_) (fun q => ?_) (fun q => ?_) (fun q => ?_) (fun q => ?_) (fun q => ?_) (fun q => ?_) (fun _ => b_Mo_meanOperand_533 (by rw [e3]; exact vp_in_nI (by omega) (by omega)) (fun y => ?_) (fun y => ?_)) (fun _ _ _ _ _ _ _ _ _ q => ?_))
  all_goals first
    | (rw [ci, hk] at q; exact absurd q (by decide))
    | skip
  · rw [e3, nI_clamp (by omega), hc] at y
    have y' : ¬ NX = 1 := fun q => y (c0.mpr q)
    rw [e3, e2, if_neg y']
    refine b_Mo_meanOperand_581 (by rw [zi_v, e4]; exact vp_in_nI (by omega) (by omega)) (b_Mo_meanOperand_592 (vp_in_nI (by omega) (by omega)) ?_)
    rw [zi_v, e4, nI_clamp (by omega), nI_clamp (by omega)]
    exact mo_fin
  · rw [e3, nI_clamp (by omega), hc] at y
    rw [e3, e2, if_pos (c0.mp y)]
    refine b_Mo_meanOperand_569 (by rw [zi_v]; exact vp_in_nI (by omega) (by omega)) (b_Mo_meanOperand_592 (vp_in_nI (by omega) (by omega)) ?_)
    rw [zi_v, nI_clamp (by omega), nI_clamp (by omega)]
    exact mo_fin
theorem mo_nam (hi : i < 12000) (hk : X.1 78 i = 5) {Q : Option Value → zS → Prop} (kk : zW l Gr (zc n w) 168 M_Mo_meanOperand (d + 1) 107 [some (.ref 105), some (.int (nI i)), none, none, none, none] [] X Q) : zW l Gr (zc n w) 168 M_Mo_meanOperand (d + 1) 0 [some (.ref 105), some (.int (nI i)), none, none, none, none] [] X Q := by
  have ci : (nI i).toNatClampNeg = i := nI_clamp (by omega)
  have vi : vp_in (nI i) 12000 := vp_in_nI hi (by omega)
  refine b_Mo_meanOperand_0 vi (fun q => ?_) (fun q => ?_) (fun q => ?_) (fun _ => kk) (fun q => ?_) (fun q => ?_) (fun q => ?_) (fun q => ?_) (fun q => ?_) (fun q => ?_) (fun _ _ _ q => ?_)
  all_goals (rw [ci, hk] at q; exact absurd q (by decide))
theorem mo_210 (hg : ip_gk (lg_tbl, vwCl, Gr)) (hh : h < 4200) (h115 : X.1 73 115 = nI h) : zW l Gr (zc n w) 168 M_Mo_meanOperand (d + 1) 210 [none, some (.int (nI i)), none, none, none, none] [.long v, .ref 105] X (fun y X' => ∃ z, y = some (.int z) ∧ z = nI (i + 1) ∧ X' = mPu X h v) := by
  refine b_Mo_meanOperand_210 hg (wm_pushW hh h115) (fun X' e => ?_)
  subst e
  exact b_Mo_meanOperand_213 mo_fin
/-- a var's word -/
theorem mo_var (hg : ip_gk (lg_tbl, vwCl, Gr)) (hi : i < 12000) (hh : h < 4200) (h115 : X.1 73 115 = nI h) (hk : X.1 78 i = 5) (h102 : X.1 102 i = 2) (h103 : X.1 103 i = nI a) (ha : a < 256) : zMi l Gr (zc n w) 168 M_Mo_meanOperand (d + 1) [.ref 105, .int (nI i)] X (fun z X' => z = nI (i + 1) ∧ X' = mPu X h (X.2 148 a)) := by
  have ci : (nI i).toNatClampNeg = i := nI_clamp (by omega)
  have vi : vp_in (nI i) 12000 := vp_in_nI hi (by omega)
  refine e_Mo_meanOperand (mo_nam hi hk (b_Mo_meanOperand_107 vi (fun _ => ?_) (fun y => absurd y (by rw [ci, h102]; decide))))
  rw [ci, h102]
  refine b_Mo_meanOperand_133 (fun y => absurd rfl y) (fun _ => b_Mo_meanOperand_138 vi (by rw [ci, h103]; exact vp_in_nI ha (by omega)) ?_)
  rw [ci, h103, nI_clamp (by omega)]
  exact mo_210 hg hh h115
/-- a for's NAME -/
theorem mo_loop (hg : ip_gk (lg_tbl, vwCl, Gr)) (hw : w ≤ 32) (hi : i < 12000) (hh : h < 4200) (h115 : X.1 73 115 = nI h) (hk : X.1 78 i = 5) (h102 : X.1 102 i = 3) (h103 : X.1 103 i = nI a) (ha : a < 12000) (h141 : X.2 141 a = lN NX) : zMi l Gr (zc n w) 168 M_Mo_meanOperand (d + 1) [.ref 105, .int (nI i)] X (fun z X' => z = nI (i + 1) ∧ X' = mPu X h (lN (NX % 2 ^ w))) := by
  have ci : (nI i).toNatClampNeg = i := nI_clamp (by omega)
  have vi : vp_in (nI i) 12000 := vp_in_nI hi (by omega)
  refine e_Mo_meanOperand (mo_nam hi hk (b_Mo_meanOperand_107 vi (fun _ => ?_) (fun y => absurd y (by rw [ci, h102]; decide))))
  rw [ci, h102]
  refine b_Mo_meanOperand_133 (fun _ => b_Mo_meanOperand_152 (fun y => absurd rfl y) (fun _ => b_Mo_meanOperand_157 vi (by rw [ci, h103]; exact vp_in_nI ha (by omega)) ?_)) (fun y => absurd y (by decide))
  rw [ci, h103, nI_clamp (by omega), h141, msk_l hw]
  exact mo_210 hg hh h115
end MOQ
