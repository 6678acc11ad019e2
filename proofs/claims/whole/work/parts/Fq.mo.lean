/-! mean()'s operands: numbers, signs, operators, choices -/
/-- a word more on the pile -/
def mPu (X : zS) (h : Nat) (v : Int64) : zS := zi (zj X 147 h v) 73 115 (nI (h + 1))
/-- the pile's top taken off, the word below written -/
def mPo (X : zS) (h : Nat) (v : Int64) : zS := zj (zi X 73 115 (nI (h + 1))) 147 h v
section MOP
variable {l : Launch} {Gr : zG} {n w d i h NX NY o : Nat} {X : zS} {v : Int64}
theorem wm_pushW (hh : h < 4200) (h115 : X.1 73 115 = nI h) : zMv l Gr (zc n w) 168 M_Mo_pushWord d [.ref 105, .long v] X (fun X' => X' = mPu X h v) := by
  refine e_Mo_pushWord (b_Mo_pushWord_0 (by rw [h115]; exact vp_in_nI hh (by omega)) ⟨rfl, ?_⟩)
  rw [h115, nI_clamp (by omega), show nI h + 1 = nI (h + 1) from nI_add h 1]
  rfl
theorem mo_fin : zW l Gr (zc n w) 168 M_Mo_meanOperand (d + 1) 596 [none, some (.int (nI i)), none, none, none, none] [] X (fun y X' => ∃ z, y = some (.int z) ∧ z = nI (i + 1) ∧ X' = X) := by
  refine b_Mo_meanOperand_596 ?_
  exact ⟨_, rfl, nI_add i 1, rfl⟩
theorem mo_num (hg : ip_gk (lg_tbl, vwCl, Gr)) (hi : i < 12000) (hh : h < 4200) (h115 : X.1 73 115 = nI h) (hk : X.1 78 i = 2) : zMi l Gr (zc n w) 168 M_Mo_meanOperand (d + 1) [.ref 105, .int (nI i)] X (fun z X' => z = nI (i + 1) ∧ X' = mPu X h (X.2 82 i)) := by
  have ci : (nI i).toNatClampNeg = i := nI_clamp (by omega)
  have vi : vp_in (nI i) 12000 := vp_in_nI hi (by omega)
  have k := hk
  refine e_Mo_meanOperand (b_Mo_meanOperand_0 vi (fun _ => b_Mo_meanOperand_72 hg vi (wm_pushW hh h115) (fun X' e => ?_)) (fun q => ?_) (fun q => ?_) (fun q => ?_) (fun q => ?_) (fun q => ?_) (fun q => ?_) (fun q => ?_) (fun q => ?_) (fun q => ?_) (fun q => ?_))
  · subst e
    rw [ci]
    exact b_Mo_meanOperand_82 mo_fin
  all_goals (rw [ci, hk] at q; exact absurd q (by decide))
theorem mo_tf (hg : ip_gk (lg_tbl, vwCl, Gr)) (hi : i < 12000) (hh : h < 4200) (h115 : X.1 73 115 = nI h) (hk : X.1 78 i = 3 ∨ X.1 78 i = 4) : zMi l Gr (zc n w) 168 M_Mo_meanOperand (d + 1) [.ref 105, .int (nI i)] X (fun z X' => z = nI (i + 1) ∧ X' = mPu X h (if X.1 78 i = 3 then 1 else 0)) := by
  have ci : (nI i).toNatClampNeg = i := nI_clamp (by omega)
  have vi : vp_in (nI i) 12000 := vp_in_nI hi (by omega)
  have go : zW l Gr (zc n w) 168 M_Mo_meanOperand (d + 1) 85 [some (.ref 105), some (.int (nI i)), none, none, none, none] [] X (fun y X' => ∃ z, y = some (.int z) ∧ z = nI (i + 1) ∧ X' = mPu X h (if X.1 78 i = 3 then 1 else 0)) := by
    refine b_Mo_meanOperand_85 vi (fun q => b_Mo_meanOperand_100 (b_Mo_meanOperand_101 hg (wm_pushW hh h115) (fun X' e => ?_))) (fun q => b_Mo_meanOperand_96 (b_Mo_meanOperand_101 hg (wm_pushW hh h115) (fun X' e => ?_)))
    · rw [ci] at q
      subst e
      rw [if_neg q]
      exact b_Mo_meanOperand_104 mo_fin
    · rw [ci] at q
      subst e
      rw [if_pos q]
      exact b_Mo_meanOperand_104 mo_fin
  refine e_Mo_meanOperand (b_Mo_meanOperand_0 vi (fun q => ?_) (fun _ => go) (fun _ => go) (fun q => ?_) (fun q => ?_) (fun q => ?_) (fun q => ?_) (fun q => ?_) (fun q => ?_) (fun q => ?_) (fun _ q3 q4 => ?_))
  all_goals first
    | (rw [ci] at q3 q4; rcases hk with e | e; exact absurd e q3; exact absurd e q4)
    | (rw [ci] at q; rcases hk with e | e <;> (rw [e] at q; exact absurd q (by decide)))
theorem mo_bin (hg : ip_gk (lg_tbl, vwCl, Gr)) (hw : 1 ≤ w ∧ w ≤ 32) (hi : i < 12000) (hh : h + 2 ≤ 4200) (h115 : X.1 73 115 = nI (h + 2)) (hk : X.1 78 i = 13) (h79 : X.1 79 i = nI o) (hx : X.2 147 h = lN NX) (hy : X.2 147 (h + 1) = lN NY) (hX : NX < 2 ^ w) (hY : NY < 2 ^ w) (ho : o ≤ 18) (ho1 : 1 ≤ o) (ho2 : ¬ o = 12) (ho3 : ¬ o = 13) : zMi l Gr (zc n w) 168 M_Mo_meanOperand (d + 2) [.ref 105, .int (nI i)] X (fun z X' => z = nI (i + 1) ∧ X' = mPo X h (lN (bnN w o NX NY % 2 ^ w))) := by
  have ci : (nI i).toNatClampNeg = i := nI_clamp (by omega)
  have vi : vp_in (nI i) 12000 := vp_in_nI hi (by omega)
  have e1 : X.1 73 115 - 1 = nI (h + 1) := by rw [h115]; exact sub_nn (b := 1) (by omega)
  have e2 : X.1 73 115 - 1 - 1 = nI h := by rw [e1]; exact sub_nn (b := 1) (by omega)
  refine e_Mo_meanOperand (b_Mo_meanOperand_0 vi (fun q => ?_) (fun q => ?_) (fun q => ?_) (fun q => ?_) (fun q => ?_) (fun q => ?_) (fun q => ?_) (fun q => ?_) (fun _ => b_Mo_meanOperand_479 hg vi (by rw [e2]; exact vp_in_nI (by omega) (by omega)) (by rw [e1]; exact vp_in_nI (by omega) (by omega)) (R := fun v X' => v = lN (bnN w o NX NY % 2 ^ w) ∧ X' = zi X 73 115 (nI (h + 1))) (by rw [ci, h79, e2, e1, nI_clamp (show h < 2 ^ 31 by omega), nI_clamp (show h + 1 < 2 ^ 31 by omega), hx, hy]; exact wm_mbin hg hw hX hY ho ho1 ho2 ho3) (fun v X' e => ?_)) (fun q => ?_) (fun _ _ _ _ _ _ _ _ q => ?_))
  all_goals first
    | (rw [ci, hk] at q; exact absurd q (by decide))
    | skip
  obtain ⟨rfl, rfl⟩ := e
  rw [e2]
  refine b_Mo_meanOperand_529 (vp_in_nI (by omega) (by omega)) ?_
  rw [nI_clamp (by omega)]
  exact mo_fin
end MOP
