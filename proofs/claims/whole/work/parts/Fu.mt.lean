/-! mean()'s statements: set, output, if, else, def's NAME -/
section MST
variable {l : Launch} {Gr : zG} {n w d i h a j ou : Nat} {X : zS} {v : Int64}
theorem mt_fin : zW l Gr (zc n w) 168 M_Mo_meanStatement d 558 [none, some (.int (nI i)), none, none, none, none] [] X (fun y X' => ∃ z, y = some (.int z) ∧ z = nI (i + 1) ∧ X' = X) := by
  refine b_Mo_meanStatement_558 ?_
  exact ⟨_, rfl, nI_add i 1, rfl⟩
theorem mt_set (hi : i < 12000) (hh : h < 4200) (h115 : X.1 73 115 = nI (h + 1)) (hk : X.1 78 i = 32) (h103 : X.1 103 i = nI a) (ha : a < 256) : zMi l Gr (zc n w) 168 M_Mo_meanStatement d [.ref 105, .int (nI i)] X (fun z X' => z = nI (i + 1) ∧ X' = zj (zi X 73 115 (nI h)) 148 a (X.2 147 h)) := by
  have ci : (nI i).toNatClampNeg = i := nI_clamp (by omega)
  have vi : vp_in (nI i) 12000 := vp_in_nI hi (by omega)
  have e1 : X.1 73 115 - 1 = nI h := by rw [h115]; exact sub_nn (b := 1) (by omega)
  refine e_Mo_meanStatement (b_Mo_meanStatement_0 vi (fun q => ?_) (fun q => ?_) (fun q => ?_) (fun q => ?_) (fun _ => b_Mo_meanStatement_289 vi (by rw [e1]; exact vp_in_nI hh (by omega)) (by rw [ci, h103]; exact vp_in_nI ha (by omega)) ?_) (fun q => ?_) (fun q => ?_) (fun q => ?_) (fun q => ?_) (fun q => ?_) (fun _ _ _ _ q => ?_))
  all_goals first
    | (rw [ci, hk] at q; exact absurd q (by decide))
    | skip
  rw [e1, ci, h103, nI_clamp (show h < 2 ^ 31 by omega), nI_clamp (show a < 2 ^ 31 by omega)]
  exact mt_fin
theorem mt_out (hi : i < 12000) (hh : h < 4200) (h115 : X.1 73 115 = nI (h + 1)) (hk : X.1 78 i = 30) (h118 : X.1 73 118 = nI ou) (ho : ou < 500) : zMi l Gr (zc n w) 168 M_Mo_meanStatement d [.ref 105, .int (nI i)] X (fun z X' => z = nI (i + 1) ∧ X' = zi (zj (zi X 73 115 (nI h)) 149 ou (X.2 147 h)) 73 118 (nI (ou + 1))) := by
  have ci : (nI i).toNatClampNeg = i := nI_clamp (by omega)
  have vi : vp_in (nI i) 12000 := vp_in_nI hi (by omega)
  have e1 : X.1 73 115 - 1 = nI h := by rw [h115]; exact sub_nn (b := 1) (by omega)
  refine e_Mo_meanStatement (b_Mo_meanStatement_0 vi (fun q => ?_) (fun q => ?_) (fun q => ?_) (fun _ => b_Mo_meanStatement_248 (by rw [e1]; exact vp_in_nI hh (by omega)) (by rw [h118]; exact vp_in_nI ho (by omega)) ?_) (fun q => ?_) (fun q => ?_) (fun q => ?_) (fun q => ?_) (fun q => ?_) (fun q => ?_) (fun _ _ _ q => ?_))
  all_goals first
    | (rw [ci, hk] at q; exact absurd q (by decide))
    | skip
  rw [e1, h118, nI_clamp (show h < 2 ^ 31 by omega), nI_clamp (show ou < 2 ^ 31 by omega), show nI ou + 1 = nI (ou + 1) from nI_add ou 1]
  exact mt_fin
theorem mt_else (hi : i < 12000) (hk : X.1 78 i = 36) (h80 : X.1 80 i = nI j) : zMi l Gr (zc n w) 168 M_Mo_meanStatement d [.ref 105, .int (nI i)] X (fun z X' => z = nI (j + 1) ∧ X' = X) := by
  have ci : (nI i).toNatClampNeg = i := nI_clamp (by omega)
  have vi : vp_in (nI i) 12000 := vp_in_nI hi (by omega)
  refine e_Mo_meanStatement (b_Mo_meanStatement_0 vi (fun q => ?_) (fun q => ?_) (fun q => ?_) (fun q => ?_) (fun q => ?_) (fun q => ?_) (fun q => ?_) (fun _ => b_Mo_meanStatement_421 vi ⟨_, rfl, ?_, rfl⟩) (fun q => ?_) (fun q => ?_) (fun _ _ _ _ _ _ _ q => ?_))
  all_goals first
    | (rw [ci, hk] at q; exact absurd q (by decide))
    | skip
  rw [ci, h80]
  exact nI_add j 1
theorem mt_dnm (hi : i < 12000) (hk : X.1 78 i = 26) (h82 : X.2 82 i = lN j) : zMi l Gr (zc n w) 168 M_Mo_meanStatement d [.ref 105, .int (nI i)] X (fun z X' => z = nI (j + 1) ∧ X' = X) := by
  have ci : (nI i).toNatClampNeg = i := nI_clamp (by omega)
  have vi : vp_in (nI i) 12000 := vp_in_nI hi (by omega)
  refine e_Mo_meanStatement (b_Mo_meanStatement_0 vi (fun q => ?_) (fun _ => b_Mo_meanStatement_178 vi ⟨_, rfl, ?_, rfl⟩) (fun q => ?_) (fun q => ?_) (fun q => ?_) (fun q => ?_) (fun q => ?_) (fun q => ?_) (fun q => ?_) (fun q => ?_) (fun _ q => ?_))
  all_goals first
    | (rw [ci, hk] at q; exact absurd q (by decide))
    | skip
  rw [ci, h82, lN_i]
  exact nI_add j 1
end MST
